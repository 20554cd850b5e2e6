/-! move -/
section MV
variable {n : Nat} {s : St} {x y z u : Int32}
theorem b30 : (30 : Int32) = nI 30 := rfl
/-- units of one lot from a bin to another -/
def St.mvu (s : St) (l a b q : Nat) : Nat → Nat → Nat := upd2 (upd2 s.un l a (s.un l a - q)) l b (s.un l b + q)
theorem set_un {s : St} {u : Nat → Nat → Nat} : (s.set 10 u).un = u := rfl
theorem un_keep {r : Nat → Nat → Nat} {l b x m : Nat} (h : ∀ l b, m ≤ l → r l b = 0) (hl : l < m) : ∀ l2 b2, m ≤ l2 → upd2 r l b x l2 b2 = 0 := by
  intro l2 b2 h2
  rw [upd2_ne (by omega)]
  exact h l2 b2 h2
theorem neg_nI {a q : Nat} (h : q ≤ a) : nI a + -nI q = nI (a - q) := by rw [← Int32.sub_eq_add_neg, sub_nI h]
theorem op_move (h : Inv n s) : Op kX5_move kL_moves n [.int x, .int y, .int z, .int u] s (XJ s) := by
  have hl := h.nl_; have hne := h.ne_
  rcases is_or x s.nl with ⟨l, hl1, e⟩ | hx
  rotate_left
  · refine Op.no 2 h (by decide) (fun w hw K hK => ?_)
    · exact bX5_move_0 (by decide) (k_nLot hl hw.nl hx (mm_Kx rfl (hK _ hw fC.rfl)))
  subst e
  rcases is_or y 40 with ⟨a, ha, e⟩ | hy
  rotate_left
  · refine Op.no 2 h (by decide) (fun w hw K hK => ?_)
    · exact bX5_move_0 (by decide) (k_rLot hl hw.nl hl1 (mm_Kv 1 rfl (bX5_move_5 (by decide) (k_nBin hy (mm_Kx rfl (hK _ hw fC.rfl))))))
  subst e
  rcases is_or z 40 with ⟨b, hb, e⟩ | hz
  rotate_left
  · refine Op.no 2 h (by decide) (fun w hw K hK => ?_)
    · exact bX5_move_0 (by decide) (k_rLot hl hw.nl hl1 (mm_Kv 1 rfl (bX5_move_5 (by decide) (k_rBin ha (mm_Kv 2 rfl (bX5_move_10 (by decide) (k_nBin hz (mm_Kx rfl (hK _ hw fC.rfl)))))))))
  subst e
  -- both come to the quantity
  have c1 : ∀ {w} {K : mmO → mmM → Prop}, RepC w s → mm_M kX5_requireBetween [.ref 0, .int u, .int (nI 1), .int (nI 30)] w (mm_Kc kX5_move 24 [.ref 0, .int (nI l), .int (nI a), .int (nI b), .int u] [] (3 + mm_mc kX5_requireBetween) K) → mm_M kX5_move [.ref 0, .int (nI l), .int (nI a), .int (nI b), .int u] w K := fun hw g =>
    bX5_move_0 (by decide) (k_rLot hl hw.nl hl1 (mm_Kv 1 rfl (bX5_move_5 (by decide) (k_rBin ha (mm_Kv 2 rfl (bX5_move_10 (by decide) (k_rBin hb (mm_Kv 3 rfl (bX5_move_15 (by decide) g)))))))))
  by_cases hu : bt 1 30 u
  rotate_left
  · refine Op.no 0 h (by decide) (fun w hw K hK => c1 hw (k_nbt (by decide) (by decide) hu (mm_Kx rfl (hK _ hw fC.rfl))))
  obtain ⟨q, hq1, hq2, e⟩ := hu
  subst e
  have c2 : ∀ {w} {K : mmO → mmM → Prop}, RepC w s → mm_M kX5_requireEntrySpace [.ref 0, .int (nI 1)] w (mm_Kc kX5_move 29 [.ref 0, .int (nI l), .int (nI a), .int (nI b), .int (nI q)] [] (4 + mm_mc kX5_requireEntrySpace) K) → mm_M kX5_move [.ref 0, .int (nI l), .int (nI a), .int (nI b), .int (nI q)] w K := fun hw g => c1 hw (k_bt (by decide) (by decide) ⟨q, hq1, hq2, rfl⟩ (mm_Kv 4 rfl (bX5_move_24 (by decide) g)))
  by_cases hn : s.ne = 150
  · refine Op.no 1 h (by decide) (fun w hw K hK => c2 hw (m_rEntrySpace hne (by omega) hw.ne (fun _ => mm_Kx rfl (hK _ hw fC.rfl)) (fun q => absurd q (by omega))))
  have c3 : ∀ {w} {K : mmO → mmM → Prop}, RepC w s → mm_E kX5_move 29 [.ref 0, .int (nI l), .int (nI a), .int (nI b), .int (nI q)] [] w 5 K → mm_M kX5_move [.ref 0, .int (nI l), .int (nI a), .int (nI b), .int (nI q)] w K := fun hw g => c2 hw (m_rEntrySpace hne (by omega) hw.ne (fun q => absurd q (by omega)) (fun _ => mm_Kv 5 rfl g))
  have a1 := in_nI (show l < 24 by omega) (by decide)
  have a2 := in_nI ha (show 40 < 1000000 by decide)
  have a3 := in_nI hb (show 40 < 1000000 by decide)
  have hua := h.1.unb (l := l) ha
  have hub := h.1.unb (l := l) hb
  by_cases hq : q ≤ s.un l a
  rotate_left
  · refine Op.no 4 h (by decide) (fun w hw K hK => c3 hw (bX5_move_29 a1 a2 (fun z => ?_) (fun _ => bX5_move_45 (by decide) (hK _ hw fC.rfl))))
    · rw [cl_nI (by omega), cl_nI (by omega), hw.un l (by omega), nI_lei (by omega) (by omega)] at z
      exact absurd z hq
  have c4 : ∀ {w} {K : mmO → mmM → Prop}, RepC w s → mm_E kX5_move 55 [.ref 0, .int (nI l), .int (nI a), .int (nI b), .int (nI q)] [] w 5 K → mm_M kX5_move [.ref 0, .int (nI l), .int (nI a), .int (nI b), .int (nI q)] w K := fun hw g => c3 hw (bX5_move_29 a1 a2 (fun _ => g) (fun z => by rw [cl_nI (by omega), cl_nI (by omega), hw.un l (by omega), nI_lei (by omega) (by omega)] at z; exact absurd hq z))
  by_cases hab : a = b
  · subst hab
    refine Op.no 3 h (by decide) (fun w hw K hK => c4 hw (bX5_move_55 (fun _ => bX5_move_60 (by decide) (hK _ hw fC.rfl)) (fun z => absurd rfl z)))
  have nab : ¬ nI a = nI b := fun z => hab ((nI_eq (by omega) (by omega)).mp z)
  have hbl := h.bl_ b hb
  by_cases hsp : s.bl b + q ≤ 30
  rotate_left
  · refine Op.no 3 h (by decide) (fun w hw K hK => c4 hw (bX5_move_55 (fun z => absurd z nab) (fun _ => bX5_move_70 (by decide) (m_rBinSpace hb (fun _ => mm_Kx rfl (hK _ hw fC.rfl)) (fun z => ?_)))))
    · rw [hw.bl, nI_add, b30, nI_lei (by omega) (by omega)] at z
      exact absurd z hsp
  have hun : ∀ l2 b2, s.nl ≤ l2 → s.mvu l a b q l2 b2 = 0 := un_keep (un_keep h.un_ hl1) hl1
  have hba : upd2 s.un l a (s.un l a - q) l b = s.un l b := if_neg (fun z => hab z.2.symm)
  have hrow : ∀ l2 b2, s.mvu l a b q l2 b2 = if l2 = l ∧ b2 = b then s.un l b + q else if l2 = l ∧ b2 = a then s.un l a - q else s.un l2 b2 := fun _ _ => rfl
  have hblb : ∀ b2, b2 < 40 → (s.set 10 (s.mvu l a b q)).bl b2 ≤ 30 := by
    intro b2 hb2
    have e1 := bl_upd2 (s := s) (l := l) (b := a) (x := s.un l a - q) (by omega) b2
    have e2 := bl_upd2 (s := s.set 10 (upd2 s.un l a (s.un l a - q))) (l := l) (b := b) (x := s.un l b + q) (by omega) b2
    rw [set_un, St.set_set, hba] at e2
    have e3 := h.bl_ b2 hb2
    have e4 : (s.set 10 (s.mvu l a b q)).bl b2 + (if b2 = b then s.un l b else 0) = (s.set 10 (upd2 s.un l a (s.un l a - q))).bl b2 + (if b2 = b then s.un l b + q else 0) := e2
    by_cases q1 : b2 = b
    · subst q1
      rw [if_neg (Ne.symm hab), if_neg (Ne.symm hab)] at e1
      rw [if_pos rfl, if_pos rfl] at e4
      omega
    · rw [if_neg q1, if_neg q1] at e4
      by_cases q2 : b2 = a
      · rw [if_pos q2, if_pos q2] at e1
        omega
      · rw [if_neg q2, if_neg q2] at e1
        omega
  have hinw : Inw n ((s.set 10 (s.mvu l a b q)).jn 109 l (a + 1) (b + 1) q) := by
    refine h.1.put (by omega) (by decide) hl1 (by omega) (by omega) (by omega) hun hblb (fun l2 b2 _ _ => ?_)
    rw [hrow]
    by_cases q1 : l2 = l
    · subst q1
      by_cases q2 : b2 = b
      · subst q2
        rw [if_pos ⟨rfl, rfl⟩, if_pos ⟨rfl, rfl⟩, if_neg (by omega)]
        rfl
      · by_cases q3 : b2 = a
        · subst q3
          rw [if_neg (by omega), if_neg (by omega), if_pos ⟨rfl, rfl⟩, if_pos ⟨rfl, rfl⟩]
          omega
        · rw [if_neg (by omega), if_neg (by omega), if_neg (by omega), if_neg (by omega)]
    · rw [if_neg (by omega), if_neg (by omega), if_neg (by omega), if_neg (by omega)]
  have hlu : ∀ l2, (s.set 10 (s.mvu l a b q)).lu l2 = s.lu l2 := by
    intro l2
    have e1 := lu_upd2 (s := s) (l := l) (b := a) (x := s.un l a - q) ha l2
    have e2 := lu_upd2 (s := s.set 10 (upd2 s.un l a (s.un l a - q))) (l := l) (b := b) (x := s.un l b + q) hb l2
    rw [set_un, St.set_set, hba] at e2
    have e4 : (s.set 10 (s.mvu l a b q)).lu l2 + (if l2 = l then s.un l b else 0) = (s.set 10 (upd2 s.un l a (s.un l a - q))).lu l2 + (if l2 = l then s.un l b + q else 0) := e2
    by_cases q1 : l2 = l
    · rw [if_pos q1, if_pos q1] at e1 e4
      omega
    · rw [if_neg q1, if_neg q1] at e1 e4
      omega
  have hinv : Inv n ((s.set 10 (s.mvu l a b q)).jn 109 l (a + 1) (b + 1) q) := by
    refine ⟨hinw, fun i d hi hd => ?_⟩
    have e : ((s.set 10 (s.mvu l a b q)).jn 109 l (a + 1) (b + 1) q).sk i d = s.sk i d := by
      show sm (fun l2 => if s.it l2 = i ∧ d ≤ s.ex l2 then (s.set 10 (s.mvu l a b q)).lu l2 else 0) s.nl = _
      exact sm_cong (fun l2 _ => by rw [hlu])
    rw [e]
    exact h.cv_ i d hi hd
  have hd1 : nI (s.un l a) + -nI q = nI (s.un l a - q) := neg_nI hq
  have hd2 : nI ((s.set 10 (upd2 s.un l a (s.un l a - q))).un l b) + nI q = nI (s.un l b + q) := by rw [set_un, hba, nI_add]
  refine Op.ok _ (nI (s.un l b + q)) hinv ⟨nI_nn (by omega), rfl, fun hj => hj.put (fun p hp hs => (h.pk_ p hp hs).2.1)⟩ (fun w hw K hK => c4 hw (bX5_move_55 (fun z => absurd z nab) (fun _ => bX5_move_70 (by decide) (m_rBinSpace hb (fun z => ?_) (fun _ => mm_Kv 6 rfl ?_)))))
  · rw [hw.bl, nI_add, b30, nI_lei (by omega) (by omega)] at z
    exact absurd hsp z
  · have w1 := hw.ch (by omega) ha hd1
    have w2 := w1.ch (l := l) (b := b) (by omega) hb hd2
    rw [St.set_set, set_un] at w2
    have w3 : RepC _ ((s.set 10 (s.mvu l a b q)).jn 109 l (a + 1) (b + 1) q) := RepC.wr (kd := 109) (l := l) (f := a + 1) (t := b + 1) (q := q) w2
    refine bX5_move_77 (by decide) (m_change (by omega) ha (mm_Kv 6 rfl (bX5_move_89 (by decide) (m_change (by omega) hb (mm_Kv 6 rfl (bX5_move_100 (by decide) ?_))))))
    rw [w2.td]
    refine m_write (n := s.ne) (by omega) w2.ne (by decide) (mm_Kv 6 rfl ?_)
    rw [nI_pred, nI_pred] at w3
    refine bX5_move_118 a1 a3 ?_
    rw [cl_nI (by omega), cl_nI (by omega)]
    have e : cWr (cCh (cCh w l a (-nI q)) l b (nI q)) s.ne 109 (nI l) (nI a) (nI b) (nI q) (nI s.td) (20 + l) b = nI (s.un l b + q) := by
      have := w3.un l (by omega)
      refine (congrFun this b).trans ?_
      show nI (s.mvu l a b q l b) = _
      rw [hrow, if_pos ⟨rfl, rfl⟩]
    change K (.inl (some (.int (cWr (cCh (cCh w l a (-nI q)) l b (nI q)) s.ne 109 (nI l) (nI a) (nI b) (nI q) (nI s.td) (20 + l) b)))) _
    rw [e]
    exact hK _ w3 ((cCh_fC (by omega)).tr ((cCh_fC (by omega)).tr cWr_fC))
end MV
