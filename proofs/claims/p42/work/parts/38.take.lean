/-! units leave a bin; dispose -/
def St.tk (s : St) (kd l b q : Nat) : St := (s.set 10 (upd2 s.un l b (s.un l b - q))).jn kd l (b + 1) 0 q
section TK
variable {n : Nat} {s : St} {x y z u : Int32}
theorem bl_tk {l b q : Nat} (hl : l < 24) (hq : q ≤ s.un l b) (b2 : Nat) : (s.set 10 (upd2 s.un l b (s.un l b - q))).bl b2 ≤ s.bl b2 := by
  have := bl_upd2 (s := s) (l := l) (b := b) (x := s.un l b - q) hl b2
  by_cases z : b2 = b
  · rw [if_pos z, if_pos z] at this
    omega
  · rw [if_neg z, if_neg z] at this
    omega
theorem Inw.tk {n : Nat} {s : St} (h : Inw n s) {kd l b q : Nat} (hne : s.ne < 150) (hk : kd ≤ 120) (hl : l < s.nl) (hb : b < 40) (hq : q ≤ s.un l b) : Inw n (s.tk kd l b q) := by
  have hnl := h.nl_
  have hu := h.unb (l := l) hb
  refine h.put hne hk hl (by omega) (by omega) (by omega) (un_keep h.un_ hl) (fun b2 hb2 => Nat.le_trans (bl_tk (by omega) hq b2) (h.bl_ b2 hb2)) (fun l2 b2 _ _ => ?_)
  rw [if_neg (show ¬ (l = l2 ∧ 0 = b2 + 1) by omega)]
  unfold upd2
  by_cases z : l2 = l ∧ b2 = b
  · rw [if_pos z, if_pos ⟨z.1.symm, by omega⟩]
    obtain ⟨z1, z2⟩ := z
    subst z1 z2
    omega
  · rw [if_neg z, if_neg (fun w => z ⟨w.1.symm, by omega⟩)]
theorem k_takeOut {w : mmM} {K : mmO → mmM → Prop} {kd l b q : Nat} (hw : RepC w s) (hl : l < 24) (hb : b < 40) (hne : s.ne < 150) (hk : kd ≤ 120) (hq : q ≤ s.un l b) (g : ∀ w', RepC w' (s.tk kd l b q) → fC w w' → (∀ i, i = 5 ∨ (78 ≤ i ∧ i ≤ 80) → w' i = w i) → K (.inl none) w') : mm_M kX5_takeOut [.ref 0, .int (nI kd), .int (nI l), .int (nI b), .int (nI q)] w K := by
  have hd : nI (s.un l b) + -nI q = nI (s.un l b - q) := neg_nI hq
  have w2 := hw.ch hl hb hd
  have w3 : RepC _ (s.tk kd l b q) := RepC.wr (kd := kd) (l := l) (f := b + 1) (t := 0) (q := q) w2
  refine m_takeOut hl hb hne hw.ne (vn_char hk) ?_
  unfold cTk
  rw [hw.td]
  rw [nI_pred] at w3
  refine g _ w3 ((cCh_fC hl).tr cWr_fC) (fun i hi => ?_)
  unfold cWr cCh
  rw [mm_up_row (by omega), mm_up_row (by omega), mm_up_row (by omega), mm_up_row (by omega), mm_up_row (by omega), mm_up_row (by omega), mm_up_row (by omega), mm_up_row (by omega), mm_up_row (by omega), mm_up_row (by omega)]
/-- how many bins have units of a lot -/
def St.cb (s : St) (l : Nat) : Nat := sm (fun b => if s.un l b = 0 then 0 else 1) 40
theorem cb_lu (s : St) (l : Nat) : (s.cb l = 0) ↔ s.lu l = 0 := by
  constructor
  · intro h
    refine sm_0 fun b hb => ?_
    have := sm_at (f := fun b => if s.un l b = 0 then 0 else 1) hb
    have e : sm (fun b => if s.un l b = 0 then 0 else 1) 40 = 0 := h
    rw [e] at this
    by_cases q : s.un l b = 0
    · exact q
    · have this : (if s.un l b = 0 then 0 else 1) ≤ 0 := this
      rw [if_neg q] at this
      omega
  · intro h
    refine sm_0 fun b hb => ?_
    have := sm_at (f := s.un l) hb
    have e : sm (s.un l) 40 = 0 := h
    rw [if_pos (by omega)]
/-- one bin of the route is emptied -/
def dpf (l : Nat) (i : Nat) (s : St) : St := if s.un l (rt i) = 0 then s else s.tk 100 l (rt i) (s.un l (rt i))
def dpI (n l : Nat) (s : St) : Prop := Inv n s ∧ l < s.nl ∧ s.ex l < s.td ∧ s.ne + s.cb l ≤ 150
theorem dp_ne {n l b : Nat} {s : St} (h : dpI n l s) (hb : b < 40) (hu : s.un l b ≠ 0) : s.ne < 150 := by
  have := sm_at (f := fun b => if s.un l b = 0 then 0 else 1) hb
  have this : (if s.un l b = 0 then 0 else 1) ≤ s.cb l := this
  rw [if_neg hu] at this
  have := h.2.2.2
  omega
theorem dpI_s {n l i : Nat} {s : St} (hi : i < 40) (h : dpI n l s) : dpI n l (dpf l i s) := by
  unfold dpf
  split
  · exact h
  · rename_i hu
    have hr := rt_lt hi
    have hne := dp_ne h hr hu
    obtain ⟨h1, h2, h3, h4⟩ := h
    have hnl := h1.nl_
    refine ⟨⟨h1.1.tk hne (by decide) h2 hr (Nat.le_refl _), fun i2 d hi2 hd => ?_⟩, h2, h3, ?_⟩
    · refine Nat.le_trans (h1.cv_ i2 d hi2 hd) (Nat.le_of_eq ?_)
      have hd : s.td ≤ d := hd
      show sm (fun l2 => if s.it l2 = i2 ∧ d ≤ s.ex l2 then s.lu l2 else 0) s.nl = sm (fun l2 => if s.it l2 = i2 ∧ d ≤ s.ex l2 then (s.set 10 (upd2 s.un l (rt i) (s.un l (rt i) - s.un l (rt i)))).lu l2 else 0) s.nl
      refine sm_cong fun l2 _ => ?_
      by_cases z : l2 = l
      · subst z
        rw [if_neg (by omega), if_neg (by omega)]
      · have := lu_upd2 (s := s) (l := l) (b := rt i) (x := s.un l (rt i) - s.un l (rt i)) hr l2
        rw [if_neg z, if_neg z] at this
        rw [show (s.set 10 (upd2 s.un l (rt i) (s.un l (rt i) - s.un l (rt i)))).lu l2 = s.lu l2 by omega]
    · have := sm_one (f := fun b => if s.un l b = 0 then 0 else 1) (g := fun b => if upd2 s.un l (rt i) (s.un l (rt i) - s.un l (rt i)) l b = 0 then 0 else 1) (j := rt i) (n := 40) hr (fun b hb => by
        show (if upd2 s.un l (rt i) (s.un l (rt i) - s.un l (rt i)) l b = 0 then 0 else 1) = (if s.un l b = 0 then 0 else 1)
        rw [show upd2 s.un l (rt i) (s.un l (rt i) - s.un l (rt i)) l b = s.un l b from if_neg (fun q => hb q.2)])
      have e1 : upd2 s.un l (rt i) (s.un l (rt i) - s.un l (rt i)) l (rt i) = 0 := by
        unfold upd2
        rw [if_pos ⟨rfl, rfl⟩, Nat.sub_self]
      simp only [e1, if_neg hu, if_true] at this
      have e2 : (s.tk 100 l (rt i) (s.un l (rt i))).cb l + 1 = s.cb l + 0 := this
      show s.ne + 1 + (s.tk 100 l (rt i) (s.un l (rt i))).cb l ≤ 150
      omega
theorem dp_J {n l : Nat} {s : St} (h0 : dpI n l s) : XJ s (fo (dpf l) s 40) := by
  have key : ∀ m, m ≤ 40 → dpI n l (fo (dpf l) s m) ∧ XJ s (fo (dpf l) s m) := by
    intro m
    induction m with
    | zero => intro _; exact ⟨h0, rfl, fun hj => hj⟩
    | succ m ih =>
      intro hm
      obtain ⟨g, x1, x2⟩ := ih (by omega)
      refine ⟨dpI_s (by omega) g, ?_⟩
      show XJ s (dpf l m (fo (dpf l) s m))
      generalize fo (dpf l) s m = t at g x1 x2 ⊢
      unfold dpf
      split
      · exact ⟨x1, x2⟩
      · exact ⟨x1, fun hj => (x2 hj).put (fun p hp hs => (g.1.pk_ p hp hs).2.1)⟩
  exact (key 40 (Nat.le_refl _)).2
theorem op_dispose (h : Inv n s) : Op kX5_dispose kL_disposes n [.int x] s (XJ s) := by
  have hl := h.nl_; have hne := h.ne_; have htd := h.td_; have hnn := h.n_
  rcases is_or x s.nl with ⟨l, hl1, e⟩ | hx
  rotate_left
  · refine Op.no 2 h (by decide) (fun w hw K hK => ?_)
    · exact bX5_dispose_0 (by decide) (k_nLot hl hw.nl hx (mm_Kx rfl (hK _ hw fC.rfl)))
  subst e
  have a1 := in_nI (show l < 24 by omega) (by decide)
  have hcb : s.cb l ≤ 40 := by
    have := sm_le_mul (f := fun b => if s.un l b = 0 then 0 else 1) (c := 1) (n := 40) (fun b _ => by show (if _ then _ else _) ≤ _; split <;> omega)
    exact this
  have hex := h.ex_ l hl1
  have hlu := h.1.lub l
  -- the model counts the bins
  by_cases hz : s.lu l = 0
  · have hc0 : s.cb l = 0 := (cb_lu s l).mpr hz
    refine Op.no 4 h (by decide) (fun w hw K hK => ?_)
    · refine bX5_dispose_0 (by decide) (k_rLot hl hw.nl hl1 (mm_Kv 1 rfl (bX5_dispose_5 a1 (fun _ => bX5_dispose_19 (by decide) (hK _ hw fC.rfl)) (fun q => absurd ?_ q))))
      rw [cl_nI (by omega), hw.lu]
      show nI (s.lu l) = 0
      rw [hz]
      rfl
  have hc0 : s.cb l ≠ 0 := fun q => hz ((cb_lu s l).mp q)
  have c2 : ∀ {w} {K : mmO → mmM → Prop}, RepC w s → mm_E kX5_dispose 29 [.ref 0, .int (nI l), .int (nI (s.lu l)), .retAddr 0, .retAddr 0, .retAddr 0] [] w 1 K → mm_M kX5_dispose [.ref 0, .int (nI l)] w K := by
    intro w K hw g
    refine bX5_dispose_0 (by decide) (k_rLot hl hw.nl hl1 (mm_Kv 1 rfl (bX5_dispose_5 a1 (fun q => ?_) (fun _ => ?_))))
    · rw [cl_nI (by omega), hw.lu] at q
      exact absurd ((nI_eq (b := 0) (by omega) (by omega)).mp q) hz
    · rw [cl_nI (by omega), hw.lu]
      exact g
  by_cases hexp : s.ex l < s.td
  rotate_left
  · refine Op.no 3 h (by decide) (fun w hw K hK => c2 hw (bX5_dispose_29 a1 (fun q => ?_) (fun _ => bX5_dispose_45 (by decide) (hK _ hw fC.rfl))))
    · rw [cl_nI (by omega), hw.ex, hw.td, nI_lti (by omega) (by omega)] at q
      exact absurd q hexp
  have ebins : ∀ {w}, RepC w s → sBins (w (20 + l)) = nI (s.cb l) := by
    intro w hw
    have key : ∀ m, m ≤ 40 → fo (fun b a => if 0 < w (20 + l) b then a + 1 else a) 0 m = nI (sm (fun b => if s.un l b = 0 then 0 else 1) m) := by
      intro m
      induction m with
      | zero => intro _; rfl
      | succ m ih =>
        intro hm
        have hu := h.1.unb (l := l) (show m < 40 by omega)
        show (if 0 < w (20 + l) m then fo _ 0 m + 1 else fo _ 0 m) = nI (sm _ m + if s.un l m = 0 then 0 else 1)
        rw [ih (by omega), hw.un l (by omega)]
        by_cases q : s.un l m = 0
        · rw [if_pos q, if_neg (by show ¬ 0 < nI (s.un l m); rw [q]; decide), Nat.add_zero]
        · rw [if_neg q, if_pos (i32_nle.mp (fun z => q ((nI_le0 (by omega)).mp z))), nI_1]
    exact key 40 (Nat.le_refl _)
  have c3 : ∀ {w} {K : mmO → mmM → Prop}, RepC w s → mm_M kX5_requireEntrySpace [.ref 0, .int (nI (s.cb l))] w (mm_Kc kX5_dispose 67 [.ref 0, .int (nI l), .int (nI (s.lu l)), .retAddr 0, .retAddr 0, .retAddr 0] [] (1 + mm_mc kX5_requireEntrySpace) K) → mm_M kX5_dispose [.ref 0, .int (nI l)] w K := fun hw g => c2 hw (bX5_dispose_29 a1 (fun _ => bX5_dispose_55 (by decide) (m_binsWith (by omega) (mm_Kr 1 rfl (bX5_dispose_64 (by decide) (by rw [ebins hw]; exact g))))) (fun q => by rw [cl_nI (by omega), hw.ex, hw.td, nI_lti (by omega) (by omega)] at q; exact absurd hexp q))
  have b150 : (150 : Int32) = nI 150 := rfl
  by_cases hsp : s.ne + s.cb l ≤ 150
  rotate_left
  · refine Op.no 1 h (by decide) (fun w hw K hK => c3 hw (m_rEntrySpace hne (by omega) hw.ne (fun _ => mm_Kx rfl (hK _ hw fC.rfl)) (fun q => absurd q hsp)))
  have hI0 : dpI n l s := ⟨h, hl1, hexp, hsp⟩
  have hI : ∀ m, m ≤ 40 → dpI n l (fo (dpf l) s m) := by
    intro m
    induction m with
    | zero => intro _; exact hI0
    | succ m ih => intro hm; exact dpI_s (by omega) (ih (by omega))
  refine Op.ok (fo (dpf l) s 40) (nI (s.lu l)) (hI 40 (Nat.le_refl _)).1 ⟨nI_nn (by have := h.1.lub l; omega), dp_J hI0⟩ (fun w hw K hK => c3 hw (m_rEntrySpace hne (by omega) hw.ne (fun q => absurd hsp (by omega)) (fun _ => mm_Kv 2 rfl (bX5_dispose_67 ?_))))
  · refine e_for (n := 40) (a0 := s) (E := fun i st => ∀ w' l4 l5, RepC w' st → fC w w' → mm_E kX5_dispose 69 [.ref 0, .int (nI l), .int (nI (s.lu l)), .int (nI i), l4, l5] [] w' 2 K) (f := dpf l) (fun _ st => dpI n l st) hI0 (fun i st hi hs => dpI_s hi hs) ?_ ?_ w _ _ hw fC.rfl
    · intro i st hi hs ih w' l4 l5 hw' hf
      have hr := rt_lt hi
      have hl2 := hs.2.1
      have hnl2 := hs.1.nl_
      have hu := hs.1.1.unb (l := l) hr
      have a2 := in_nI (show l < 24 by omega) (by decide)
      refine bX5_dispose_69 (fun q => absurd q (ge_nI hi (by decide))) (fun _ => bX5_dispose_75 (by decide) (m_alongRoute hi (mm_Kr 2 rfl ?_)))
      have eu : w' (20 + (nI l).toNatClampNeg) (nI (rt i)).toNatClampNeg = nI (st.un l (rt i)) := by rw [cl_nI (by omega), cl_nI (by omega), hw'.un l (by omega)]
      refine bX5_dispose_79 a2 (in_nI hr (by decide)) (fun q => ?_) (fun q => ?_) <;> rw [eu, nI_le0 (by omega)] at q <;> rw [eu]
      · refine bX5_dispose_111 ?_
        rw [nI_1]
        rw [show dpf l i st = st from if_pos q] at ih
        exact ih w' _ _ hw' hf
      · rw [show dpf l i st = st.tk 100 l (rt i) (st.un l (rt i)) from if_neg q] at ih
        refine bX5_dispose_100 (by decide) (k_takeOut (kd := 100) hw' (by omega) hr (dp_ne hs hr q) (by decide) (Nat.le_refl _) (fun w2 hw2 hf2 _ => mm_Kv 2 rfl (bX5_dispose_111 ?_)))
        rw [nI_1]
        exact ih w2 _ _ hw2 (hf.tr hf2)
    · intro _ w' l4 l5 hw' hf
      exact bX5_dispose_69 (fun _ => bX5_dispose_117 (hK _ hw' hf)) (fun q => absurd (le_nI (Nat.le_refl 40) (by decide)) q)
end TK
