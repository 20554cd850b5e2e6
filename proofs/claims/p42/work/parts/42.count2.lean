/-! count: both walks -/
theorem add_sub3 {a c f : Nat} (h : a ≤ c) : nI c + (nI f - nI a) = nI (c - a + f) := by
  rw [← nI_add, ← sub_nI h, sub_add, Int32.sub_eq_add_neg, Int32.sub_eq_add_neg, Int32.add_assoc]
theorem sub_ge0 {a b : Nat} (ha : a < 1000000) (hb : b < 1000000) : (nI a - nI b ≤ 0) ↔ a ≤ b := by
  rw [Int32.le_iff_toInt_le, sub_nIt ha hb]
  show _ ≤ (0 : Int) ↔ _
  omega
theorem sub_eq0 {a b : Nat} (ha : a < 1000000) (hb : b < 1000000) : (nI a - nI b = 0) ↔ a = b := by
  rw [← Int32.toInt_inj, sub_nIt ha hb]
  show _ = (0 : Int) ↔ _
  omega
theorem neg_sub {a b : Nat} (h : a ≤ b) : -(nI a - nI b) = nI (b - a) := by rw [Int32.neg_sub, sub_nI h]
section C2
variable {n : Nat} {s : St} {x y z u : Int32}
theorem brk_le (i : Nat) : ∀ (m : Nat) (s : St), (brk i m s).1 ≤ m := by
  intro m
  induction m with
  | zero => intro s; exact Nat.le_refl _
  | succ m ih =>
    intro s
    cases h : s.sd i with
    | none => rw [brk_n h]; exact Nat.zero_le _
    | some a =>
      obtain ⟨p, h2, -⟩ := lo_of h
      rw [brk_s h h2]
      have := ih (s.bk p)
      show _ + 1 ≤ _
      omega
theorem brk_J (i : Nat) : ∀ (m : Nat) (s : St), XJ s (brk i m s).2 := by
  intro m
  induction m with
  | zero => intro s; exact ⟨rfl, fun hj => hj⟩
  | succ m ih =>
    intro s
    cases h : s.sd i with
    | none => rw [brk_n h]; exact ⟨rfl, fun hj => hj⟩
    | some a =>
      obtain ⟨p, h2, -⟩ := lo_of h
      rw [brk_s h h2]
      obtain ⟨x1, x2⟩ := ih (s.bk p)
      exact ⟨x1, fun hj => x2 (hj.st1 (by decide))⟩
theorem cnt_J {n i b l f : Nat} {s : St} (h : Inv n s) : XJ s (brk i 20 ((s.fnd b l f).cnd b)).2 := by
  obtain ⟨x1, x2⟩ := brk_J i 20 ((s.fnd b l f).cnd b)
  have hp : ∀ p, p < s.np → s.st p = 112 → s.fe p + s.lc p ≤ s.ne := fun p hp hs => (h.pk_ p hp hs).2.1
  refine ⟨x1.trans fnd_eqs.2.1, fun hj => x2 ?_⟩
  show Jn (s.fnd b l f)
  unfold St.fnd
  split
  · exact hj
  · split
    · exact hj.put hp
    · exact hj.put hp
theorem op_count (h : Inv n s) : Op kX5_count kL_counts n [.int x, .int y, .int z] s (XJ s) := by
  have hl := h.nl_; have hne := h.ne_; have htd := h.td_; have hnn := h.n_; have hni := h.ni_
  rcases is_or x 40 with ⟨b, hb, e⟩ | hx
  rotate_left
  · refine Op.no 2 h (by decide) (fun w hw K hK => ?_)
    · exact bX5_count_0 (by decide) (k_nBin hx (mm_Kx rfl (hK _ hw fC.rfl)))
  subst e
  rcases is_or y s.nl with ⟨l, hl1, e⟩ | hy
  rotate_left
  · refine Op.no 2 h (by decide) (fun w hw K hK => ?_)
    · exact bX5_count_0 (by decide) (k_rBin hb (mm_Kv 1 rfl (bX5_count_5 (by decide) (k_nLot hl hw.nl hy (mm_Kx rfl (hK _ hw fC.rfl))))))
  subst e
  have a1 := in_nI (show l < 24 by omega) (by decide)
  have a2 := in_nI hb (show 40 < 1000000 by decide)
  have c1 : ∀ {w} {K : mmO → mmM → Prop}, RepC w s → mm_M kX5_requireBetween [.ref 0, .int z, .int (nI 0), .int (nI 30)] w (mm_Kc kX5_count 18 [.ref 0, .int (nI b), .int (nI l), .int z, .retAddr 0] [] (2 + mm_mc kX5_requireBetween) K) → mm_M kX5_count [.ref 0, .int (nI b), .int (nI l), .int z] w K := fun hw g => bX5_count_0 (by decide) (k_rBin hb (mm_Kv 1 rfl (bX5_count_5 (by decide) (k_rLot hl hw.nl hl1 (mm_Kv 2 rfl (bX5_count_10 (by decide) g))))))
  by_cases hz : bt 0 30 z
  rotate_left
  · refine Op.no 0 h (by decide) (fun w hw K hK => c1 hw (k_nbt (by decide) (by decide) hz (mm_Kx rfl (hK _ hw fC.rfl))))
  obtain ⟨f, hf0, hf, e⟩ := hz
  subst e
  have hu := h.1.unb (l := l) hb
  have hbl := h.bl_ b hb
  have hub : s.un l b ≤ s.bl b := sm_at (f := fun l => s.un l b) (show l < 24 by omega)
  have c2 : ∀ {w} {K : mmO → mmM → Prop}, RepC w s → mm_M kX5_requireBinSpace [.ref 0, .int (nI b), .int (nI f - nI (s.un l b))] w (mm_Kc kX5_count 40 [.ref 0, .int (nI b), .int (nI l), .int (nI f), .int (nI f - nI (s.un l b))] [] (3 + mm_mc kX5_requireBinSpace) K) → mm_M kX5_count [.ref 0, .int (nI b), .int (nI l), .int (nI f)] w K := by
    intro w K hw g
    refine c1 hw (k_bt (by decide) (by decide) ⟨f, hf0, hf, rfl⟩ (mm_Kv 3 rfl (bX5_count_18 a1 a2 (by decide) ?_)))
    rw [cl_nI (by omega), cl_nI (by omega), hw.un l (by omega)]
    exact g
  by_cases hsp : s.bl b - s.un l b + f ≤ 30
  rotate_left
  · refine Op.no 3 h (by decide) (fun w hw K hK => c2 hw (m_rBinSpace hb (fun _ => mm_Kx rfl (hK _ hw fC.rfl)) (fun q => ?_)))
    · rw [hw.bl, add_sub3 hub, b30, nI_lei (by omega) (by omega)] at q
      exact absurd q hsp
  have e0 := sub_eq0 (a := f) (b := s.un l b) (by omega) (by omega)
  have eg := sub_le0 (a := f) (b := s.un l b) (by omega) (by omega)
  have el := sub_ge0 (a := f) (b := s.un l b) (by omega) (by omega)
  have c3 : ∀ {w} {K : mmO → mmM → Prop}, RepC w s → mm_E kX5_count 40 [.ref 0, .int (nI b), .int (nI l), .int (nI f), .int (nI f - nI (s.un l b))] [] w 4 K → mm_M kX5_count [.ref 0, .int (nI b), .int (nI l), .int (nI f)] w K := fun hw g => c2 hw (m_rBinSpace hb (fun q => absurd (by rw [hw.bl, add_sub3 hub, b30, nI_lei (by omega) (by omega)]; exact hsp) q) (fun _ => mm_Kv 4 rfl g))
  by_cases hn : f ≠ s.un l b ∧ s.ne = 150
  · obtain ⟨q1, q2⟩ := hn
    refine Op.no 1 h (by decide) (fun w hw K hK => c3 hw (bX5_count_40 (fun q => absurd (e0.mp q) q1) (fun _ => bX5_count_45 (by decide) (m_rEntrySpace (e := 1) hne (by omega) hw.ne (fun _ => mm_Kx rfl (hK _ hw fC.rfl)) (fun q => absurd q (by omega))))))
  have hne2 : f = s.un l b ∨ s.ne < 150 := by omega
  obtain ⟨hI1, _, _⟩ := fnd_I h hb hl1 hf hsp hne2
  obtain ⟨e1, e2, e3, e4, e5⟩ := fnd_eqs (s := s) (b := b) (l := l) (f := f)
  have hit := h.it_ l hl1
  have hI2 := cnd_I (b := b) hI1
  have hoc : ((s.fnd b l f).cnd b).oc ≤ 20 := Nat.le_trans oc_le hI2.np_
  refine Op.ok _ (nI (brk (s.it l) 20 ((s.fnd b l f).cnd b)).1) (count_I h hb hl1 hf hsp hne2) ⟨nI_nn (by have := brk_le (s.it l) 20 ((s.fnd b l f).cnd b); omega), cnt_J h⟩ (fun w hw K hK => c3 hw ?_)
  · have tail : ∀ c w' , c ≤ 5 → RepC w' (s.fnd b l f) → fC w w' → mm_E kX5_count 100 [.ref 0, .int (nI b), .int (nI l), .int (nI f), .int (nI f - nI (s.un l b))] [] w' c K := by
      intro c w' hc hw' hf'
      refine bX5_count_100 a2 a1 (Nat.le_trans (Nat.add_le_add_right hc _) (by decide)) ?_
      rw [cl_nI (by omega), cl_nI (by omega), hw'.it, hw'.td, e4]
      refine bX5_breakPromises_0 ?_
      refine k_brkC (w0 := w) (show s.it l < 6 by omega) 20 0 ((s.fnd b l f).cnd b) _ _ _ hI2 hw'.cnd (hf'.tr (fun j hj => mm_up_row (by omega))) (Nat.le_refl _) (fun w2 hw2 hf2 => mm_Kr _ rfl (bX5_count_126 ?_))
      rw [Nat.zero_add]
      exact hK _ hw2 hf2
    by_cases q1 : f = s.un l b
    · have ef : s.fnd b l f = s := if_pos q1
      refine bX5_count_40 (fun _ => ?_) (fun q => absurd (e0.mpr q1) q)
      exact bX5_count_50 (fun _ => bX5_count_84 (fun _ => tail 4 w (by decide) (by rw [ef]; exact hw) fC.rfl) (fun q => absurd (eg.mpr (by omega)) q)) (fun q => absurd (el.mpr (by omega)) q)
    · refine bX5_count_40 (fun q => absurd (e0.mp q) q1) (fun _ => bX5_count_45 (by decide) (m_rEntrySpace (e := 1) hne (by omega) hw.ne (fun q => absurd q (by omega)) (fun _ => mm_Kv 5 rfl ?_)))
      by_cases q2 : s.un l b < f
      · have ef : s.fnd b l f = (s.set 10 (upd2 s.un l b f)).jn 99 l 0 (b + 1) (f - s.un l b) := by unfold St.fnd; rw [if_neg q1, if_pos q2]
        have ed : nI f - nI (s.un l b) = nI (f - s.un l b) := sub_nI (by omega)
        have hd : nI (s.un l b) + (nI f - nI (s.un l b)) = nI f := by rw [ed, nI_add, show s.un l b + (f - s.un l b) = f by omega]
        have w2 := hw.ch (l := l) (b := b) (x := f) (by omega) hb hd
        have w3 := RepC.wr (kd := 99) (l := l) (f := 0) (t := b + 1) (q := f - s.un l b) w2
        rw [nI_pred] at w3
        refine bX5_count_50 (fun q => absurd (el.mp q) (by omega)) (fun _ => bX5_count_55 (by decide) (m_change (by omega) hb (mm_Kv 5 rfl (bX5_count_66 (by decide) ?_))))
        rw [w2.td]
        refine m_write (n := s.ne) (by omega) w2.ne (by decide) (mm_Kv 5 rfl (bX5_count_84 (fun _ => tail 5 _ (Nat.le_refl _) ?_ ((cCh_fC (by omega)).tr cWr_fC)) (fun q => absurd (eg.mpr (by omega)) q)))
        rw [ef]
        rw [ed] at w3 ⊢
        exact w3
      · have ef : s.fnd b l f = s.tk 99 l b (s.un l b - f) := by unfold St.fnd; rw [if_neg q1, if_neg q2]
        refine bX5_count_50 (fun _ => bX5_count_84 (fun q => absurd (eg.mp q) (by omega)) (fun _ => bX5_count_89 (by decide) ?_)) (fun q => absurd (el.mpr (by omega)) q)
        rw [neg_sub (by omega)]
        exact k_takeOut (kd := 99) hw (by omega) hb (by omega) (by decide) (by omega) (fun w' hw' hf' _ => mm_Kv 5 rfl (tail 5 w' (Nat.le_refl _) (by rw [ef]; exact hw') hf'))
end C2
