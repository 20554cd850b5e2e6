/-! count: both walks -/
theorem add_sub3 {a c f : Nat} (h : a ≤ c) : nI c + (nI f - nI a) = nI (c - a + f) := by
  rw [← nI_add, ← sub_nI h, sub_add, Int32.sub_eq_add_neg, Int32.sub_eq_add_neg, Int32.add_assoc]
theorem sub_ge0 {a b : Nat} (ha : a < 1000000) (hb : b < 1000000) : (nI a - nI b ≤ 0) ↔ a ≤ b := by
  rw [Int32.le_iff_toInt_le, sub_nIt ha hb]
  show _ ≤ (0 : Int) ↔ _
  omega
theorem sub_eq0 {a b : Nat} (ha : a < 1000000) (hb : b < 1000000) : (nI a - nI b = 0) ↔ a = b := by
  rw [← Int32.toInt_inj, sub_nIt ha hb]
  show _ = (0 : Int) ↔ _
  omega
theorem neg_sub {a b : Nat} (h : a ≤ b) : -(nI a - nI b) = nI (b - a) := by rw [Int32.neg_sub, sub_nI h]
section C2
variable {n : Nat} {s : St} {x y z u : Int32}
theorem op_count (h : Inv n s) : Op kX5_count kX6_count kL_count n [.int x, .int y, .int z] s := by
  have hl := h.nl_; have hne := h.ne_; have htd := h.td_; have hnn := h.n_; have hni := h.ni_
  rcases is_or x 40 with ⟨b, hb, e⟩ | hx
  rotate_left
  · refine Op.no 1 2 h (by decide) (by decide) (fun w hw K hK => ?_) (fun r w hw K hK => ?_)
    · exact bX5_count_0 (by decide) (k_nBin hx (mm_Kx rfl (hK _ hw fC.rfl)))
    · refine bX6_count_0 (by decide) (k_noBin hx (mm_Kr 0 rfl (bX6_count_4 (fun _ => bX6_count_15 (by decide) (m_raises (mm_Kr 0 rfl (bX6_count_20 ?_)))) (fun h => absurd rfl h))))
      exact hK _ _ hw.th fM.th th_at (fun h => absurd h (by decide))
  subst e
  rcases is_or y s.nl with ⟨l, hl1, e⟩ | hy
  rotate_left
  · refine Op.no 1 2 h (by decide) (by decide) (fun w hw K hK => ?_) (fun r w hw K hK => ?_)
    · exact bX5_count_0 (by decide) (k_rBin hb (mm_Kv 1 rfl (bX5_count_5 (by decide) (k_nLot hl hw.nl hy (mm_Kx rfl (hK _ hw fC.rfl))))))
    · refine bX6_count_0 (by decide) (k_isBin hb (mm_Kr 0 rfl (bX6_count_4 (fun h => absurd h (by decide)) (fun _ => bX6_count_7 (by decide) (k_noLot hl hw.nl hy (mm_Kr 0 rfl (bX6_count_12 (fun _ => bX6_count_15 (by decide) (m_raises (mm_Kr 0 rfl (bX6_count_20 ?_)))) (fun h => absurd rfl h))))))))
      exact hK _ _ hw.th fM.th th_at (fun h => absurd h (by decide))
  subst e
  have a1 := in_nI (show l < 24 by omega) (by decide)
  have a2 := in_nI hb (show 40 < 1000000 by decide)
  have c1 : ∀ {w} {K : mmO → mmM → Prop}, RepC w s → mm_M kX5_requireBetween [.ref 0, .int z, .int (nI 0), .int (nI 30)] w (mm_Kc kX5_count 18 [.ref 0, .int (nI b), .int (nI l), .int z, .retAddr 0] [] (2 + mm_mc kX5_requireBetween) K) → mm_M kX5_count [.ref 0, .int (nI b), .int (nI l), .int z] w K := fun hw g => bX5_count_0 (by decide) (k_rBin hb (mm_Kv 1 rfl (bX5_count_5 (by decide) (k_rLot hl hw.nl hl1 (mm_Kv 2 rfl (bX5_count_10 (by decide) g))))))
  have d1 : ∀ {w} {K : mmO → mmM → Prop}, RepM w s → mm_M kX6_in [.int z, .int (nI 0), .int (nI 30)] w (mm_Kc kX6_count 28 [.ref 81, .int (nI b), .int (nI l), .int z, .retAddr 0] [] (0 + mm_mc kX6_in) K) → mm_M kX6_count [.ref 81, .int (nI b), .int (nI l), .int z] w K := fun hw g => bX6_count_0 (by decide) (k_isBin hb (mm_Kr 0 rfl (bX6_count_4 (fun h => absurd h (by decide)) (fun _ => bX6_count_7 (by decide) (k_isLot hl hw.nl hl1 (mm_Kr 0 rfl (bX6_count_12 (fun h => absurd h (by decide)) (fun _ => bX6_count_21 (by decide) g))))))))
  by_cases hz : bt 0 30 z
  rotate_left
  · refine Op.no 2 0 h (by decide) (by decide) (fun w hw K hK => c1 hw (k_nbt (by decide) (by decide) hz (mm_Kx rfl (hK _ hw fC.rfl)))) (fun r w hw K hK => d1 hw (k_nin (by decide) (by decide) hz (mm_Kr 0 rfl (bX6_count_28 (fun _ => bX6_count_31 (by decide) (m_raises (mm_Kr 0 rfl (bX6_count_36 ?_)))) (fun h => absurd rfl h)))))
    exact hK _ _ hw.th fM.th th_at (fun h => absurd h (by decide))
  obtain ⟨f, hf0, hf, e⟩ := hz
  subst e
  have hu := h.1.unb (l := l) hb
  have hbl := h.bl_ b hb
  have hub : s.un l b ≤ s.bl b := sm_at (f := fun l => s.un l b) (show l < 24 by omega)
  have c2 : ∀ {w} {K : mmO → mmM → Prop}, RepC w s → mm_M kX5_requireBinSpace [.ref 0, .int (nI b), .int (nI f - nI (s.un l b))] w (mm_Kc kX5_count 40 [.ref 0, .int (nI b), .int (nI l), .int (nI f), .int (nI f - nI (s.un l b))] [] (3 + mm_mc kX5_requireBinSpace) K) → mm_M kX5_count [.ref 0, .int (nI b), .int (nI l), .int (nI f)] w K := by
    intro w K hw g
    refine c1 hw (k_bt (by decide) (by decide) ⟨f, hf0, hf, rfl⟩ (mm_Kv 3 rfl (bX5_count_18 a1 a2 (by decide) ?_)))
    rw [cl_nI (by omega), cl_nI (by omega), hw.un l (by omega)]
    exact g
  have d2 : ∀ {w} {K : mmO → mmM → Prop}, RepM w s → mm_E kX6_count 54 [.ref 81, .int (nI b), .int (nI l), .int (nI f), .int (nI f - nI (s.un l b))] [.int (nI (s.bl b))] w 0 K → mm_M kX6_count [.ref 81, .int (nI b), .int (nI l), .int (nI f)] w K := by
    intro w K hw g
    refine d1 hw (k_in (by decide) (by decide) ⟨f, hf0, hf, rfl⟩ (mm_Kr 0 rfl (bX6_count_28 (fun h => absurd h (by decide)) (fun _ => bX6_count_37 a1 a2 (by decide) (k_load0 h.1 hw hb (mm_Kr 0 rfl ?_))))))
    rw [cl_nI (by omega), cl_nI (by omega), hw.un l (by omega)]
    exact g
  by_cases hsp : s.bl b - s.un l b + f ≤ 30
  rotate_left
  · refine Op.no 3 3 h (by decide) (by decide) (fun w hw K hK => c2 hw (m_rBinSpace hb (fun _ => mm_Kx rfl (hK _ hw fC.rfl)) (fun q => ?_))) (fun r w hw K hK => d2 hw (bX6_count_54 (fun q => ?_) (fun _ => bX6_count_62 (by decide) (m_raises (mm_Kr 0 rfl (bX6_count_67 ?_))))))
    · rw [hw.bl, add_sub3 hub, b30, nI_lei (by omega) (by omega)] at q
      exact absurd q hsp
    · rw [add_sub3 hub, b30, nI_lei (by omega) (by omega)] at q
      exact absurd q hsp
    · exact hK _ _ hw.th fM.th th_at (fun h => absurd h (by decide))
  have e0 := sub_eq0 (a := f) (b := s.un l b) (by omega) (by omega)
  have eg := sub_le0 (a := f) (b := s.un l b) (by omega) (by omega)
  have el := sub_ge0 (a := f) (b := s.un l b) (by omega) (by omega)
  have c3 : ∀ {w} {K : mmO → mmM → Prop}, RepC w s → mm_E kX5_count 40 [.ref 0, .int (nI b), .int (nI l), .int (nI f), .int (nI f - nI (s.un l b))] [] w 4 K → mm_M kX5_count [.ref 0, .int (nI b), .int (nI l), .int (nI f)] w K := fun hw g => c2 hw (m_rBinSpace hb (fun q => absurd (by rw [hw.bl, add_sub3 hub, b30, nI_lei (by omega) (by omega)]; exact hsp) q) (fun _ => mm_Kv 4 rfl g))
  have d3 : ∀ {w} {K : mmO → mmM → Prop}, RepM w s → mm_E kX6_count 68 [.ref 81, .int (nI b), .int (nI l), .int (nI f), .int (nI f - nI (s.un l b))] [] w 0 K → mm_M kX6_count [.ref 81, .int (nI b), .int (nI l), .int (nI f)] w K := fun hw g => d2 hw (bX6_count_54 (fun _ => g) (fun q => absurd (by rw [add_sub3 hub, b30, nI_lei (by omega) (by omega)]; exact hsp) q))
  by_cases hn : f ≠ s.un l b ∧ s.ne = 150
  · obtain ⟨q1, q2⟩ := hn
    refine Op.no 4 1 h (by decide) (by decide) (fun w hw K hK => c3 hw (bX5_count_40 (fun q => absurd (e0.mp q) q1) (fun _ => bX5_count_45 (by decide) (m_rEntrySpace (e := 1) hne (by omega) hw.ne (fun _ => mm_Kx rfl (hK _ hw fC.rfl)) (fun q => absurd q (by omega)))))) (fun r w hw K hK => d3 hw (bX6_count_68 (fun q => absurd (e0.mp q) q1) (fun _ => bX6_count_73 (fun _ => bX6_count_83 (by decide) (m_raises (mm_Kr 0 rfl (bX6_count_88 ?_)))) (fun q => ?_))))
    · exact hK _ _ hw.th fM.th th_at (fun h => absurd h (by decide))
    · rw [hw.ne, q2] at q
      exact absurd rfl q
  have hne2 : f = s.un l b ∨ s.ne < 150 := by omega
  obtain ⟨hI1, _, _⟩ := fnd_I h hb hl1 hf hsp hne2
  obtain ⟨e1, e2, e3, e4, e5⟩ := fnd_eqs (s := s) (b := b) (l := l) (f := f)
  have hit := h.it_ l hl1
  have hI2 := cnd_I (b := b) hI1
  have hoc : ((s.fnd b l f).cnd b).oc ≤ 20 := Nat.le_trans oc_le hI2.np_
  refine Op.ok _ (nI (brk (s.it l) 20 ((s.fnd b l f).cnd b)).1) (count_I h hb hl1 hf hsp hne2) (fun w hw K hK => c3 hw ?_) (fun w hw K hK => d3 hw ?_)
  · have tail : ∀ c w' , c ≤ 5 → RepC w' (s.fnd b l f) → fC w w' → mm_E kX5_count 100 [.ref 0, .int (nI b), .int (nI l), .int (nI f), .int (nI f - nI (s.un l b))] [] w' c K := by
      intro c w' hc hw' hf'
      refine bX5_count_100 a2 a1 (Nat.le_trans (Nat.add_le_add_right hc _) (by decide)) ?_
      rw [cl_nI (by omega), cl_nI (by omega), hw'.it, hw'.td, e4]
      refine bX5_breakPromises_0 ?_
      refine k_brkC (w0 := w) (show s.it l < 6 by omega) 20 0 ((s.fnd b l f).cnd b) _ _ _ hI2 hw'.cnd (hf'.tr (fun j hj => mm_up_row (by omega))) (Nat.le_refl _) (fun w2 hw2 hf2 => mm_Kr _ rfl (bX5_count_126 ?_))
      rw [Nat.zero_add]
      exact hK _ hw2 hf2
    by_cases q1 : f = s.un l b
    · have ef : s.fnd b l f = s := if_pos q1
      refine bX5_count_40 (fun _ => ?_) (fun q => absurd (e0.mpr q1) q)
      exact bX5_count_50 (fun _ => bX5_count_84 (fun _ => tail 4 w (by decide) (by rw [ef]; exact hw) fC.rfl) (fun q => absurd (eg.mpr (by omega)) q)) (fun q => absurd (el.mpr (by omega)) q)
    · refine bX5_count_40 (fun q => absurd (e0.mp q) q1) (fun _ => bX5_count_45 (by decide) (m_rEntrySpace (e := 1) hne (by omega) hw.ne (fun q => absurd q (by omega)) (fun _ => mm_Kv 5 rfl ?_)))
      by_cases q2 : s.un l b < f
      · have ef : s.fnd b l f = (s.set 10 (upd2 s.un l b f)).jn 99 l 0 (b + 1) (f - s.un l b) := by unfold St.fnd; rw [if_neg q1, if_pos q2]
        have ed : nI f - nI (s.un l b) = nI (f - s.un l b) := sub_nI (by omega)
        have hd : nI (s.un l b) + (nI f - nI (s.un l b)) = nI f := by rw [ed, nI_add, show s.un l b + (f - s.un l b) = f by omega]
        have w2 := hw.ch (l := l) (b := b) (x := f) (by omega) hb hd
        have w3 := RepC.wr (kd := 99) (l := l) (f := 0) (t := b + 1) (q := f - s.un l b) w2
        rw [nI_pred] at w3
        refine bX5_count_50 (fun q => absurd (el.mp q) (by omega)) (fun _ => bX5_count_55 (by decide) (m_change (by omega) hb (mm_Kv 5 rfl (bX5_count_66 (by decide) ?_))))
        rw [w2.td]
        refine m_write (n := s.ne) (by omega) w2.ne (by decide) (mm_Kv 5 rfl (bX5_count_84 (fun _ => tail 5 _ (Nat.le_refl _) ?_ ((cCh_fC (by omega)).tr cWr_fC)) (fun q => absurd (eg.mpr (by omega)) q)))
        rw [ef]
        rw [ed] at w3 ⊢
        exact w3
      · have ef : s.fnd b l f = s.tk 99 l b (s.un l b - f) := by unfold St.fnd; rw [if_neg q1, if_neg q2]
        refine bX5_count_50 (fun _ => bX5_count_84 (fun q => absurd (eg.mp q) (by omega)) (fun _ => bX5_count_89 (by decide) ?_)) (fun q => absurd (el.mpr (by omega)) q)
        rw [neg_sub (by omega)]
        exact k_takeOut (kd := 99) hw (by omega) hb (by omega) (by decide) (by omega) (fun w' hw' hf' _ => mm_Kv 5 rfl (tail 5 w' (Nat.le_refl _) (by rw [ef]; exact hw') hf'))
  · have tail : ∀ w' , RepM w' (s.fnd b l f) → fM w w' → w' 81 26 = 0 → mm_E kX6_count 139 [.ref 81, .int (nI b), .int (nI l), .int (nI f), .int (nI f - nI (s.un l b))] [] w' 0 K := by
      intro w' hw' hf' ht'
      refine bX6_count_139 a2 a1 (by decide) ?_
      rw [cl_nI (by omega), cl_nI (by omega), hw'.it, hw'.td, e4]
      refine bX6_breaks_0 (by decide) (k_sdM hI2 hw'.cnd (show s.it l < 6 by omega) (mm_Kr 0 rfl (bX6_breaks_7 ?_)))
      refine k_brkM (w0 := w) (show s.it l < 6 by omega) 20 0 ((s.fnd b l f).cnd b) _ _ hI2 hw'.cnd (hf'.tr (fun j hj => mm_up_row (by omega))) (by rw [mm_up_row (by decide)]; exact ht') hoc (fun w2 hw2 hf2 ht2 => mm_Kr 0 rfl (bX6_count_159 ?_))
      rw [Nat.zero_add]
      exact hK _ _ hw2 hf2 (ht2.trans rfl) (fun _ => rfl)
    have hw0 := hw.th (x := 0)
    by_cases q1 : f = s.un l b
    · have ef : s.fnd b l f = s := if_pos q1
      exact bX6_count_68 (fun _ => bX6_count_89 (fun _ => tail _ (by rw [ef]; exact hw0) fM.th th_at) (fun q => absurd (e0.mpr q1) q)) (fun q => absurd (e0.mpr q1) q)
    · refine bX6_count_68 (fun q => absurd (e0.mp q) q1) (fun _ => bX6_count_73 (fun q => ?_) (fun _ => bX6_count_89 (fun q => absurd (e0.mp q) q1) (fun _ => ?_)))
      · rw [hw.ne] at q
        have := (nI_eq (b := 150) (by omega) (by omega)).mp q
        omega
      by_cases q2 : s.un l b < f
      · have ef : s.fnd b l f = (s.set 10 (upd2 s.un l b f)).jn 99 l 0 (b + 1) (f - s.un l b) := by unfold St.fnd; rw [if_neg q1, if_pos q2]
        have ed : nI f - nI (s.un l b) = nI (f - s.un l b) := sub_nI (by omega)
        have hd : nI (s.un l b) + (nI f - nI (s.un l b)) = nI f := by rw [ed, nI_add, show s.un l b + (f - s.un l b) = f by omega]
        have w2 := hw0.ch (l := l) (b := b) (x := f) (by omega) hb hd
        have w3 := RepM.wr (kd := 99) (l := l) (f := 0) (t := b + 1) (q := f - s.un l b) w2 (fun p hp hs => (h.pk_ p hp hs).2.1)
        rw [nI_pred] at w3
        refine bX6_count_99 (by decide) (m_puts (by omega) hb (mm_Kv 0 rfl (bX6_count_107 (fun _ => bX6_count_120 (bX6_count_121 (fun q => absurd (el.mp q) (by omega)) (fun _ => bX6_count_126 (bX6_count_131 (by decide) ?_)))) (fun q => absurd (eg.mpr (by omega)) q))))
        rw [if_pos (eg.mpr (by omega))]
        refine m_writes (n := s.ne) (by omega) w2.ne (by decide) (mm_Kv 0 rfl (tail _ ?_ (fM.th.tr ((dCh_fM (by omega)).tr dWr_fM)) ?_))
        · rw [ef]
          rw [ed] at w3 ⊢
          exact w3
        · rw [dWr_26, dCh_81 (by omega), th_at]
      · have ef : s.fnd b l f = s.tk 99 l b (s.un l b - f) := by unfold St.fnd; rw [if_neg q1, if_neg q2]
        have en : nI f - nI (s.un l b) = -nI (s.un l b - f) := by rw [← neg_sub (a := f) (b := s.un l b) (by omega), Int32.neg_neg]
        have w2 := hw0.tk (kd := 99) (l := l) (b := b) (q := s.un l b - f) (by omega) hb (by omega) (fun p hp hs => (h.pk_ p hp hs).2.1)
        refine bX6_count_99 (by decide) (m_puts (by omega) hb (mm_Kv 0 rfl (bX6_count_107 (fun q => absurd (eg.mp q) (by omega)) (fun _ => bX6_count_116 (bX6_count_121 (fun _ => bX6_count_130 (bX6_count_131 (by decide) ?_)) (fun q => absurd (el.mpr (by omega)) q))))))
        rw [if_neg (fun q => absurd (eg.mp q) (by omega)), show (0 : Int32) - (nI f - nI (s.un l b)) = nI (s.un l b - f) by rw [Int32.zero_sub, neg_sub (by omega)]]
        refine m_writes (n := s.ne) (by omega) (by rw [dCh_81 (by omega)]; exact hw0.ne) (by decide) (mm_Kv 0 rfl (tail _ ?_ (fM.th.tr ((dCh_fM (by omega)).tr dWr_fM)) ?_))
        · rw [ef, en]
          exact w2
        · rw [dWr_26, dCh_81 (by omega), th_at]
end C2
