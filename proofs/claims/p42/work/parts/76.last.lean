/-! the law's last calls (by wip/p42/genlast.py) -/
theorem nbt_nI {a b k : Nat} (h : k < a ∨ b < k) (hk : k < 1000000) (hb : b < 1000000) : ¬ bt a b (nI k) := by
  rintro ⟨j, h1, h2, e⟩
  have := (nI_eq (by omega) (by omega)).mp e
  omega
theorem nbt_pred {a b : Nat} (hb : b < 1000000) : ¬ bt a b (nI a - 1) := by
  rintro ⟨j, h1, h2, e⟩
  by_cases z : a = 0
  · subst z
    exact nI_m1 (a := j) (by omega) (by rw [← e]; decide)
  · rw [m1_p z] at e
    have := (nI_eq (by omega) (by omega)).mp e
    omega
theorem nbt_up {a b d t : Nat} (h : b < d) (ht : t < 900000) (hd : d < 1000) : ¬ bt a (t + b) (nI t + nI d) := by
  rw [nI_add]
  rintro ⟨j, h1, h2, e⟩
  have := (nI_eq (by omega) (by omega)).mp e
  omega
theorem m1_ne {m : Nat} (hm : m < 1000000) : ∀ i, i < m → (-1 : Int32) ≠ nI i := fun i hi e => nI_m1 (a := i) (by omega) e.symm
section LA
variable {n : Nat} {s : St} {w : mmM} {K : mmO → mmM → Prop} {c : Nat} {l8 l9 l11 : Value} {x3 : Int32}
theorem lz_end (h : Inv n s) (hj : Jn s) (h0 : 0 < s.ni) (hw : RepC w s) (hK : ∀ w', K (.inl (some (.int 1))) w') (hc : c ≤ 589000 + 1000) : mm_E kL_law 1046 [.ref 81, .ref 0, .int (nI s.ni), .int x3, .long (suV s), .retAddr 0, .int (nI s.nl), .int (nI s.np), l8, l9, .retAddr 0, l11] [] w c K := by
  have hni := h.ni_; have hnl := h.nl_; have hnp := h.np_; have hne := h.ne_; have htd := h.td_; have hnn := h.n_
  have ie : ∀ i, i < s.ni → nI s.ni ≠ nI i := ne_ge rfl (Nat.le_refl _) (by omega)
  have le : ∀ i, i < s.nl → nI s.nl ≠ nI i := ne_ge rfl (Nat.le_refl _) (by omega)
  have pe : ∀ i, i < s.np → nI s.np ≠ nI i := ne_ge rfl (Nat.le_refl _) (by omega)
  have ee : ∀ i, i < s.ne → nI s.ne ≠ nI i := ne_ge rfl (Nat.le_refl _) (by omega)
  refine bL_law_1046 (by show c + 3000 ≤ 600104; omega) (v_sum h hj w hw _ (fun w hw _ => mm_Kr (c + 3000) rfl (bL_law_1051 (fun _ => bL_law_1057 (bL_law_1062 nb_1 (hK w))) (fun q => absurd (lg_cmp_same _) q))))
theorem lz_1029 (h : Inv n s) (hj : Jn s) (h0 : 0 < s.ni) (hw : RepC w s) (hK : ∀ w', K (.inl (some (.int 1))) w') (hc : c ≤ 589000 + 999) : mm_E kL_law 1029 [.ref 81, .ref 0, .int (nI s.ni), .int x3, .long (suV s), .retAddr 0, .int (nI s.nl), .int (nI s.np), l8, l9, .retAddr 0, l11] [] w c K := by
  have hni := h.ni_; have hnl := h.nl_; have hnp := h.np_; have hne := h.ne_; have htd := h.td_; have hnn := h.n_
  have ie : ∀ i, i < s.ni → nI s.ni ≠ nI i := ne_ge rfl (Nat.le_refl _) (by omega)
  have le : ∀ i, i < s.nl → nI s.nl ≠ nI i := ne_ge rfl (Nat.le_refl _) (by omega)
  have pe : ∀ i, i < s.np → nI s.np ≠ nI i := ne_ge rfl (Nat.le_refl _) (by omega)
  have ee : ∀ i, i < s.ne → nI s.ne ≠ nI i := ne_ge rfl (Nat.le_refl _) (by omega)
  refine bL_law_1029 (by show c + 0 ≤ 600104; omega) (q_entries w hw _ (fun w hw _ => mm_Kr c rfl (bL_law_1034 (by show c + 1 ≤ 600104; omega) ((wX0_entry (q_entryKind2 h ee) (y := -1001) (by decide)) w hw _ (fun w hw _ => mm_Kr (c + 1) rfl (bL_law_1038 (fun _ => ?_) (fun q => absurd rfl q)))))))
  exact lz_end h hj h0 hw hK (by omega)
theorem lz_1015 (h : Inv n s) (hj : Jn s) (h0 : 0 < s.ni) (hw : RepC w s) (hK : ∀ w', K (.inl (some (.int 1))) w') (hc : c ≤ 589000 + 997) : mm_E kL_law 1015 [.ref 81, .ref 0, .int (nI s.ni), .int x3, .long (suV s), .retAddr 0, .int (nI s.nl), .int (nI s.np), l8, l9, .retAddr 0, l11] [] w c K := by
  have hni := h.ni_; have hnl := h.nl_; have hnp := h.np_; have hne := h.ne_; have htd := h.td_; have hnn := h.n_
  have ie : ∀ i, i < s.ni → nI s.ni ≠ nI i := ne_ge rfl (Nat.le_refl _) (by omega)
  have le : ∀ i, i < s.nl → nI s.nl ≠ nI i := ne_ge rfl (Nat.le_refl _) (by omega)
  have pe : ∀ i, i < s.np → nI s.np ≠ nI i := ne_ge rfl (Nat.le_refl _) (by omega)
  have ee : ∀ i, i < s.ne → nI s.ne ≠ nI i := ne_ge rfl (Nat.le_refl _) (by omega)
  refine bL_law_1015 (by show c + 2 ≤ 600104; omega) ((wX1_stock (q_stockJ0 h le) (y := -1001) (by decide)) w hw _ (fun w hw _ => mm_Kr (c + 2) rfl (bL_law_1023 (fun _ => ?_) (fun q => absurd rfl q))))
  exact lz_1029 h hj h0 hw hK (by omega)
theorem lz_998 (h : Inv n s) (hj : Jn s) (h0 : 0 < s.ni) (hw : RepC w s) (hK : ∀ w', K (.inl (some (.int 1))) w') (hc : c ≤ 589000 + 995) : mm_E kL_law 998 [.ref 81, .ref 0, .int (nI s.ni), .int x3, .long (suV s), .retAddr 0, .int (nI s.nl), .int (nI s.np), l8, l9, .retAddr 0, l11] [] w c K := by
  have hni := h.ni_; have hnl := h.nl_; have hnp := h.np_; have hne := h.ne_; have htd := h.td_; have hnn := h.n_
  have ie : ∀ i, i < s.ni → nI s.ni ≠ nI i := ne_ge rfl (Nat.le_refl _) (by omega)
  have le : ∀ i, i < s.nl → nI s.nl ≠ nI i := ne_ge rfl (Nat.le_refl _) (by omega)
  have pe : ∀ i, i < s.np → nI s.np ≠ nI i := ne_ge rfl (Nat.le_refl _) (by omega)
  have ee : ∀ i, i < s.ne → nI s.ne ≠ nI i := ne_ge rfl (Nat.le_refl _) (by omega)
  refine bL_law_998 (by show c + 0 ≤ 600104; omega) (q_day w hw _ (fun w hw _ => mm_Kr c rfl (bL_law_1004 (by show c + 2 ≤ 600104; omega) ((wX_had (q_onHandOn2 (i := 0) h h0 (nbt_up (a := 0) (b := 0) (d := 1) (t := s.td) (by decide) (by omega) (by decide))) (y := -1002) (by decide)) w hw _ (fun w hw _ => mm_Kr (c + 2) rfl (bL_law_1009 (fun _ => ?_) (fun q => absurd rfl q)))))))
  exact lz_1015 h hj h0 hw hK (by omega)
theorem lz_986 (h : Inv n s) (hj : Jn s) (h0 : 0 < s.ni) (hw : RepC w s) (hK : ∀ w', K (.inl (some (.int 1))) w') (hc : c ≤ 589000 + 993) : mm_E kL_law 986 [.ref 81, .ref 0, .int (nI s.ni), .int x3, .long (suV s), .retAddr 0, .int (nI s.nl), .int (nI s.np), l8, l9, .retAddr 0, l11] [] w c K := by
  have hni := h.ni_; have hnl := h.nl_; have hnp := h.np_; have hne := h.ne_; have htd := h.td_; have hnn := h.n_
  have ie : ∀ i, i < s.ni → nI s.ni ≠ nI i := ne_ge rfl (Nat.le_refl _) (by omega)
  have le : ∀ i, i < s.nl → nI s.nl ≠ nI i := ne_ge rfl (Nat.le_refl _) (by omega)
  have pe : ∀ i, i < s.np → nI s.np ≠ nI i := ne_ge rfl (Nat.le_refl _) (by omega)
  have ee : ∀ i, i < s.ne → nI s.ne ≠ nI i := ne_ge rfl (Nat.le_refl _) (by omega)
  refine bL_law_986 (by show c + 2 ≤ 600104; omega) ((wX_first (q_nextLot1 h ie) (y := -1001) (by decide)) w hw _ (fun w hw _ => mm_Kr (c + 2) rfl (bL_law_992 (fun _ => ?_) (fun q => absurd rfl q))))
  exact lz_998 h hj h0 hw hK (by omega)
theorem lz_974 (h : Inv n s) (hj : Jn s) (h0 : 0 < s.ni) (hw : RepC w s) (hK : ∀ w', K (.inl (some (.int 1))) w') (hc : c ≤ 589000 + 991) : mm_E kL_law 974 [.ref 81, .ref 0, .int (nI s.ni), .int x3, .long (suV s), .retAddr 0, .int (nI s.nl), .int (nI s.np), l8, l9, .retAddr 0, l11] [] w c K := by
  have hni := h.ni_; have hnl := h.nl_; have hnp := h.np_; have hne := h.ne_; have htd := h.td_; have hnn := h.n_
  have ie : ∀ i, i < s.ni → nI s.ni ≠ nI i := ne_ge rfl (Nat.le_refl _) (by omega)
  have le : ∀ i, i < s.nl → nI s.nl ≠ nI i := ne_ge rfl (Nat.le_refl _) (by omega)
  have pe : ∀ i, i < s.np → nI s.np ≠ nI i := ne_ge rfl (Nat.le_refl _) (by omega)
  have ee : ∀ i, i < s.ne → nI s.ne ≠ nI i := ne_ge rfl (Nat.le_refl _) (by omega)
  refine bL_law_974 (by show c + 2 ≤ 600104; omega) ((wX_dueDay (q_countDay1 (ne_ge (k := 40) rfl (by decide) (by decide))) (y := -1001) (by decide)) w hw _ (fun w hw _ => mm_Kr (c + 2) rfl (bL_law_980 (fun _ => ?_) (fun q => absurd rfl q))))
  exact lz_986 h hj h0 hw hK (by omega)
theorem lz_962 (h : Inv n s) (hj : Jn s) (h0 : 0 < s.ni) (hw : RepC w s) (hK : ∀ w', K (.inl (some (.int 1))) w') (hc : c ≤ 589000 + 990) : mm_E kL_law 962 [.ref 81, .ref 0, .int (nI s.ni), .int x3, .long (suV s), .retAddr 0, .int (nI s.nl), .int (nI s.np), l8, l9, .retAddr 0, l11] [] w c K := by
  have hni := h.ni_; have hnl := h.nl_; have hnp := h.np_; have hne := h.ne_; have htd := h.td_; have hnn := h.n_
  have ie : ∀ i, i < s.ni → nI s.ni ≠ nI i := ne_ge rfl (Nat.le_refl _) (by omega)
  have le : ∀ i, i < s.nl → nI s.nl ≠ nI i := ne_ge rfl (Nat.le_refl _) (by omega)
  have pe : ∀ i, i < s.np → nI s.np ≠ nI i := ne_ge rfl (Nat.le_refl _) (by omega)
  have ee : ∀ i, i < s.ne → nI s.ne ≠ nI i := ne_ge rfl (Nat.le_refl _) (by omega)
  refine bL_law_962 (by show c + 1 ≤ 600104; omega) ((wX_goes (t_pass1 (nbt_nI (k := 31) (by decide) (by decide) (by decide))) (y := -1001) (by decide)) w hw _ (fun w hw _ => mm_Kr (c + 1) rfl (bL_law_968 (fun _ => ?_) (fun q => absurd rfl q))))
  exact lz_974 h hj h0 hw hK (by omega)
theorem lz_951 (h : Inv n s) (hj : Jn s) (h0 : 0 < s.ni) (hw : RepC w s) (hK : ∀ w', K (.inl (some (.int 1))) w') (hc : c ≤ 589000 + 989) : mm_E kL_law 951 [.ref 81, .ref 0, .int (nI s.ni), .int x3, .long (suV s), .retAddr 0, .int (nI s.nl), .int (nI s.np), l8, l9, .retAddr 0, l11] [] w c K := by
  have hni := h.ni_; have hnl := h.nl_; have hnp := h.np_; have hne := h.ne_; have htd := h.td_; have hnn := h.n_
  have ie : ∀ i, i < s.ni → nI s.ni ≠ nI i := ne_ge rfl (Nat.le_refl _) (by omega)
  have le : ∀ i, i < s.nl → nI s.nl ≠ nI i := ne_ge rfl (Nat.le_refl _) (by omega)
  have pe : ∀ i, i < s.np → nI s.np ≠ nI i := ne_ge rfl (Nat.le_refl _) (by omega)
  have ee : ∀ i, i < s.ne → nI s.ne ≠ nI i := ne_ge rfl (Nat.le_refl _) (by omega)
  refine bL_law_951 (by show c + 1 ≤ 600104; omega) ((wX_goes (t_pass1 (nbt_nI (k := 0) (by decide) (by decide) (by decide))) (y := -1001) (by decide)) w hw _ (fun w hw _ => mm_Kr (c + 1) rfl (bL_law_956 (fun _ => ?_) (fun q => absurd rfl q))))
  exact lz_962 h hj h0 hw hK (by omega)
theorem lz_933 (h : Inv n s) (hj : Jn s) (h0 : 0 < s.ni) (hw : RepC w s) (hK : ∀ w', K (.inl (some (.int 1))) w') (hc : c ≤ 589000 + 987) : mm_E kL_law 933 [.ref 81, .ref 0, .int (nI s.ni), .int x3, .long (suV s), .retAddr 0, .int (nI s.nl), .int (nI s.np), l8, l9, .retAddr 0, l11] [] w c K := by
  have hni := h.ni_; have hnl := h.nl_; have hnp := h.np_; have hne := h.ne_; have htd := h.td_; have hnn := h.n_
  have ie : ∀ i, i < s.ni → nI s.ni ≠ nI i := ne_ge rfl (Nat.le_refl _) (by omega)
  have le : ∀ i, i < s.nl → nI s.nl ≠ nI i := ne_ge rfl (Nat.le_refl _) (by omega)
  have pe : ∀ i, i < s.np → nI s.np ≠ nI i := ne_ge rfl (Nat.le_refl _) (by omega)
  have ee : ∀ i, i < s.ne → nI s.ne ≠ nI i := ne_ge rfl (Nat.le_refl _) (by omega)
  refine bL_law_933 (by show c + 0 ≤ 600104; omega) (q_day w hw _ (fun w hw _ => mm_Kr c rfl (bL_law_939 (by show c + 2 ≤ 600104; omega) ((wX1_free (q_availT2 (i := 0) h h0 (nbt_pred (by omega))) (y := -1002) (by decide)) w hw _ (fun w hw _ => mm_Kr (c + 2) rfl (bL_law_945 (fun _ => ?_) (fun q => absurd rfl q)))))))
  exact lz_951 h hj h0 hw hK (by omega)
theorem lz_917 (h : Inv n s) (hj : Jn s) (h0 : 0 < s.ni) (hw : RepC w s) (hK : ∀ w', K (.inl (some (.int 1))) w') (hc : c ≤ 589000 + 985) : mm_E kL_law 917 [.ref 81, .ref 0, .int (nI s.ni), .int x3, .long (suV s), .retAddr 0, .int (nI s.nl), .int (nI s.np), l8, l9, .retAddr 0, l11] [] w c K := by
  have hni := h.ni_; have hnl := h.nl_; have hnp := h.np_; have hne := h.ne_; have htd := h.td_; have hnn := h.n_
  have ie : ∀ i, i < s.ni → nI s.ni ≠ nI i := ne_ge rfl (Nat.le_refl _) (by omega)
  have le : ∀ i, i < s.nl → nI s.nl ≠ nI i := ne_ge rfl (Nat.le_refl _) (by omega)
  have pe : ∀ i, i < s.np → nI s.np ≠ nI i := ne_ge rfl (Nat.le_refl _) (by omega)
  have ee : ∀ i, i < s.ne → nI s.ne ≠ nI i := ne_ge rfl (Nat.le_refl _) (by omega)
  refine bL_law_917 (by show c + 0 ≤ 600104; omega) (q_day w hw _ (fun w hw _ => mm_Kr c rfl (bL_law_923 (by show c + 2 ≤ 600104; omega) ((wX0_free (q_available1 h ie) (y := -1001) (by decide)) w hw _ (fun w hw _ => mm_Kr (c + 2) rfl (bL_law_927 (fun _ => ?_) (fun q => absurd rfl q)))))))
  exact lz_933 h hj h0 hw hK (by omega)
theorem lz_904 (h : Inv n s) (hj : Jn s) (h0 : 0 < s.ni) (hw : RepC w s) (hK : ∀ w', K (.inl (some (.int 1))) w') (hc : c ≤ 589000 + 983) : mm_E kL_law 904 [.ref 81, .ref 0, .int (nI s.ni), .int x3, .long (suV s), .retAddr 0, .int (nI s.nl), .int (nI s.np), l8, l9, .retAddr 0, l11] [] w c K := by
  have hni := h.ni_; have hnl := h.nl_; have hnp := h.np_; have hne := h.ne_; have htd := h.td_; have hnn := h.n_
  have ie : ∀ i, i < s.ni → nI s.ni ≠ nI i := ne_ge rfl (Nat.le_refl _) (by omega)
  have le : ∀ i, i < s.nl → nI s.nl ≠ nI i := ne_ge rfl (Nat.le_refl _) (by omega)
  have pe : ∀ i, i < s.np → nI s.np ≠ nI i := ne_ge rfl (Nat.le_refl _) (by omega)
  have ee : ∀ i, i < s.ne → nI s.ne ≠ nI i := ne_ge rfl (Nat.le_refl _) (by omega)
  refine bL_law_904 (by show c + 2 ≤ 600104; omega) ((wX1_walks (q_walkT2 h pe) (y := -1001) (by decide)) w hw _ (fun w hw _ => mm_Kr (c + 2) rfl (bL_law_911 (fun _ => ?_) (fun q => absurd rfl q))))
  exact lz_917 h hj h0 hw hK (by omega)
theorem lz_890 (h : Inv n s) (hj : Jn s) (h0 : 0 < s.ni) (hw : RepC w s) (hK : ∀ w', K (.inl (some (.int 1))) w') (hc : c ≤ 589000 + 980) : mm_E kL_law 890 [.ref 81, .ref 0, .int (nI s.ni), .int x3, .long (suV s), .retAddr 0, .int (nI s.nl), .int (nI s.np), l8, l9, .retAddr 0, l11] [] w c K := by
  have hni := h.ni_; have hnl := h.nl_; have hnp := h.np_; have hne := h.ne_; have htd := h.td_; have hnn := h.n_
  have ie : ∀ i, i < s.ni → nI s.ni ≠ nI i := ne_ge rfl (Nat.le_refl _) (by omega)
  have le : ∀ i, i < s.nl → nI s.nl ≠ nI i := ne_ge rfl (Nat.le_refl _) (by omega)
  have pe : ∀ i, i < s.np → nI s.np ≠ nI i := ne_ge rfl (Nat.le_refl _) (by omega)
  have ee : ∀ i, i < s.ne → nI s.ne ≠ nI i := ne_ge rfl (Nat.le_refl _) (by omega)
  refine bL_law_890 (by show c + 3 ≤ 600104; omega) ((wX1_line (q_pickLot2 h pe) (y := -1001) (by decide)) w hw _ (fun w hw _ => mm_Kr (c + 3) rfl (bL_law_898 (fun _ => ?_) (fun q => absurd rfl q))))
  exact lz_904 h hj h0 hw hK (by omega)
theorem lz_878 (h : Inv n s) (hj : Jn s) (h0 : 0 < s.ni) (hw : RepC w s) (hK : ∀ w', K (.inl (some (.int 1))) w') (hc : c ≤ 589000 + 978) : mm_E kL_law 878 [.ref 81, .ref 0, .int (nI s.ni), .int x3, .long (suV s), .retAddr 0, .int (nI s.nl), .int (nI s.np), l8, l9, .retAddr 0, l11] [] w c K := by
  have hni := h.ni_; have hnl := h.nl_; have hnp := h.np_; have hne := h.ne_; have htd := h.td_; have hnn := h.n_
  have ie : ∀ i, i < s.ni → nI s.ni ≠ nI i := ne_ge rfl (Nat.le_refl _) (by omega)
  have le : ∀ i, i < s.nl → nI s.nl ≠ nI i := ne_ge rfl (Nat.le_refl _) (by omega)
  have pe : ∀ i, i < s.np → nI s.np ≠ nI i := ne_ge rfl (Nat.le_refl _) (by omega)
  have ee : ∀ i, i < s.ne → nI s.ne ≠ nI i := ne_ge rfl (Nat.le_refl _) (by omega)
  refine bL_law_878 (by show c + 2 ≤ 600104; omega) ((wX_lines (q_pickLines2 h pe) (y := -1001) (by decide)) w hw _ (fun w hw _ => mm_Kr (c + 2) rfl (bL_law_884 (fun _ => ?_) (fun q => absurd rfl q))))
  exact lz_890 h hj h0 hw hK (by omega)
theorem lz_867 (h : Inv n s) (hj : Jn s) (h0 : 0 < s.ni) (hw : RepC w s) (hK : ∀ w', K (.inl (some (.int 1))) w') (hc : c ≤ 589000 + 975) : mm_E kL_law 867 [.ref 81, .ref 0, .int (nI s.ni), .int x3, .long (suV s), .retAddr 0, .int (nI s.nl), .int (nI s.np), l8, l9, .retAddr 0, l11] [] w c K := by
  have hni := h.ni_; have hnl := h.nl_; have hnp := h.np_; have hne := h.ne_; have htd := h.td_; have hnn := h.n_
  have ie : ∀ i, i < s.ni → nI s.ni ≠ nI i := ne_ge rfl (Nat.le_refl _) (by omega)
  have le : ∀ i, i < s.nl → nI s.nl ≠ nI i := ne_ge rfl (Nat.le_refl _) (by omega)
  have pe : ∀ i, i < s.np → nI s.np ≠ nI i := ne_ge rfl (Nat.le_refl _) (by omega)
  have ee : ∀ i, i < s.ne → nI s.ne ≠ nI i := ne_ge rfl (Nat.le_refl _) (by omega)
  refine bL_law_867 (by show c + 3 ≤ 600104; omega) ((wX_picks (t_pick1 h (m1_ne (by omega))) (y := -1001) (by decide)) w hw _ (fun w hw _ => mm_Kr (c + 3) rfl (bL_law_872 (fun _ => ?_) (fun q => absurd rfl q))))
  exact lz_878 h hj h0 hw hK (by omega)
theorem lz_855 (h : Inv n s) (hj : Jn s) (h0 : 0 < s.ni) (hw : RepC w s) (hK : ∀ w', K (.inl (some (.int 1))) w') (hc : c ≤ 589000 + 973) : mm_E kL_law 855 [.ref 81, .ref 0, .int (nI s.ni), .int x3, .long (suV s), .retAddr 0, .int (nI s.nl), .int (nI s.np), l8, l9, .retAddr 0, l11] [] w c K := by
  have hni := h.ni_; have hnl := h.nl_; have hnp := h.np_; have hne := h.ne_; have htd := h.td_; have hnn := h.n_
  have ie : ∀ i, i < s.ni → nI s.ni ≠ nI i := ne_ge rfl (Nat.le_refl _) (by omega)
  have le : ∀ i, i < s.nl → nI s.nl ≠ nI i := ne_ge rfl (Nat.le_refl _) (by omega)
  have pe : ∀ i, i < s.np → nI s.np ≠ nI i := ne_ge rfl (Nat.le_refl _) (by omega)
  have ee : ∀ i, i < s.ne → nI s.ne ≠ nI i := ne_ge rfl (Nat.le_refl _) (by omega)
  refine bL_law_855 (by show c + 2 ≤ 600104; omega) ((wX_cancels (t_canc1 h pe) (y := -1001) (by decide)) w hw _ (fun w hw _ => mm_Kr (c + 2) rfl (bL_law_861 (fun _ => ?_) (fun q => absurd rfl q))))
  exact lz_867 h hj h0 hw hK (by omega)
theorem lz_835 (h : Inv n s) (hj : Jn s) (h0 : 0 < s.ni) (hw : RepC w s) (hK : ∀ w', K (.inl (some (.int 1))) w') (hc : c ≤ 589000 + 969) : mm_E kL_law 835 [.ref 81, .ref 0, .int (nI s.ni), .int x3, .long (suV s), .retAddr 0, .int (nI s.nl), .int (nI s.np), l8, l9, .retAddr 0, l11] [] w c K := by
  have hni := h.ni_; have hnl := h.nl_; have hnp := h.np_; have hne := h.ne_; have htd := h.td_; have hnn := h.n_
  have ie : ∀ i, i < s.ni → nI s.ni ≠ nI i := ne_ge rfl (Nat.le_refl _) (by omega)
  have le : ∀ i, i < s.nl → nI s.nl ≠ nI i := ne_ge rfl (Nat.le_refl _) (by omega)
  have pe : ∀ i, i < s.np → nI s.np ≠ nI i := ne_ge rfl (Nat.le_refl _) (by omega)
  have ee : ∀ i, i < s.ne → nI s.ne ≠ nI i := ne_ge rfl (Nat.le_refl _) (by omega)
  refine bL_law_835 (by show c + 0 ≤ 600104; omega) (q_day w hw _ (fun w hw _ => mm_Kr c rfl (bL_law_842 (by show c + 4 ≤ 600104; omega) ((wX_promises (t_prom3 (i := 0) h h0 ⟨1, by decide, by decide, rfl⟩ (nbt_up (b := 60) (d := 61) (by decide) (by omega) (by decide))) (y := -1002) (by decide)) w hw _ (fun w hw _ => mm_Kr (c + 4) rfl (bL_law_849 (fun _ => ?_) (fun q => absurd rfl q)))))))
  exact lz_855 h hj h0 hw hK (by omega)
theorem lz_818 (h : Inv n s) (hj : Jn s) (h0 : 0 < s.ni) (hw : RepC w s) (hK : ∀ w', K (.inl (some (.int 1))) w') (hc : c ≤ 589000 + 965) : mm_E kL_law 818 [.ref 81, .ref 0, .int (nI s.ni), .int x3, .long (suV s), .retAddr 0, .int (nI s.nl), .int (nI s.np), l8, l9, .retAddr 0, l11] [] w c K := by
  have hni := h.ni_; have hnl := h.nl_; have hnp := h.np_; have hne := h.ne_; have htd := h.td_; have hnn := h.n_
  have ie : ∀ i, i < s.ni → nI s.ni ≠ nI i := ne_ge rfl (Nat.le_refl _) (by omega)
  have le : ∀ i, i < s.nl → nI s.nl ≠ nI i := ne_ge rfl (Nat.le_refl _) (by omega)
  have pe : ∀ i, i < s.np → nI s.np ≠ nI i := ne_ge rfl (Nat.le_refl _) (by omega)
  have ee : ∀ i, i < s.ne → nI s.ne ≠ nI i := ne_ge rfl (Nat.le_refl _) (by omega)
  refine bL_law_818 (by show c + 0 ≤ 600104; omega) (q_day w hw _ (fun w hw _ => mm_Kr c rfl (bL_law_825 (by show c + 4 ≤ 600104; omega) ((wX_promises (t_prom2 (i := 0) h h0 (nbt_nI (k := 0) (by decide) (by decide) (by decide))) (y := -1002) (by decide)) w hw _ (fun w hw _ => mm_Kr (c + 4) rfl (bL_law_829 (fun _ => ?_) (fun q => absurd rfl q)))))))
  exact lz_835 h hj h0 hw hK (by omega)
theorem lz_800 (h : Inv n s) (hj : Jn s) (h0 : 0 < s.ni) (hw : RepC w s) (hK : ∀ w', K (.inl (some (.int 1))) w') (hc : c ≤ 589000 + 961) : mm_E kL_law 800 [.ref 81, .ref 0, .int (nI s.ni), .int x3, .long (suV s), .retAddr 0, .int (nI s.nl), .int (nI s.np), l8, l9, .retAddr 0, l11] [] w c K := by
  have hni := h.ni_; have hnl := h.nl_; have hnp := h.np_; have hne := h.ne_; have htd := h.td_; have hnn := h.n_
  have ie : ∀ i, i < s.ni → nI s.ni ≠ nI i := ne_ge rfl (Nat.le_refl _) (by omega)
  have le : ∀ i, i < s.nl → nI s.nl ≠ nI i := ne_ge rfl (Nat.le_refl _) (by omega)
  have pe : ∀ i, i < s.np → nI s.np ≠ nI i := ne_ge rfl (Nat.le_refl _) (by omega)
  have ee : ∀ i, i < s.ne → nI s.ne ≠ nI i := ne_ge rfl (Nat.le_refl _) (by omega)
  refine bL_law_800 (by show c + 0 ≤ 600104; omega) (q_day w hw _ (fun w hw _ => mm_Kr c rfl (bL_law_808 (by show c + 4 ≤ 600104; omega) ((wX_promises (t_prom2 (i := 0) h h0 (nbt_nI (k := 61) (by decide) (by decide) (by decide))) (y := -1002) (by decide)) w hw _ (fun w hw _ => mm_Kr (c + 4) rfl (bL_law_812 (fun _ => ?_) (fun q => absurd rfl q)))))))
  exact lz_818 h hj h0 hw hK (by omega)
theorem lz_783 (h : Inv n s) (hj : Jn s) (h0 : 0 < s.ni) (hw : RepC w s) (hK : ∀ w', K (.inl (some (.int 1))) w') (hc : c ≤ 589000 + 957) : mm_E kL_law 783 [.ref 81, .ref 0, .int (nI s.ni), .int x3, .long (suV s), .retAddr 0, .int (nI s.nl), .int (nI s.np), l8, l9, .retAddr 0, l11] [] w c K := by
  have hni := h.ni_; have hnl := h.nl_; have hnp := h.np_; have hne := h.ne_; have htd := h.td_; have hnn := h.n_
  have ie : ∀ i, i < s.ni → nI s.ni ≠ nI i := ne_ge rfl (Nat.le_refl _) (by omega)
  have le : ∀ i, i < s.nl → nI s.nl ≠ nI i := ne_ge rfl (Nat.le_refl _) (by omega)
  have pe : ∀ i, i < s.np → nI s.np ≠ nI i := ne_ge rfl (Nat.le_refl _) (by omega)
  have ee : ∀ i, i < s.ne → nI s.ne ≠ nI i := ne_ge rfl (Nat.le_refl _) (by omega)
  refine bL_law_783 (by show c + 0 ≤ 600104; omega) (q_day w hw _ (fun w hw _ => mm_Kr c rfl (bL_law_790 (by show c + 4 ≤ 600104; omega) ((wX_promises (t_prom1 h ie) (y := -1001) (by decide)) w hw _ (fun w hw _ => mm_Kr (c + 4) rfl (bL_law_794 (fun _ => ?_) (fun q => absurd rfl q)))))))
  exact lz_800 h hj h0 hw hK (by omega)
theorem lz_768 (h : Inv n s) (hj : Jn s) (h0 : 0 < s.ni) (hw : RepC w s) (hK : ∀ w', K (.inl (some (.int 1))) w') (hc : c ≤ 589000 + 952) : mm_E kL_law 768 [.ref 81, .ref 0, .int (nI s.ni), .int x3, .long (suV s), .retAddr 0, .int (nI s.nl), .int (nI s.np), l8, l9, .retAddr 0, l11] [] w c K := by
  have hni := h.ni_; have hnl := h.nl_; have hnp := h.np_; have hne := h.ne_; have htd := h.td_; have hnn := h.n_
  have ie : ∀ i, i < s.ni → nI s.ni ≠ nI i := ne_ge rfl (Nat.le_refl _) (by omega)
  have le : ∀ i, i < s.nl → nI s.nl ≠ nI i := ne_ge rfl (Nat.le_refl _) (by omega)
  have pe : ∀ i, i < s.np → nI s.np ≠ nI i := ne_ge rfl (Nat.le_refl _) (by omega)
  have ee : ∀ i, i < s.ne → nI s.ne ≠ nI i := ne_ge rfl (Nat.le_refl _) (by omega)
  refine bL_law_768 (by show c + 5 ≤ 600104; omega) ((wX_counts (t_count2 (m1_ne (by decide))) (y := -1001) (by decide)) w hw _ (fun w hw _ => mm_Kr (c + 5) rfl (bL_law_775 (fun _ => ?_) (fun q => absurd rfl q))))
  exact lz_783 h hj h0 hw hK (by omega)
theorem lz_754 (h : Inv n s) (hj : Jn s) (h0 : 0 < s.ni) (hw : RepC w s) (hK : ∀ w', K (.inl (some (.int 1))) w') (hc : c ≤ 589000 + 947) : mm_E kL_law 754 [.ref 81, .ref 0, .int (nI s.ni), .int x3, .long (suV s), .retAddr 0, .int (nI s.nl), .int (nI s.np), l8, l9, .retAddr 0, l11] [] w c K := by
  have hni := h.ni_; have hnl := h.nl_; have hnp := h.np_; have hne := h.ne_; have htd := h.td_; have hnn := h.n_
  have ie : ∀ i, i < s.ni → nI s.ni ≠ nI i := ne_ge rfl (Nat.le_refl _) (by omega)
  have le : ∀ i, i < s.nl → nI s.nl ≠ nI i := ne_ge rfl (Nat.le_refl _) (by omega)
  have pe : ∀ i, i < s.np → nI s.np ≠ nI i := ne_ge rfl (Nat.le_refl _) (by omega)
  have ee : ∀ i, i < s.ne → nI s.ne ≠ nI i := ne_ge rfl (Nat.le_refl _) (by omega)
  refine bL_law_754 (by show c + 5 ≤ 600104; omega) ((wX_counts (t_count1 (b := 0) h (by decide) le) (y := -1001) (by decide)) w hw _ (fun w hw _ => mm_Kr (c + 5) rfl (bL_law_762 (fun _ => ?_) (fun q => absurd rfl q))))
  exact lz_768 h hj h0 hw hK (by omega)
theorem lz_742 (h : Inv n s) (hj : Jn s) (h0 : 0 < s.ni) (hw : RepC w s) (hK : ∀ w', K (.inl (some (.int 1))) w') (hc : c ≤ 589000 + 944) : mm_E kL_law 742 [.ref 81, .ref 0, .int (nI s.ni), .int x3, .long (suV s), .retAddr 0, .int (nI s.nl), .int (nI s.np), l8, l9, .retAddr 0, l11] [] w c K := by
  have hni := h.ni_; have hnl := h.nl_; have hnp := h.np_; have hne := h.ne_; have htd := h.td_; have hnn := h.n_
  have ie : ∀ i, i < s.ni → nI s.ni ≠ nI i := ne_ge rfl (Nat.le_refl _) (by omega)
  have le : ∀ i, i < s.nl → nI s.nl ≠ nI i := ne_ge rfl (Nat.le_refl _) (by omega)
  have pe : ∀ i, i < s.np → nI s.np ≠ nI i := ne_ge rfl (Nat.le_refl _) (by omega)
  have ee : ∀ i, i < s.ne → nI s.ne ≠ nI i := ne_ge rfl (Nat.le_refl _) (by omega)
  refine bL_law_742 (by show c + 3 ≤ 600104; omega) ((wX_disposes (t_disp1 h le) (y := -1001) (by decide)) w hw _ (fun w hw _ => mm_Kr (c + 3) rfl (bL_law_748 (fun _ => ?_) (fun q => absurd rfl q))))
  exact lz_754 h hj h0 hw hK (by omega)
theorem lz_727 (h : Inv n s) (hj : Jn s) (h0 : 0 < s.ni) (hw : RepC w s) (hK : ∀ w', K (.inl (some (.int 1))) w') (hc : c ≤ 589000 + 937) : mm_E kL_law 727 [.ref 81, .ref 0, .int (nI s.ni), .int x3, .long (suV s), .retAddr 0, .int (nI s.nl), .int (nI s.np), l8, l9, .retAddr 0, l11] [] w c K := by
  have hni := h.ni_; have hnl := h.nl_; have hnp := h.np_; have hne := h.ne_; have htd := h.td_; have hnn := h.n_
  have ie : ∀ i, i < s.ni → nI s.ni ≠ nI i := ne_ge rfl (Nat.le_refl _) (by omega)
  have le : ∀ i, i < s.nl → nI s.nl ≠ nI i := ne_ge rfl (Nat.le_refl _) (by omega)
  have pe : ∀ i, i < s.np → nI s.np ≠ nI i := ne_ge rfl (Nat.le_refl _) (by omega)
  have ee : ∀ i, i < s.ne → nI s.ne ≠ nI i := ne_ge rfl (Nat.le_refl _) (by omega)
  refine bL_law_727 (by show c + 7 ≤ 600104; omega) ((wX_moves (t_move1 h le) (y := -1001) (by decide)) w hw _ (fun w hw _ => mm_Kr (c + 7) rfl (bL_law_736 (fun _ => ?_) (fun q => absurd rfl q))))
  exact lz_742 h hj h0 hw hK (by omega)
theorem lz_707 (h : Inv n s) (hj : Jn s) (h0 : 0 < s.ni) (hw : RepC w s) (hK : ∀ w', K (.inl (some (.int 1))) w') (hc : c ≤ 589000 + 930) : mm_E kL_law 707 [.ref 81, .ref 0, .int (nI s.ni), .int x3, .long (suV s), .retAddr 0, .int (nI s.nl), .int (nI s.np), l8, l9, .retAddr 0, l11] [] w c K := by
  have hni := h.ni_; have hnl := h.nl_; have hnp := h.np_; have hne := h.ne_; have htd := h.td_; have hnn := h.n_
  have ie : ∀ i, i < s.ni → nI s.ni ≠ nI i := ne_ge rfl (Nat.le_refl _) (by omega)
  have le : ∀ i, i < s.nl → nI s.nl ≠ nI i := ne_ge rfl (Nat.le_refl _) (by omega)
  have pe : ∀ i, i < s.np → nI s.np ≠ nI i := ne_ge rfl (Nat.le_refl _) (by omega)
  have ee : ∀ i, i < s.ne → nI s.ne ≠ nI i := ne_ge rfl (Nat.le_refl _) (by omega)
  refine bL_law_707 (by show c + 0 ≤ 600104; omega) (q_day w hw _ (fun w hw _ => mm_Kr c rfl (bL_law_714 (by show c + 7 ≤ 600104; omega) ((wX_receives (t_recv3 (i := 0) (b := 0) h h0 (by decide) ⟨1, by decide, by decide, rfl⟩ (nbt_up (b := 99) (d := 100) (by decide) (by omega) (by decide))) (y := -1002) (by decide)) w hw _ (fun w hw _ => mm_Kr (c + 7) rfl (bL_law_721 (fun _ => ?_) (fun q => absurd rfl q)))))))
  exact lz_727 h hj h0 hw hK (by omega)
theorem lz_688 (h : Inv n s) (hj : Jn s) (h0 : 0 < s.ni) (hw : RepC w s) (hK : ∀ w', K (.inl (some (.int 1))) w') (hc : c ≤ 589000 + 923) : mm_E kL_law 688 [.ref 81, .ref 0, .int (nI s.ni), .int x3, .long (suV s), .retAddr 0, .int (nI s.nl), .int (nI s.np), l8, l9, .retAddr 0, l11] [] w c K := by
  have hni := h.ni_; have hnl := h.nl_; have hnp := h.np_; have hne := h.ne_; have htd := h.td_; have hnn := h.n_
  have ie : ∀ i, i < s.ni → nI s.ni ≠ nI i := ne_ge rfl (Nat.le_refl _) (by omega)
  have le : ∀ i, i < s.nl → nI s.nl ≠ nI i := ne_ge rfl (Nat.le_refl _) (by omega)
  have pe : ∀ i, i < s.np → nI s.np ≠ nI i := ne_ge rfl (Nat.le_refl _) (by omega)
  have ee : ∀ i, i < s.ne → nI s.ne ≠ nI i := ne_ge rfl (Nat.le_refl _) (by omega)
  refine bL_law_688 (by show c + 0 ≤ 600104; omega) (q_day w hw _ (fun w hw _ => mm_Kr c rfl (bL_law_695 (by show c + 7 ≤ 600104; omega) ((wX_receives (t_recv3 (i := 0) (b := 0) h h0 (by decide) ⟨1, by decide, by decide, rfl⟩ (nbt_pred (by omega))) (y := -1002) (by decide)) w hw _ (fun w hw _ => mm_Kr (c + 7) rfl (bL_law_701 (fun _ => ?_) (fun q => absurd rfl q)))))))
  exact lz_707 h hj h0 hw hK (by omega)
theorem lz_670 (h : Inv n s) (hj : Jn s) (h0 : 0 < s.ni) (hw : RepC w s) (hK : ∀ w', K (.inl (some (.int 1))) w') (hc : c ≤ 589000 + 916) : mm_E kL_law 670 [.ref 81, .ref 0, .int (nI s.ni), .int x3, .long (suV s), .retAddr 0, .int (nI s.nl), .int (nI s.np), l8, l9, .retAddr 0, l11] [] w c K := by
  have hni := h.ni_; have hnl := h.nl_; have hnp := h.np_; have hne := h.ne_; have htd := h.td_; have hnn := h.n_
  have ie : ∀ i, i < s.ni → nI s.ni ≠ nI i := ne_ge rfl (Nat.le_refl _) (by omega)
  have le : ∀ i, i < s.nl → nI s.nl ≠ nI i := ne_ge rfl (Nat.le_refl _) (by omega)
  have pe : ∀ i, i < s.np → nI s.np ≠ nI i := ne_ge rfl (Nat.le_refl _) (by omega)
  have ee : ∀ i, i < s.ne → nI s.ne ≠ nI i := ne_ge rfl (Nat.le_refl _) (by omega)
  refine bL_law_670 (by show c + 0 ≤ 600104; omega) (q_day w hw _ (fun w hw _ => mm_Kr c rfl (bL_law_678 (by show c + 7 ≤ 600104; omega) ((wX_receives (t_recv2 (i := 0) (b := 0) h h0 (by decide) (nbt_nI (k := 31) (by decide) (by decide) (by decide))) (y := -1002) (by decide)) w hw _ (fun w hw _ => mm_Kr (c + 7) rfl (bL_law_682 (fun _ => ?_) (fun q => absurd rfl q)))))))
  exact lz_688 h hj h0 hw hK (by omega)
theorem lz_652 (h : Inv n s) (hj : Jn s) (h0 : 0 < s.ni) (hw : RepC w s) (hK : ∀ w', K (.inl (some (.int 1))) w') (hc : c ≤ 589000 + 909) : mm_E kL_law 652 [.ref 81, .ref 0, .int (nI s.ni), .int x3, .long (suV s), .retAddr 0, .int (nI s.nl), .int (nI s.np), l8, l9, .retAddr 0, l11] [] w c K := by
  have hni := h.ni_; have hnl := h.nl_; have hnp := h.np_; have hne := h.ne_; have htd := h.td_; have hnn := h.n_
  have ie : ∀ i, i < s.ni → nI s.ni ≠ nI i := ne_ge rfl (Nat.le_refl _) (by omega)
  have le : ∀ i, i < s.nl → nI s.nl ≠ nI i := ne_ge rfl (Nat.le_refl _) (by omega)
  have pe : ∀ i, i < s.np → nI s.np ≠ nI i := ne_ge rfl (Nat.le_refl _) (by omega)
  have ee : ∀ i, i < s.ne → nI s.ne ≠ nI i := ne_ge rfl (Nat.le_refl _) (by omega)
  refine bL_law_652 (by show c + 0 ≤ 600104; omega) (q_day w hw _ (fun w hw _ => mm_Kr c rfl (bL_law_659 (by show c + 7 ≤ 600104; omega) ((wX_receives (t_recv1 (i := 0) h h0 (ne_ge (k := 40) rfl (by decide) (by decide))) (y := -1001) (by decide)) w hw _ (fun w hw _ => mm_Kr (c + 7) rfl (bL_law_664 (fun _ => ?_) (fun q => absurd rfl q)))))))
  exact lz_670 h hj h0 hw hK (by omega)
theorem lz_638 (h : Inv n s) (hj : Jn s) (h0 : 0 < s.ni) (hw : RepC w s) (hK : ∀ w', K (.inl (some (.int 1))) w') (hc : c ≤ 589000 + 905) : mm_E kL_law 638 [.ref 81, .ref 0, .int (nI s.ni), .int x3, .long (suV s), .retAddr 0, .int (nI s.nl), .int (nI s.np), l8, l9, .retAddr 0, l11] [] w c K := by
  have hni := h.ni_; have hnl := h.nl_; have hnp := h.np_; have hne := h.ne_; have htd := h.td_; have hnn := h.n_
  have ie : ∀ i, i < s.ni → nI s.ni ≠ nI i := ne_ge rfl (Nat.le_refl _) (by omega)
  have le : ∀ i, i < s.nl → nI s.nl ≠ nI i := ne_ge rfl (Nat.le_refl _) (by omega)
  have pe : ∀ i, i < s.np → nI s.np ≠ nI i := ne_ge rfl (Nat.le_refl _) (by omega)
  have ee : ∀ i, i < s.ne → nI s.ne ≠ nI i := ne_ge rfl (Nat.le_refl _) (by omega)
  refine bL_law_638 (by show c + 4 ≤ 600104; omega) ((wX_substitutes (t_subs3 (i := 0) h h0 ⟨9, by decide, by decide, rfl⟩) (y := -1003) (by decide)) w hw _ (fun w hw _ => mm_Kr (c + 4) rfl (bL_law_646 (fun _ => ?_) (fun q => absurd rfl q))))
  exact lz_652 h hj h0 hw hK (by omega)
theorem lz_624 (h : Inv n s) (hj : Jn s) (h0 : 0 < s.ni) (hw : RepC w s) (hK : ∀ w', K (.inl (some (.int 1))) w') (hc : c ≤ 589000 + 901) : mm_E kL_law 624 [.ref 81, .ref 0, .int (nI s.ni), .int x3, .long (suV s), .retAddr 0, .int (nI s.nl), .int (nI s.np), l8, l9, .retAddr 0, l11] [] w c K := by
  have hni := h.ni_; have hnl := h.nl_; have hnp := h.np_; have hne := h.ne_; have htd := h.td_; have hnn := h.n_
  have ie : ∀ i, i < s.ni → nI s.ni ≠ nI i := ne_ge rfl (Nat.le_refl _) (by omega)
  have le : ∀ i, i < s.nl → nI s.nl ≠ nI i := ne_ge rfl (Nat.le_refl _) (by omega)
  have pe : ∀ i, i < s.np → nI s.np ≠ nI i := ne_ge rfl (Nat.le_refl _) (by omega)
  have ee : ∀ i, i < s.ne → nI s.ne ≠ nI i := ne_ge rfl (Nat.le_refl _) (by omega)
  refine bL_law_624 (by show c + 4 ≤ 600104; omega) ((wX_substitutes (t_subs2 (i := 0) (j := 0) h h0 h0 (nbt_nI (k := 10) (by decide) (by decide) (by decide))) (y := -1002) (by decide)) w hw _ (fun w hw _ => mm_Kr (c + 4) rfl (bL_law_632 (fun _ => ?_) (fun q => absurd rfl q))))
  exact lz_638 h hj h0 hw hK (by omega)
theorem lz_611 (h : Inv n s) (hj : Jn s) (h0 : 0 < s.ni) (hw : RepC w s) (hK : ∀ w', K (.inl (some (.int 1))) w') (hc : c ≤ 589000 + 897) : mm_E kL_law 611 [.ref 81, .ref 0, .int (nI s.ni), .int x3, .long (suV s), .retAddr 0, .int (nI s.nl), .int (nI s.np), l8, l9, .retAddr 0, l11] [] w c K := by
  have hni := h.ni_; have hnl := h.nl_; have hnp := h.np_; have hne := h.ne_; have htd := h.td_; have hnn := h.n_
  have ie : ∀ i, i < s.ni → nI s.ni ≠ nI i := ne_ge rfl (Nat.le_refl _) (by omega)
  have le : ∀ i, i < s.nl → nI s.nl ≠ nI i := ne_ge rfl (Nat.le_refl _) (by omega)
  have pe : ∀ i, i < s.np → nI s.np ≠ nI i := ne_ge rfl (Nat.le_refl _) (by omega)
  have ee : ∀ i, i < s.ne → nI s.ne ≠ nI i := ne_ge rfl (Nat.le_refl _) (by omega)
  refine bL_law_611 (by show c + 4 ≤ 600104; omega) ((wX_substitutes (t_subs1 h ie) (y := -1001) (by decide)) w hw _ (fun w hw _ => mm_Kr (c + 4) rfl (bL_law_618 (fun _ => ?_) (fun q => absurd rfl q))))
  exact lz_624 h hj h0 hw hK (by omega)
theorem lz_593 (h : Inv n s) (hj : Jn s) (h0 : 0 < s.ni) (hw : RepC w s) (hK : ∀ w', K (.inl (some (.int 1))) w') (hc : c ≤ 589000 + 896) : mm_E kL_law 593 [.ref 81, .ref 0, .int (nI s.ni), .int x3, .long (suV s), .retAddr 0, .int (nI s.nl), .int (nI s.np), l8, l9, .retAddr 0, l11] [] w c K := by
  have hni := h.ni_; have hnl := h.nl_; have hnp := h.np_; have hne := h.ne_; have htd := h.td_; have hnn := h.n_
  have ie : ∀ i, i < s.ni → nI s.ni ≠ nI i := ne_ge rfl (Nat.le_refl _) (by omega)
  have le : ∀ i, i < s.nl → nI s.nl ≠ nI i := ne_ge rfl (Nat.le_refl _) (by omega)
  have pe : ∀ i, i < s.np → nI s.np ≠ nI i := ne_ge rfl (Nat.le_refl _) (by omega)
  have ee : ∀ i, i < s.ne → nI s.ne ≠ nI i := ne_ge rfl (Nat.le_refl _) (by omega)
  refine bL_law_593 (fun q => ?_) (fun _ => lz_611 h hj h0 hw hK (by omega))
  have h6 : s.ni = 6 := (nI_eq (b := 6) (by omega) (by decide)).mp q
  refine bL_law_599 (by show c + 1 ≤ 600104; omega) ((wX_adds (t_adds2 (c := 65) (Or.inl rfl) h6) (y := -1002) (by decide)) w hw _ (fun w hw _ => mm_Kr (c + 1) rfl (bL_law_605 (fun _ => lz_611 h hj h0 hw hK (by omega)) (fun q => absurd rfl q))))
theorem lz_581 (h : Inv n s) (hj : Jn s) (h0 : 0 < s.ni) (hw : RepC w s) (hK : ∀ w', K (.inl (some (.int 1))) w') (hc : c ≤ 589000 + 895) : mm_E kL_law 581 [.ref 81, .ref 0, .int (nI s.ni), .int x3, .long (suV s), .retAddr 0, .int (nI s.nl), .int (nI s.np), l8, l9, .retAddr 0, l11] [] w c K := by
  have hni := h.ni_; have hnl := h.nl_; have hnp := h.np_; have hne := h.ne_; have htd := h.td_; have hnn := h.n_
  have ie : ∀ i, i < s.ni → nI s.ni ≠ nI i := ne_ge rfl (Nat.le_refl _) (by omega)
  have le : ∀ i, i < s.nl → nI s.nl ≠ nI i := ne_ge rfl (Nat.le_refl _) (by omega)
  have pe : ∀ i, i < s.np → nI s.np ≠ nI i := ne_ge rfl (Nat.le_refl _) (by omega)
  have ee : ∀ i, i < s.ne → nI s.ne ≠ nI i := ne_ge rfl (Nat.le_refl _) (by omega)
  refine bL_law_581 (by show c + 1 ≤ 600104; omega) ((wX_adds (t_adds1 (by decide) (by decide) (by decide)) (y := -1001) (by decide)) w hw _ (fun w hw _ => mm_Kr (c + 1) rfl (bL_law_587 (fun _ => ?_) (fun q => absurd rfl q))))
  exact lz_593 h hj h0 hw hK (by omega)
theorem lz_567 {l7 : Value} (h : Inv n s) (hj : Jn s) (h0 : 0 < s.ni) (hw : RepC w s) (hK : ∀ w', K (.inl (some (.int 1))) w') (hc : c ≤ 589000 + 894) : mm_E kL_law 567 [.ref 81, .ref 0, .int (nI s.ni), .int x3, .long (suV s), .retAddr 0, .int (nI s.nl), l7, l8, l9, .retAddr 0, l11] [.int (nI s.np)] w c K := by
  have hni := h.ni_; have hnl := h.nl_; have hnp := h.np_; have hne := h.ne_; have htd := h.td_; have hnn := h.n_
  have ie : ∀ i, i < s.ni → nI s.ni ≠ nI i := ne_ge rfl (Nat.le_refl _) (by omega)
  have le : ∀ i, i < s.nl → nI s.nl ≠ nI i := ne_ge rfl (Nat.le_refl _) (by omega)
  have pe : ∀ i, i < s.np → nI s.np ≠ nI i := ne_ge rfl (Nat.le_refl _) (by omega)
  have ee : ∀ i, i < s.ne → nI s.ne ≠ nI i := ne_ge rfl (Nat.le_refl _) (by omega)
  refine bL_law_567 (by show c + 1 ≤ 600104; omega) ((wX_adds (t_adds1 (by decide) (by decide) (by decide)) (y := -1001) (by decide)) w hw _ (fun w hw _ => mm_Kr (c + 1) rfl (bL_law_575 (fun _ => ?_) (fun q => absurd rfl q))))
  exact lz_581 h hj h0 hw hK (by omega)
/-- the law's end: all is sound, and the last calls change nothing -/
theorem law_last {x4 : Int32} {l5 l6 l7 : Value} (h : Inv n s) (hj : Jn s) (h0 : 0 < s.ni) (hw : RepC w s) (hK : ∀ w', K (.inl (some (.int 1))) w') (hc : c ≤ 554000) : mm_E kL_law 540 [.ref 81, .ref 0, .int (nI s.ni), .int x3, .int x4, l5, l6, l7, l8, l9, .retAddr 0, l11] [] w c K := by
  refine bL_law_540 (by show c + 32000 ≤ 600104; omega) (v_sound h hj w hw _ (fun w hw _ => mm_Kr (c + 32000) rfl (bL_law_545 (fun q => absurd q (by decide)) (fun _ => ?_))))
  refine bL_law_550 (by show c + 32000 + 3000 ≤ 600104; omega) (v_sum h hj w hw _ (fun w hw _ => mm_Kr (c + 35000) rfl ?_))
  refine bL_law_555 (by show c + 35000 + 0 ≤ 600104; omega) (q_lots w hw _ (fun w hw _ => mm_Kr (c + 35000) rfl ?_))
  refine bL_law_561 (by show c + 35000 + 20 ≤ 600104; omega) (v_promises h hj w hw _ (fun w hw _ => mm_Kr (c + 35020) rfl ?_))
  exact lz_567 h hj h0 hw hK (by omega)
end LA
