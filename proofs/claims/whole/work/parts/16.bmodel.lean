-- block rules, by program (wip/whole/blocks.py)
theorem bX6_thrown_0  {v : mmM} {c : Nat} {K : mmO → mmM → Prop} (g : K (.inl (some (.int (v 81 26)))) v) : mm_E kX6_thrown 0 [.ref 81] [] v c K := by
  refine e_run 2 (pc1 := 4) (L1 := [.ref 81]) (S1 := [.int (v 81 26)]) (v1 := v) rfl ?_
  exact e_iret (ty := .int) rfl rfl rfl g
theorem bX6_raises_0 {x1 : Int32} {v : mmM} {c : Nat} {K : mmO → mmM → Prop} (g : K (.inl (some (.int (0 : Int32)))) (mm_up v 81 26 x1)) : mm_E kX6_raises 0 [.ref 81, .int x1] [] v c K := by
  refine e_run 4 (pc1 := 6) (L1 := [.ref 81, .int x1]) (S1 := [.int (0 : Int32)]) (v1 := mm_up v 81 26 x1) rfl ?_
  exact e_iret (ty := .int) rfl rfl rfl g
theorem bX6_in_0 {x0 : Int32} {x1 : Int32} {x2 : Int32} {v : mmM} {c : Nat} {K : mmO → mmM → Prop} (g1 : x0 < x1 → mm_E kX6_in 14 [.int x0, .int x1, .int x2] [] v c K) (g2 : ¬ x0 < x1 → mm_E kX6_in 5 [.int x0, .int x1, .int x2] [] v c K) : mm_E kX6_in 0 [.int x0, .int x1, .int x2] [] v c K := by
  refine e_run 2 (pc1 := 2) (L1 := [.int x0, .int x1, .int x2]) (S1 := [.int x1, .int x0]) (v1 := v) rfl ?_
  exact e_if (p := x0 < x1) rfl g1 g2
theorem bX6_in_5 {x0 : Int32} {x1 : Int32} {x2 : Int32} {v : mmM} {c : Nat} {K : mmO → mmM → Prop} (g1 : x2 < x0 → mm_E kX6_in 14 [.int x0, .int x1, .int x2] [] v c K) (g2 : ¬ x2 < x0 → mm_E kX6_in 10 [.int x0, .int x1, .int x2] [] v c K) : mm_E kX6_in 5 [.int x0, .int x1, .int x2] [] v c K := by
  refine e_run 2 (pc1 := 7) (L1 := [.int x0, .int x1, .int x2]) (S1 := [.int x2, .int x0]) (v1 := v) rfl ?_
  exact e_if (p := x2 < x0) rfl g1 g2
theorem bX6_in_10 {x0 : Int32} {x1 : Int32} {x2 : Int32} {v : mmM} {c : Nat} {K : mmO → mmM → Prop} (g : mm_E kX6_in 15 [.int x0, .int x1, .int x2] [.int (1 : Int32)] v c K) : mm_E kX6_in 10 [.int x0, .int x1, .int x2] [] v c K := by
  refine e_run 2 (pc1 := 15) (L1 := [.int x0, .int x1, .int x2]) (S1 := [.int (1 : Int32)]) (v1 := v) rfl ?_
  exact g
theorem bX6_in_14 {x0 : Int32} {x1 : Int32} {x2 : Int32} {v : mmM} {c : Nat} {K : mmO → mmM → Prop} (g : mm_E kX6_in 15 [.int x0, .int x1, .int x2] [.int (0 : Int32)] v c K) : mm_E kX6_in 14 [.int x0, .int x1, .int x2] [] v c K := by
  refine e_run 1 (pc1 := 15) (L1 := [.int x0, .int x1, .int x2]) (S1 := [.int (0 : Int32)]) (v1 := v) rfl ?_
  exact g
theorem bX6_in_15 {x0 : Int32} {x1 : Int32} {x2 : Int32} {y0 : Int32} {v : mmM} {c : Nat} {K : mmO → mmM → Prop} (h1 : narrow .boolean (.int y0) = .int y0) (g : K (.inl (some (.int y0))) v) : mm_E kX6_in 15 [.int x0, .int x1, .int x2] [.int y0] v c K := by
  exact e_iret (ty := .boolean) rfl rfl h1 g
theorem bX6_isItem_0 {x1 : Int32} {v : mmM} {c : Nat} {K : mmO → mmM → Prop} (hc : c + mm_mc kX6_in ≤ mm_mc kX6_isItem) (g : mm_M kX6_in [.int x1, .int (0 : Int32), .int ((v 81 2) - (1 : Int32))] v (mm_Kc kX6_isItem 11 [.ref 81, .int x1] [] (c + mm_mc kX6_in) K)) : mm_E kX6_isItem 0 [.ref 81, .int x1] [] v c K := by
  refine e_run 6 (pc1 := 8) (L1 := [.ref 81, .int x1]) (S1 := [.int ((v 81 2) - (1 : Int32)), .int (0 : Int32), .int x1]) (v1 := v) rfl ?_
  exact e_cl (j := kX6_in) rfl hc g
theorem bX6_isItem_11 {x1 : Int32} {y0 : Int32} {v : mmM} {c : Nat} {K : mmO → mmM → Prop} (h1 : narrow .boolean (.int y0) = .int y0) (g : K (.inl (some (.int y0))) v) : mm_E kX6_isItem 11 [.ref 81, .int x1] [.int y0] v c K := by
  exact e_iret (ty := .boolean) rfl rfl h1 g
theorem bX6_isLot_0 {x1 : Int32} {v : mmM} {c : Nat} {K : mmO → mmM → Prop} (hc : c + mm_mc kX6_in ≤ mm_mc kX6_isLot) (g : mm_M kX6_in [.int x1, .int (0 : Int32), .int ((v 81 8) - (1 : Int32))] v (mm_Kc kX6_isLot 11 [.ref 81, .int x1] [] (c + mm_mc kX6_in) K)) : mm_E kX6_isLot 0 [.ref 81, .int x1] [] v c K := by
  refine e_run 6 (pc1 := 8) (L1 := [.ref 81, .int x1]) (S1 := [.int ((v 81 8) - (1 : Int32)), .int (0 : Int32), .int x1]) (v1 := v) rfl ?_
  exact e_cl (j := kX6_in) rfl hc g
theorem bX6_isLot_11 {x1 : Int32} {y0 : Int32} {v : mmM} {c : Nat} {K : mmO → mmM → Prop} (h1 : narrow .boolean (.int y0) = .int y0) (g : K (.inl (some (.int y0))) v) : mm_E kX6_isLot 11 [.ref 81, .int x1] [.int y0] v c K := by
  exact e_iret (ty := .boolean) rfl rfl h1 g
theorem bX6_isBin_0 {x0 : Int32} {v : mmM} {c : Nat} {K : mmO → mmM → Prop} (hc : c + mm_mc kX6_in ≤ mm_mc kX6_isBin) (g : mm_M kX6_in [.int x0, .int (0 : Int32), .int (39 : Int32)] v (mm_Kc kX6_isBin 7 [.int x0] [] (c + mm_mc kX6_in) K)) : mm_E kX6_isBin 0 [.int x0] [] v c K := by
  refine e_run 3 (pc1 := 4) (L1 := [.int x0]) (S1 := [.int (39 : Int32), .int (0 : Int32), .int x0]) (v1 := v) rfl ?_
  exact e_cl (j := kX6_in) rfl hc g
theorem bX6_isBin_7 {x0 : Int32} {y0 : Int32} {v : mmM} {c : Nat} {K : mmO → mmM → Prop} (h1 : narrow .boolean (.int y0) = .int y0) (g : K (.inl (some (.int y0))) v) : mm_E kX6_isBin 7 [.int x0] [.int y0] v c K := by
  exact e_iret (ty := .boolean) rfl rfl h1 g
theorem bX6_isPromise_0 {x1 : Int32} {v : mmM} {c : Nat} {K : mmO → mmM → Prop} (hc : c + mm_mc kX6_in ≤ mm_mc kX6_isPromise) (g : mm_M kX6_in [.int x1, .int (0 : Int32), .int ((v 81 17) - (1 : Int32))] v (mm_Kc kX6_isPromise 11 [.ref 81, .int x1] [] (c + mm_mc kX6_in) K)) : mm_E kX6_isPromise 0 [.ref 81, .int x1] [] v c K := by
  refine e_run 6 (pc1 := 8) (L1 := [.ref 81, .int x1]) (S1 := [.int ((v 81 17) - (1 : Int32)), .int (0 : Int32), .int x1]) (v1 := v) rfl ?_
  exact e_cl (j := kX6_in) rfl hc g
theorem bX6_isPromise_11 {x1 : Int32} {y0 : Int32} {v : mmM} {c : Nat} {K : mmO → mmM → Prop} (h1 : narrow .boolean (.int y0) = .int y0) (g : K (.inl (some (.int y0))) v) : mm_E kX6_isPromise 11 [.ref 81, .int x1] [.int y0] v c K := by
  exact e_iret (ty := .boolean) rfl rfl h1 g
theorem bX6_turned_0 {x0 : Int32} {v : mmM} {c : Nat} {K : mmO → mmM → Prop} (g1 : ((x0 / (10 : Int32)) - (x0 / (10 : Int32)) / (2 : Int32) * (2 : Int32)) = 0 → mm_E kX6_turned 9 [.int x0] [] v c K) (g2 : ¬ ((x0 / (10 : Int32)) - (x0 / (10 : Int32)) / (2 : Int32) * (2 : Int32)) = 0 → mm_E kX6_turned 13 [.int x0] [] v c K) : mm_E kX6_turned 0 [.int x0] [] v c K := by
  refine e_run 2 (pc1 := 3) (L1 := [.int x0]) (S1 := [.int (10 : Int32), .int x0]) (v1 := v) rfl ?_
  refine e_idiv rfl (by decide) ?_
  refine e_run 1 (pc1 := 5) (L1 := [.int x0]) (S1 := [.int (2 : Int32), .int (x0 / (10 : Int32))]) (v1 := v) rfl ?_
  refine e_irem rfl (by decide) ?_
  exact e_if (p := ((x0 / (10 : Int32)) - (x0 / (10 : Int32)) / (2 : Int32) * (2 : Int32)) = 0) rfl g1 g2
theorem bX6_turned_9 {x0 : Int32} {v : mmM} {c : Nat} {K : mmO → mmM → Prop} (g : mm_E kX6_turned 28 [.int x0] [.int x0] v c K) : mm_E kX6_turned 9 [.int x0] [] v c K := by
  refine e_run 2 (pc1 := 28) (L1 := [.int x0]) (S1 := [.int x0]) (v1 := v) rfl ?_
  exact g
theorem bX6_turned_13 {x0 : Int32} {v : mmM} {c : Nat} {K : mmO → mmM → Prop} (g : mm_E kX6_turned 28 [.int x0] [.int ((((x0 / (10 : Int32)) * (10 : Int32)) + (9 : Int32)) - (x0 - x0 / (10 : Int32) * (10 : Int32)))] v c K) : mm_E kX6_turned 13 [.int x0] [] v c K := by
  refine e_run 2 (pc1 := 16) (L1 := [.int x0]) (S1 := [.int (10 : Int32), .int x0]) (v1 := v) rfl ?_
  refine e_idiv rfl (by decide) ?_
  refine e_run 6 (pc1 := 26) (L1 := [.int x0]) (S1 := [.int (10 : Int32), .int x0, .int (((x0 / (10 : Int32)) * (10 : Int32)) + (9 : Int32))]) (v1 := v) rfl ?_
  refine e_irem rfl (by decide) ?_
  refine e_run 1 (pc1 := 28) (L1 := [.int x0]) (S1 := [.int ((((x0 / (10 : Int32)) * (10 : Int32)) + (9 : Int32)) - (x0 - x0 / (10 : Int32) * (10 : Int32)))]) (v1 := v) rfl ?_
  exact g
theorem bX6_turned_28 {x0 : Int32} {y0 : Int32} {v : mmM} {c : Nat} {K : mmO → mmM → Prop} (g : K (.inl (some (.int y0))) v) : mm_E kX6_turned 28 [.int x0] [.int y0] v c K := by
  exact e_iret (ty := .int) rfl rfl rfl g
theorem bX6_load0_0 {x1 : Int32} {l2 : Value} {l3 : Value} {v : mmM} {c : Nat} {K : mmO → mmM → Prop} (g : mm_E kX6_load0 4 [.ref 81, .int x1, .int (0 : Int32), .int (0 : Int32)] [] v c K) : mm_E kX6_load0 0 [.ref 81, .int x1, l2, l3] [] v c K := by
  refine e_run 4 (pc1 := 4) (L1 := [.ref 81, .int x1, .int (0 : Int32), .int (0 : Int32)]) (S1 := []) (v1 := v) rfl ?_
  exact g
theorem bX6_load0_4 {x1 : Int32} {x2 : Int32} {x3 : Int32} {v : mmM} {c : Nat} {K : mmO → mmM → Prop} (g1 : (v 81 8) ≤ x3 → mm_E kX6_load0 29 [.ref 81, .int x1, .int x2, .int x3] [] v c K) (g2 : ¬ (v 81 8) ≤ x3 → mm_E kX6_load0 12 [.ref 81, .int x1, .int x2, .int x3] [] v c K) : mm_E kX6_load0 4 [.ref 81, .int x1, .int x2, .int x3] [] v c K := by
  refine e_run 3 (pc1 := 9) (L1 := [.ref 81, .int x1, .int x2, .int x3]) (S1 := [.int (v 81 8), .int x3]) (v1 := v) rfl ?_
  exact e_if (p := (v 81 8) ≤ x3) rfl g1 g2
theorem bX6_load0_12 {x1 : Int32} {x2 : Int32} {x3 : Int32} {v : mmM} {c : Nat} {K : mmO → mmM → Prop} (h1 : mm_in x3 24 = true) (h2 : mm_in x1 40 = true) (g : mm_E kX6_load0 4 [.ref 81, .int x1, .int (x2 + (v (93 + x3.toNatClampNeg) x1.toNatClampNeg)), .int (x3 + (1 : Int32))] [] v c K) : mm_E kX6_load0 12 [.ref 81, .int x1, .int x2, .int x3] [] v c K := by
  refine e_run 4 (pc1 := 18) (L1 := [.ref 81, .int x1, .int x2, .int x3]) (S1 := [.int x3, .ref 92, .int x2]) (v1 := v) rfl ?_
  refine e_aald rfl rfl (by decide) h1 ?_
  refine e_run 1 (pc1 := 20) (L1 := [.ref 81, .int x1, .int x2, .int x3]) (S1 := [.int x1, .ref (93 + x3.toNatClampNeg), .int x2]) (v1 := v) rfl ?_
  refine e_iald rfl (mm_rows (P := fun x => mm_sh (93 + x) = (0, 40, 0, [])) (by decide +kernel) (mm_in_lt h1)) (by have := (mm_in_lt h1); show _ < 244; omega) h2 ?_
  refine e_run 4 (pc1 := 4) (L1 := [.ref 81, .int x1, .int (x2 + (v (93 + x3.toNatClampNeg) x1.toNatClampNeg)), .int (x3 + (1 : Int32))]) (S1 := []) (v1 := v) rfl ?_
  exact g
theorem bX6_load0_29 {x1 : Int32} {x2 : Int32} {x3 : Int32} {v : mmM} {c : Nat} {K : mmO → mmM → Prop} (g : K (.inl (some (.int x2))) v) : mm_E kX6_load0 29 [.ref 81, .int x1, .int x2, .int x3] [] v c K := by
  refine e_run 1 (pc1 := 30) (L1 := [.ref 81, .int x1, .int x2, .int x3]) (S1 := [.int x2]) (v1 := v) rfl ?_
  exact e_iret (ty := .int) rfl rfl rfl g
theorem bX6_writes_0 {x1 : Int32} {x2 : Int32} {x3 : Int32} {x4 : Int32} {x5 : Int32} {v : mmM} {c : Nat} {K : mmO → mmM → Prop} (h1 : mm_in (v 81 24) 150 = true) (h2 : vp_nar .char x1 = x1) (h3 : mm_in (v 81 24) 150 = true) (h4 : mm_in (v 81 24) 150 = true) (h5 : mm_in (v 81 24) 150 = true) (h6 : mm_in (v 81 24) 150 = true) (h7 : mm_in (v 81 24) 150 = true) (g : K (.inl none) (mm_up (mm_up (mm_up (mm_up (mm_up (mm_up (mm_up v 207 (v 81 24).toNatClampNeg x1) 208 (v 81 24).toNatClampNeg x2) 209 (v 81 24).toNatClampNeg x3) 210 (v 81 24).toNatClampNeg x4) 211 (v 81 24).toNatClampNeg x5) 212 (v 81 24).toNatClampNeg (v 81 25)) 81 24 ((v 81 24) + (1 : Int32)))) : mm_E kX6_writes 0 [.ref 81, .int x1, .int x2, .int x3, .int x4, .int x5] [] v c K := by
  refine e_run 5 (pc1 := 9) (L1 := [.ref 81, .int x1, .int x2, .int x3, .int x4, .int x5]) (S1 := [.int x1, .int (v 81 24), .ref 207]) (v1 := v) rfl ?_
  refine e_cast rfl rfl (by decide) h1 h2 ?_
  refine e_run 5 (pc1 := 19) (L1 := [.ref 81, .int x1, .int x2, .int x3, .int x4, .int x5]) (S1 := [.int x2, .int (v 81 24), .ref 208]) (v1 := mm_up v 207 (v 81 24).toNatClampNeg x1) rfl ?_
  refine e_iast rfl rfl (by decide) h3 ?_
  refine e_run 5 (pc1 := 29) (L1 := [.ref 81, .int x1, .int x2, .int x3, .int x4, .int x5]) (S1 := [.int x3, .int (v 81 24), .ref 209]) (v1 := mm_up (mm_up v 207 (v 81 24).toNatClampNeg x1) 208 (v 81 24).toNatClampNeg x2) rfl ?_
  refine e_iast rfl rfl (by decide) h4 ?_
  refine e_run 5 (pc1 := 40) (L1 := [.ref 81, .int x1, .int x2, .int x3, .int x4, .int x5]) (S1 := [.int x4, .int (v 81 24), .ref 210]) (v1 := mm_up (mm_up (mm_up v 207 (v 81 24).toNatClampNeg x1) 208 (v 81 24).toNatClampNeg x2) 209 (v 81 24).toNatClampNeg x3) rfl ?_
  refine e_iast rfl rfl (by decide) h5 ?_
  refine e_run 5 (pc1 := 51) (L1 := [.ref 81, .int x1, .int x2, .int x3, .int x4, .int x5]) (S1 := [.int x5, .int (v 81 24), .ref 211]) (v1 := mm_up (mm_up (mm_up (mm_up v 207 (v 81 24).toNatClampNeg x1) 208 (v 81 24).toNatClampNeg x2) 209 (v 81 24).toNatClampNeg x3) 210 (v 81 24).toNatClampNeg x4) rfl ?_
  refine e_iast rfl rfl (by decide) h6 ?_
  refine e_run 6 (pc1 := 64) (L1 := [.ref 81, .int x1, .int x2, .int x3, .int x4, .int x5]) (S1 := [.int (v 81 25), .int (v 81 24), .ref 212]) (v1 := mm_up (mm_up (mm_up (mm_up (mm_up v 207 (v 81 24).toNatClampNeg x1) 208 (v 81 24).toNatClampNeg x2) 209 (v 81 24).toNatClampNeg x3) 210 (v 81 24).toNatClampNeg x4) 211 (v 81 24).toNatClampNeg x5) rfl ?_
  refine e_iast rfl rfl (by decide) h7 ?_
  refine e_run 6 (pc1 := 75) (L1 := [.ref 81, .int x1, .int x2, .int x3, .int x4, .int x5]) (S1 := []) (v1 := mm_up (mm_up (mm_up (mm_up (mm_up (mm_up (mm_up v 207 (v 81 24).toNatClampNeg x1) 208 (v 81 24).toNatClampNeg x2) 209 (v 81 24).toNatClampNeg x3) 210 (v 81 24).toNatClampNeg x4) 211 (v 81 24).toNatClampNeg x5) 212 (v 81 24).toNatClampNeg (v 81 25)) 81 24 ((v 81 24) + (1 : Int32))) rfl ?_
  exact e_rt rfl g
theorem bX6_puts_0 {x1 : Int32} {x2 : Int32} {x3 : Int32} {v : mmM} {c : Nat} {K : mmO → mmM → Prop} (h1 : mm_in x1 24 = true) (h2 : mm_in x2 40 = true) (h3 : mm_in x2 40 = true) (h4 : mm_in x1 24 = true) (h5 : mm_in x1 24 = true) (g : K (.inl none) (mm_up (mm_up v (93 + x1.toNatClampNeg) x2.toNatClampNeg ((v (93 + x1.toNatClampNeg) x2.toNatClampNeg) + x3)) 117 x1.toNatClampNeg (((mm_up v (93 + x1.toNatClampNeg) x2.toNatClampNeg ((v (93 + x1.toNatClampNeg) x2.toNatClampNeg) + x3)) 117 x1.toNatClampNeg) + x3))) : mm_E kX6_puts 0 [.ref 81, .int x1, .int x2, .int x3] [] v c K := by
  refine e_run 3 (pc1 := 5) (L1 := [.ref 81, .int x1, .int x2, .int x3]) (S1 := [.int x1, .ref 92]) (v1 := v) rfl ?_
  refine e_aald rfl rfl (by decide) h1 ?_
  refine e_run 2 (pc1 := 8) (L1 := [.ref 81, .int x1, .int x2, .int x3]) (S1 := [.int x2, .ref (93 + x1.toNatClampNeg), .int x2, .ref (93 + x1.toNatClampNeg)]) (v1 := v) rfl ?_
  refine e_iald rfl (mm_rows (P := fun x => mm_sh (93 + x) = (0, 40, 0, [])) (by decide +kernel) (mm_in_lt h1)) (by have := (mm_in_lt h1); show _ < 244; omega) h2 ?_
  refine e_run 2 (pc1 := 11) (L1 := [.ref 81, .int x1, .int x2, .int x3]) (S1 := [.int ((v (93 + x1.toNatClampNeg) x2.toNatClampNeg) + x3), .int x2, .ref (93 + x1.toNatClampNeg)]) (v1 := v) rfl ?_
  refine e_iast rfl (mm_rows (P := fun x => mm_sh (93 + x) = (0, 40, 0, [])) (by decide +kernel) (mm_in_lt h1)) (by have := (mm_in_lt h1); show _ < 244; omega) h3 ?_
  refine e_run 4 (pc1 := 18) (L1 := [.ref 81, .int x1, .int x2, .int x3]) (S1 := [.int x1, .ref 117, .int x1, .ref 117]) (v1 := mm_up v (93 + x1.toNatClampNeg) x2.toNatClampNeg ((v (93 + x1.toNatClampNeg) x2.toNatClampNeg) + x3)) rfl ?_
  refine e_iald rfl rfl (by decide) h4 ?_
  refine e_run 2 (pc1 := 21) (L1 := [.ref 81, .int x1, .int x2, .int x3]) (S1 := [.int (((mm_up v (93 + x1.toNatClampNeg) x2.toNatClampNeg ((v (93 + x1.toNatClampNeg) x2.toNatClampNeg) + x3)) 117 x1.toNatClampNeg) + x3), .int x1, .ref 117]) (v1 := mm_up v (93 + x1.toNatClampNeg) x2.toNatClampNeg ((v (93 + x1.toNatClampNeg) x2.toNatClampNeg) + x3)) rfl ?_
  refine e_iast rfl rfl (by decide) h5 ?_
  exact e_rt rfl g
theorem bX6_addItem_0 {x1 : Int32} {v : mmM} {c : Nat} {K : mmO → mmM → Prop} (g1 : x1 = (65 : Int32) → mm_E kX6_addItem 23 [.ref 81, .int x1] [.ref 81] v c K) (g2 : ¬ x1 = (65 : Int32) → mm_E kX6_addItem 7 [.ref 81, .int x1] [.ref 81] v c K) : mm_E kX6_addItem 0 [.ref 81, .int x1] [] v c K := by
  refine e_run 3 (pc1 := 4) (L1 := [.ref 81, .int x1]) (S1 := [.int (65 : Int32), .int x1, .ref 81]) (v1 := v) rfl ?_
  exact e_if (p := x1 = (65 : Int32)) rfl g1 g2
theorem bX6_addItem_7 {x1 : Int32} {v : mmM} {c : Nat} {K : mmO → mmM → Prop} (g1 : x1 = (66 : Int32) → mm_E kX6_addItem 23 [.ref 81, .int x1] [.ref 81] v c K) (g2 : ¬ x1 = (66 : Int32) → mm_E kX6_addItem 13 [.ref 81, .int x1] [.ref 81] v c K) : mm_E kX6_addItem 7 [.ref 81, .int x1] [.ref 81] v c K := by
  refine e_run 2 (pc1 := 10) (L1 := [.ref 81, .int x1]) (S1 := [.int (66 : Int32), .int x1, .ref 81]) (v1 := v) rfl ?_
  exact e_if (p := x1 = (66 : Int32)) rfl g1 g2
theorem bX6_addItem_13 {x1 : Int32} {v : mmM} {c : Nat} {K : mmO → mmM → Prop} (g1 : x1 = (67 : Int32) → mm_E kX6_addItem 23 [.ref 81, .int x1] [.ref 81] v c K) (g2 : ¬ x1 = (67 : Int32) → mm_E kX6_addItem 19 [.ref 81, .int x1] [.ref 81] v c K) : mm_E kX6_addItem 13 [.ref 81, .int x1] [.ref 81] v c K := by
  refine e_run 2 (pc1 := 16) (L1 := [.ref 81, .int x1]) (S1 := [.int (67 : Int32), .int x1, .ref 81]) (v1 := v) rfl ?_
  exact e_if (p := x1 = (67 : Int32)) rfl g1 g2
theorem bX6_addItem_19 {x1 : Int32} {v : mmM} {c : Nat} {K : mmO → mmM → Prop} (g : mm_E kX6_addItem 37 [.ref 81, .int x1] [.int (1 : Int32), .ref 81] v c K) : mm_E kX6_addItem 19 [.ref 81, .int x1] [.ref 81] v c K := by
  refine e_run 2 (pc1 := 37) (L1 := [.ref 81, .int x1]) (S1 := [.int (1 : Int32), .ref 81]) (v1 := v) rfl ?_
  exact g
theorem bX6_addItem_23 {x1 : Int32} {v : mmM} {c : Nat} {K : mmO → mmM → Prop} (g1 : (v 81 2) = (6 : Int32) → mm_E kX6_addItem 32 [.ref 81, .int x1] [.ref 81] v c K) (g2 : ¬ (v 81 2) = (6 : Int32) → mm_E kX6_addItem 36 [.ref 81, .int x1] [.ref 81] v c K) : mm_E kX6_addItem 23 [.ref 81, .int x1] [.ref 81] v c K := by
  refine e_run 3 (pc1 := 29) (L1 := [.ref 81, .int x1]) (S1 := [.int (6 : Int32), .int (v 81 2), .ref 81]) (v1 := v) rfl ?_
  exact e_if (p := (v 81 2) = (6 : Int32)) rfl g1 g2
theorem bX6_addItem_32 {x1 : Int32} {v : mmM} {c : Nat} {K : mmO → mmM → Prop} (g : mm_E kX6_addItem 37 [.ref 81, .int x1] [.int (2 : Int32), .ref 81] v c K) : mm_E kX6_addItem 32 [.ref 81, .int x1] [.ref 81] v c K := by
  refine e_run 2 (pc1 := 37) (L1 := [.ref 81, .int x1]) (S1 := [.int (2 : Int32), .ref 81]) (v1 := v) rfl ?_
  exact g
theorem bX6_addItem_36 {x1 : Int32} {v : mmM} {c : Nat} {K : mmO → mmM → Prop} (g : mm_E kX6_addItem 37 [.ref 81, .int x1] [.int (0 : Int32), .ref 81] v c K) : mm_E kX6_addItem 36 [.ref 81, .int x1] [.ref 81] v c K := by
  refine e_run 1 (pc1 := 37) (L1 := [.ref 81, .int x1]) (S1 := [.int (0 : Int32), .ref 81]) (v1 := v) rfl ?_
  exact g
theorem bX6_addItem_37 {x1 : Int32} {y1 : Int32} {v : mmM} {c : Nat} {K : mmO → mmM → Prop} (g1 : y1 ≤ 0 → mm_E kX6_addItem 49 [.ref 81, .int x1] [] (mm_up v 81 26 y1) c K) (g2 : ¬ y1 ≤ 0 → mm_E kX6_addItem 47 [.ref 81, .int x1] [] (mm_up v 81 26 y1) c K) : mm_E kX6_addItem 37 [.ref 81, .int x1] [.int y1, .ref 81] v c K := by
  refine e_run 3 (pc1 := 44) (L1 := [.ref 81, .int x1]) (S1 := [.int y1]) (v1 := mm_up v 81 26 y1) rfl ?_
  exact e_if (p := y1 ≤ 0) rfl g1 g2
theorem bX6_addItem_47 {x1 : Int32} {v : mmM} {c : Nat} {K : mmO → mmM → Prop} (g : K (.inl (some (.int (0 : Int32)))) v) : mm_E kX6_addItem 47 [.ref 81, .int x1] [] v c K := by
  refine e_run 1 (pc1 := 48) (L1 := [.ref 81, .int x1]) (S1 := [.int (0 : Int32)]) (v1 := v) rfl ?_
  exact e_iret (ty := .int) rfl rfl rfl g
theorem bX6_addItem_49 {x1 : Int32} {v : mmM} {c : Nat} {K : mmO → mmM → Prop} (h1 : mm_in (v 81 2) 6 = true) (h2 : vp_nar .char x1 = x1) (g : K (.inl (some (.int (((v 81 2) + (1 : Int32)) - (1 : Int32))))) (mm_up (mm_up v 82 (v 81 2).toNatClampNeg x1) 81 2 ((v 81 2) + (1 : Int32)))) : mm_E kX6_addItem 49 [.ref 81, .int x1] [] v c K := by
  refine e_run 5 (pc1 := 58) (L1 := [.ref 81, .int x1]) (S1 := [.int x1, .int (v 81 2), .ref 82]) (v1 := v) rfl ?_
  refine e_cast rfl rfl (by decide) h1 h2 ?_
  refine e_run 10 (pc1 := 75) (L1 := [.ref 81, .int x1]) (S1 := [.int (((v 81 2) + (1 : Int32)) - (1 : Int32))]) (v1 := mm_up (mm_up v 82 (v 81 2).toNatClampNeg x1) 81 2 ((v 81 2) + (1 : Int32))) rfl ?_
  exact e_iret (ty := .int) rfl rfl rfl g
theorem bX6_addSubstitute_0 {x1 : Int32} {x2 : Int32} {x3 : Int32} {l4 : Value} {l5 : Value} {v : mmM} {c : Nat} {K : mmO → mmM → Prop} (hc : c + mm_mc kX6_isItem ≤ mm_mc kX6_addSubstitute) (g : mm_M kX6_isItem [.ref 81, .int x1] v (mm_Kc kX6_addSubstitute 6 [.ref 81, .int x1, .int x2, .int x3, l4, l5] [.ref 81] (c + mm_mc kX6_isItem) K)) : mm_E kX6_addSubstitute 0 [.ref 81, .int x1, .int x2, .int x3, l4, l5] [] v c K := by
  refine e_run 3 (pc1 := 3) (L1 := [.ref 81, .int x1, .int x2, .int x3, l4, l5]) (S1 := [.int x1, .ref 81, .ref 81]) (v1 := v) rfl ?_
  exact e_cl (j := kX6_isItem) rfl hc g
theorem bX6_addSubstitute_6 {x1 : Int32} {x2 : Int32} {x3 : Int32} {l4 : Value} {l5 : Value} {y1 : Int32} {v : mmM} {c : Nat} {K : mmO → mmM → Prop} (g1 : y1 = 0 → mm_E kX6_addSubstitute 17 [.ref 81, .int x1, .int x2, .int x3, l4, l5] [.ref 81] v c K) (g2 : ¬ y1 = 0 → mm_E kX6_addSubstitute 9 [.ref 81, .int x1, .int x2, .int x3, l4, l5] [.ref 81] v c K) : mm_E kX6_addSubstitute 6 [.ref 81, .int x1, .int x2, .int x3, l4, l5] [.int y1, .ref 81] v c K := by
  exact e_if (p := y1 = 0) rfl g1 g2
theorem bX6_addSubstitute_9 {x1 : Int32} {x2 : Int32} {x3 : Int32} {l4 : Value} {l5 : Value} {v : mmM} {c : Nat} {K : mmO → mmM → Prop} (hc : c + mm_mc kX6_isItem ≤ mm_mc kX6_addSubstitute) (g : mm_M kX6_isItem [.ref 81, .int x2] v (mm_Kc kX6_addSubstitute 14 [.ref 81, .int x1, .int x2, .int x3, l4, l5] [.ref 81] (c + mm_mc kX6_isItem) K)) : mm_E kX6_addSubstitute 9 [.ref 81, .int x1, .int x2, .int x3, l4, l5] [.ref 81] v c K := by
  refine e_run 2 (pc1 := 11) (L1 := [.ref 81, .int x1, .int x2, .int x3, l4, l5]) (S1 := [.int x2, .ref 81, .ref 81]) (v1 := v) rfl ?_
  exact e_cl (j := kX6_isItem) rfl hc g
theorem bX6_addSubstitute_14 {x1 : Int32} {x2 : Int32} {x3 : Int32} {l4 : Value} {l5 : Value} {y1 : Int32} {v : mmM} {c : Nat} {K : mmO → mmM → Prop} (g1 : y1 = 0 → mm_E kX6_addSubstitute 17 [.ref 81, .int x1, .int x2, .int x3, l4, l5] [.ref 81] v c K) (g2 : ¬ y1 = 0 → mm_E kX6_addSubstitute 21 [.ref 81, .int x1, .int x2, .int x3, l4, l5] [.ref 81] v c K) : mm_E kX6_addSubstitute 14 [.ref 81, .int x1, .int x2, .int x3, l4, l5] [.int y1, .ref 81] v c K := by
  exact e_if (p := y1 = 0) rfl g1 g2
theorem bX6_addSubstitute_17 {x1 : Int32} {x2 : Int32} {x3 : Int32} {l4 : Value} {l5 : Value} {v : mmM} {c : Nat} {K : mmO → mmM → Prop} (g : mm_E kX6_addSubstitute 60 [.ref 81, .int x1, .int x2, .int x3, l4, l5] [.int (1 : Int32), .ref 81] v c K) : mm_E kX6_addSubstitute 17 [.ref 81, .int x1, .int x2, .int x3, l4, l5] [.ref 81] v c K := by
  refine e_run 2 (pc1 := 60) (L1 := [.ref 81, .int x1, .int x2, .int x3, l4, l5]) (S1 := [.int (1 : Int32), .ref 81]) (v1 := v) rfl ?_
  exact g
theorem bX6_addSubstitute_21 {x1 : Int32} {x2 : Int32} {x3 : Int32} {l4 : Value} {l5 : Value} {v : mmM} {c : Nat} {K : mmO → mmM → Prop} (hc : c + mm_mc kX6_in ≤ mm_mc kX6_addSubstitute) (g : mm_M kX6_in [.int x3, .int (1 : Int32), .int (9 : Int32)] v (mm_Kc kX6_addSubstitute 28 [.ref 81, .int x1, .int x2, .int x3, l4, l5] [.ref 81] (c + mm_mc kX6_in) K)) : mm_E kX6_addSubstitute 21 [.ref 81, .int x1, .int x2, .int x3, l4, l5] [.ref 81] v c K := by
  refine e_run 3 (pc1 := 25) (L1 := [.ref 81, .int x1, .int x2, .int x3, l4, l5]) (S1 := [.int (9 : Int32), .int (1 : Int32), .int x3, .ref 81]) (v1 := v) rfl ?_
  exact e_cl (j := kX6_in) rfl hc g
theorem bX6_addSubstitute_28 {x1 : Int32} {x2 : Int32} {x3 : Int32} {l4 : Value} {l5 : Value} {y1 : Int32} {v : mmM} {c : Nat} {K : mmO → mmM → Prop} (g1 : y1 = 0 → mm_E kX6_addSubstitute 31 [.ref 81, .int x1, .int x2, .int x3, l4, l5] [.ref 81] v c K) (g2 : ¬ y1 = 0 → mm_E kX6_addSubstitute 35 [.ref 81, .int x1, .int x2, .int x3, l4, l5] [.ref 81] v c K) : mm_E kX6_addSubstitute 28 [.ref 81, .int x1, .int x2, .int x3, l4, l5] [.int y1, .ref 81] v c K := by
  exact e_if (p := y1 = 0) rfl g1 g2
theorem bX6_addSubstitute_31 {x1 : Int32} {x2 : Int32} {x3 : Int32} {l4 : Value} {l5 : Value} {v : mmM} {c : Nat} {K : mmO → mmM → Prop} (g : mm_E kX6_addSubstitute 60 [.ref 81, .int x1, .int x2, .int x3, l4, l5] [.int (2 : Int32), .ref 81] v c K) : mm_E kX6_addSubstitute 31 [.ref 81, .int x1, .int x2, .int x3, l4, l5] [.ref 81] v c K := by
  refine e_run 2 (pc1 := 60) (L1 := [.ref 81, .int x1, .int x2, .int x3, l4, l5]) (S1 := [.int (2 : Int32), .ref 81]) (v1 := v) rfl ?_
  exact g
theorem bX6_addSubstitute_35 {x1 : Int32} {x2 : Int32} {x3 : Int32} {l4 : Value} {l5 : Value} {v : mmM} {c : Nat} {K : mmO → mmM → Prop} (g1 : x1 = x2 → mm_E kX6_addSubstitute 40 [.ref 81, .int x1, .int x2, .int x3, l4, l5] [.ref 81] v c K) (g2 : ¬ x1 = x2 → mm_E kX6_addSubstitute 44 [.ref 81, .int x1, .int x2, .int x3, l4, l5] [.ref 81] v c K) : mm_E kX6_addSubstitute 35 [.ref 81, .int x1, .int x2, .int x3, l4, l5] [.ref 81] v c K := by
  refine e_run 2 (pc1 := 37) (L1 := [.ref 81, .int x1, .int x2, .int x3, l4, l5]) (S1 := [.int x2, .int x1, .ref 81]) (v1 := v) rfl ?_
  exact e_if (p := x1 = x2) rfl g1 g2
theorem bX6_addSubstitute_40 {x1 : Int32} {x2 : Int32} {x3 : Int32} {l4 : Value} {l5 : Value} {v : mmM} {c : Nat} {K : mmO → mmM → Prop} (g : mm_E kX6_addSubstitute 60 [.ref 81, .int x1, .int x2, .int x3, l4, l5] [.int (3 : Int32), .ref 81] v c K) : mm_E kX6_addSubstitute 40 [.ref 81, .int x1, .int x2, .int x3, l4, l5] [.ref 81] v c K := by
  refine e_run 2 (pc1 := 60) (L1 := [.ref 81, .int x1, .int x2, .int x3, l4, l5]) (S1 := [.int (3 : Int32), .ref 81]) (v1 := v) rfl ?_
  exact g
theorem bX6_addSubstitute_44 {x1 : Int32} {x2 : Int32} {x3 : Int32} {l4 : Value} {l5 : Value} {v : mmM} {c : Nat} {K : mmO → mmM → Prop} (h1 : mm_in x1 6 = true) (h2 : mm_in x2 6 = true) (g1 : (v (84 + x1.toNatClampNeg) x2.toNatClampNeg) ≤ 0 → mm_E kX6_addSubstitute 59 [.ref 81, .int x1, .int x2, .int x3, l4, l5] [.ref 81] v c K) (g2 : ¬ (v (84 + x1.toNatClampNeg) x2.toNatClampNeg) ≤ 0 → mm_E kX6_addSubstitute 55 [.ref 81, .int x1, .int x2, .int x3, l4, l5] [.ref 81] v c K) : mm_E kX6_addSubstitute 44 [.ref 81, .int x1, .int x2, .int x3, l4, l5] [.ref 81] v c K := by
  refine e_run 3 (pc1 := 49) (L1 := [.ref 81, .int x1, .int x2, .int x3, l4, l5]) (S1 := [.int x1, .ref 83, .ref 81]) (v1 := v) rfl ?_
  refine e_aald rfl rfl (by decide) h1 ?_
  refine e_run 1 (pc1 := 51) (L1 := [.ref 81, .int x1, .int x2, .int x3, l4, l5]) (S1 := [.int x2, .ref (84 + x1.toNatClampNeg), .ref 81]) (v1 := v) rfl ?_
  refine e_iald rfl (mm_rows (P := fun x => mm_sh (84 + x) = (0, 6, 0, [])) (by decide +kernel) (mm_in_lt h1)) (by have := (mm_in_lt h1); show _ < 244; omega) h2 ?_
  exact e_if (p := (v (84 + x1.toNatClampNeg) x2.toNatClampNeg) ≤ 0) rfl g1 g2
theorem bX6_addSubstitute_55 {x1 : Int32} {x2 : Int32} {x3 : Int32} {l4 : Value} {l5 : Value} {v : mmM} {c : Nat} {K : mmO → mmM → Prop} (g : mm_E kX6_addSubstitute 60 [.ref 81, .int x1, .int x2, .int x3, l4, l5] [.int (4 : Int32), .ref 81] v c K) : mm_E kX6_addSubstitute 55 [.ref 81, .int x1, .int x2, .int x3, l4, l5] [.ref 81] v c K := by
  refine e_run 2 (pc1 := 60) (L1 := [.ref 81, .int x1, .int x2, .int x3, l4, l5]) (S1 := [.int (4 : Int32), .ref 81]) (v1 := v) rfl ?_
  exact g
theorem bX6_addSubstitute_59 {x1 : Int32} {x2 : Int32} {x3 : Int32} {l4 : Value} {l5 : Value} {v : mmM} {c : Nat} {K : mmO → mmM → Prop} (g : mm_E kX6_addSubstitute 60 [.ref 81, .int x1, .int x2, .int x3, l4, l5] [.int (0 : Int32), .ref 81] v c K) : mm_E kX6_addSubstitute 59 [.ref 81, .int x1, .int x2, .int x3, l4, l5] [.ref 81] v c K := by
  refine e_run 1 (pc1 := 60) (L1 := [.ref 81, .int x1, .int x2, .int x3, l4, l5]) (S1 := [.int (0 : Int32), .ref 81]) (v1 := v) rfl ?_
  exact g
theorem bX6_addSubstitute_60 {x1 : Int32} {x2 : Int32} {x3 : Int32} {l4 : Value} {l5 : Value} {y1 : Int32} {v : mmM} {c : Nat} {K : mmO → mmM → Prop} (g1 : y1 ≤ 0 → mm_E kX6_addSubstitute 72 [.ref 81, .int x1, .int x2, .int x3, l4, l5] [] (mm_up v 81 26 y1) c K) (g2 : ¬ y1 ≤ 0 → mm_E kX6_addSubstitute 70 [.ref 81, .int x1, .int x2, .int x3, l4, l5] [] (mm_up v 81 26 y1) c K) : mm_E kX6_addSubstitute 60 [.ref 81, .int x1, .int x2, .int x3, l4, l5] [.int y1, .ref 81] v c K := by
  refine e_run 3 (pc1 := 67) (L1 := [.ref 81, .int x1, .int x2, .int x3, l4, l5]) (S1 := [.int y1]) (v1 := mm_up v 81 26 y1) rfl ?_
  exact e_if (p := y1 ≤ 0) rfl g1 g2
theorem bX6_addSubstitute_70 {x1 : Int32} {x2 : Int32} {x3 : Int32} {l4 : Value} {l5 : Value} {v : mmM} {c : Nat} {K : mmO → mmM → Prop} (g : K (.inl (some (.int (0 : Int32)))) v) : mm_E kX6_addSubstitute 70 [.ref 81, .int x1, .int x2, .int x3, l4, l5] [] v c K := by
  refine e_run 1 (pc1 := 71) (L1 := [.ref 81, .int x1, .int x2, .int x3, l4, l5]) (S1 := [.int (0 : Int32)]) (v1 := v) rfl ?_
  exact e_iret (ty := .int) rfl rfl rfl g
theorem bX6_addSubstitute_72 {x1 : Int32} {x2 : Int32} {x3 : Int32} {l4 : Value} {l5 : Value} {v : mmM} {c : Nat} {K : mmO → mmM → Prop} (h1 : mm_in x1 6 = true) (h2 : mm_in x2 6 = true) (g : mm_E kX6_addSubstitute 87 [.ref 81, .int x1, .int x2, .int x3, .int (0 : Int32), .int (0 : Int32)] [] (mm_up v (84 + x1.toNatClampNeg) x2.toNatClampNeg x3) c K) : mm_E kX6_addSubstitute 72 [.ref 81, .int x1, .int x2, .int x3, l4, l5] [] v c K := by
  refine e_run 3 (pc1 := 77) (L1 := [.ref 81, .int x1, .int x2, .int x3, l4, l5]) (S1 := [.int x1, .ref 83]) (v1 := v) rfl ?_
  refine e_aald rfl rfl (by decide) h1 ?_
  refine e_run 2 (pc1 := 80) (L1 := [.ref 81, .int x1, .int x2, .int x3, l4, l5]) (S1 := [.int x3, .int x2, .ref (84 + x1.toNatClampNeg)]) (v1 := v) rfl ?_
  refine e_iast rfl (mm_rows (P := fun x => mm_sh (84 + x) = (0, 6, 0, [])) (by decide +kernel) (mm_in_lt h1)) (by have := (mm_in_lt h1); show _ < 244; omega) h2 ?_
  refine e_run 4 (pc1 := 87) (L1 := [.ref 81, .int x1, .int x2, .int x3, .int (0 : Int32), .int (0 : Int32)]) (S1 := []) (v1 := mm_up v (84 + x1.toNatClampNeg) x2.toNatClampNeg x3) rfl ?_
  exact g
theorem bX6_addSubstitute_87 {x1 : Int32} {x2 : Int32} {x3 : Int32} {x4 : Int32} {x5 : Int32} {v : mmM} {c : Nat} {K : mmO → mmM → Prop} (g1 : (v 81 2) ≤ x5 → mm_E kX6_addSubstitute 124 [.ref 81, .int x1, .int x2, .int x3, .int x4, .int x5] [] v c K) (g2 : ¬ (v 81 2) ≤ x5 → mm_E kX6_addSubstitute 96 [.ref 81, .int x1, .int x2, .int x3, .int x4, .int x5] [] v c K) : mm_E kX6_addSubstitute 87 [.ref 81, .int x1, .int x2, .int x3, .int x4, .int x5] [] v c K := by
  refine e_run 3 (pc1 := 93) (L1 := [.ref 81, .int x1, .int x2, .int x3, .int x4, .int x5]) (S1 := [.int (v 81 2), .int x5]) (v1 := v) rfl ?_
  exact e_if (p := (v 81 2) ≤ x5) rfl g1 g2
theorem bX6_addSubstitute_96 {x1 : Int32} {x2 : Int32} {x3 : Int32} {x4 : Int32} {x5 : Int32} {v : mmM} {c : Nat} {K : mmO → mmM → Prop} (h1 : mm_in x1 6 = true) (h2 : mm_in x5 6 = true) (g1 : (v (84 + x1.toNatClampNeg) x5.toNatClampNeg) ≤ 0 → mm_E kX6_addSubstitute 114 [.ref 81, .int x1, .int x2, .int x3, .int x4, .int x5] [.int x4] v c K) (g2 : ¬ (v (84 + x1.toNatClampNeg) x5.toNatClampNeg) ≤ 0 → mm_E kX6_addSubstitute 110 [.ref 81, .int x1, .int x2, .int x3, .int x4, .int x5] [.int x4] v c K) : mm_E kX6_addSubstitute 96 [.ref 81, .int x1, .int x2, .int x3, .int x4, .int x5] [] v c K := by
  refine e_run 4 (pc1 := 103) (L1 := [.ref 81, .int x1, .int x2, .int x3, .int x4, .int x5]) (S1 := [.int x1, .ref 83, .int x4]) (v1 := v) rfl ?_
  refine e_aald rfl rfl (by decide) h1 ?_
  refine e_run 1 (pc1 := 106) (L1 := [.ref 81, .int x1, .int x2, .int x3, .int x4, .int x5]) (S1 := [.int x5, .ref (84 + x1.toNatClampNeg), .int x4]) (v1 := v) rfl ?_
  refine e_iald rfl (mm_rows (P := fun x => mm_sh (84 + x) = (0, 6, 0, [])) (by decide +kernel) (mm_in_lt h1)) (by have := (mm_in_lt h1); show _ < 244; omega) h2 ?_
  exact e_if (p := (v (84 + x1.toNatClampNeg) x5.toNatClampNeg) ≤ 0) rfl g1 g2
theorem bX6_addSubstitute_110 {x1 : Int32} {x2 : Int32} {x3 : Int32} {x4 : Int32} {x5 : Int32} {y0 : Int32} {v : mmM} {c : Nat} {K : mmO → mmM → Prop} (g : mm_E kX6_addSubstitute 115 [.ref 81, .int x1, .int x2, .int x3, .int x4, .int x5] [.int (1 : Int32), .int y0] v c K) : mm_E kX6_addSubstitute 110 [.ref 81, .int x1, .int x2, .int x3, .int x4, .int x5] [.int y0] v c K := by
  refine e_run 2 (pc1 := 115) (L1 := [.ref 81, .int x1, .int x2, .int x3, .int x4, .int x5]) (S1 := [.int (1 : Int32), .int y0]) (v1 := v) rfl ?_
  exact g
theorem bX6_addSubstitute_114 {x1 : Int32} {x2 : Int32} {x3 : Int32} {x4 : Int32} {x5 : Int32} {y0 : Int32} {v : mmM} {c : Nat} {K : mmO → mmM → Prop} (g : mm_E kX6_addSubstitute 115 [.ref 81, .int x1, .int x2, .int x3, .int x4, .int x5] [.int (0 : Int32), .int y0] v c K) : mm_E kX6_addSubstitute 114 [.ref 81, .int x1, .int x2, .int x3, .int x4, .int x5] [.int y0] v c K := by
  refine e_run 1 (pc1 := 115) (L1 := [.ref 81, .int x1, .int x2, .int x3, .int x4, .int x5]) (S1 := [.int (0 : Int32), .int y0]) (v1 := v) rfl ?_
  exact g
theorem bX6_addSubstitute_115 {x1 : Int32} {x2 : Int32} {x3 : Int32} {x4 : Int32} {x5 : Int32} {y0 : Int32} {y1 : Int32} {v : mmM} {c : Nat} {K : mmO → mmM → Prop} (g : mm_E kX6_addSubstitute 87 [.ref 81, .int x1, .int x2, .int x3, .int (y0 + y1), .int (x5 + (1 : Int32))] [] v c K) : mm_E kX6_addSubstitute 115 [.ref 81, .int x1, .int x2, .int x3, .int x4, .int x5] [.int y1, .int y0] v c K := by
  refine e_run 4 (pc1 := 87) (L1 := [.ref 81, .int x1, .int x2, .int x3, .int (y0 + y1), .int (x5 + (1 : Int32))]) (S1 := []) (v1 := v) rfl ?_
  exact g
theorem bX6_addSubstitute_124 {x1 : Int32} {x2 : Int32} {x3 : Int32} {x4 : Int32} {x5 : Int32} {v : mmM} {c : Nat} {K : mmO → mmM → Prop} (g : K (.inl (some (.int x4))) v) : mm_E kX6_addSubstitute 124 [.ref 81, .int x1, .int x2, .int x3, .int x4, .int x5] [] v c K := by
  refine e_run 1 (pc1 := 126) (L1 := [.ref 81, .int x1, .int x2, .int x3, .int x4, .int x5]) (S1 := [.int x4]) (v1 := v) rfl ?_
  exact e_iret (ty := .int) rfl rfl rfl g
theorem bX6_receive_0 {x1 : Int32} {x2 : Int32} {x3 : Int32} {x4 : Int32} {l5 : Value} {v : mmM} {c : Nat} {K : mmO → mmM → Prop} (hc : c + mm_mc kX6_isItem ≤ mm_mc kX6_receive) (g : mm_M kX6_isItem [.ref 81, .int x1] v (mm_Kc kX6_receive 5 [.ref 81, .int x1, .int x2, .int x3, .int x4, l5] [] (c + mm_mc kX6_isItem) K)) : mm_E kX6_receive 0 [.ref 81, .int x1, .int x2, .int x3, .int x4, l5] [] v c K := by
  refine e_run 2 (pc1 := 2) (L1 := [.ref 81, .int x1, .int x2, .int x3, .int x4, l5]) (S1 := [.int x1, .ref 81]) (v1 := v) rfl ?_
  exact e_cl (j := kX6_isItem) rfl hc g
theorem bX6_receive_5 {x1 : Int32} {x2 : Int32} {x3 : Int32} {x4 : Int32} {l5 : Value} {y0 : Int32} {v : mmM} {c : Nat} {K : mmO → mmM → Prop} (g1 : y0 = 0 → mm_E kX6_receive 16 [.ref 81, .int x1, .int x2, .int x3, .int x4, l5] [] v c K) (g2 : ¬ y0 = 0 → mm_E kX6_receive 8 [.ref 81, .int x1, .int x2, .int x3, .int x4, l5] [] v c K) : mm_E kX6_receive 5 [.ref 81, .int x1, .int x2, .int x3, .int x4, l5] [.int y0] v c K := by
  exact e_if (p := y0 = 0) rfl g1 g2
theorem bX6_receive_8 {x1 : Int32} {x2 : Int32} {x3 : Int32} {x4 : Int32} {l5 : Value} {v : mmM} {c : Nat} {K : mmO → mmM → Prop} (hc : c + mm_mc kX6_isBin ≤ mm_mc kX6_receive) (g : mm_M kX6_isBin [.int x4] v (mm_Kc kX6_receive 13 [.ref 81, .int x1, .int x2, .int x3, .int x4, l5] [] (c + mm_mc kX6_isBin) K)) : mm_E kX6_receive 8 [.ref 81, .int x1, .int x2, .int x3, .int x4, l5] [] v c K := by
  refine e_run 1 (pc1 := 10) (L1 := [.ref 81, .int x1, .int x2, .int x3, .int x4, l5]) (S1 := [.int x4]) (v1 := v) rfl ?_
  exact e_cl (j := kX6_isBin) rfl hc g
theorem bX6_receive_13 {x1 : Int32} {x2 : Int32} {x3 : Int32} {x4 : Int32} {l5 : Value} {y0 : Int32} {v : mmM} {c : Nat} {K : mmO → mmM → Prop} (g1 : y0 = 0 → mm_E kX6_receive 16 [.ref 81, .int x1, .int x2, .int x3, .int x4, l5] [] v c K) (g2 : ¬ y0 = 0 → mm_E kX6_receive 22 [.ref 81, .int x1, .int x2, .int x3, .int x4, l5] [] v c K) : mm_E kX6_receive 13 [.ref 81, .int x1, .int x2, .int x3, .int x4, l5] [.int y0] v c K := by
  exact e_if (p := y0 = 0) rfl g1 g2
theorem bX6_receive_16 {x1 : Int32} {x2 : Int32} {x3 : Int32} {x4 : Int32} {l5 : Value} {v : mmM} {c : Nat} {K : mmO → mmM → Prop} (hc : c + mm_mc kX6_raises ≤ mm_mc kX6_receive) (g : mm_M kX6_raises [.ref 81, .int (1 : Int32)] v (mm_Kc kX6_receive 21 [.ref 81, .int x1, .int x2, .int x3, .int x4, l5] [] (c + mm_mc kX6_raises) K)) : mm_E kX6_receive 16 [.ref 81, .int x1, .int x2, .int x3, .int x4, l5] [] v c K := by
  refine e_run 2 (pc1 := 18) (L1 := [.ref 81, .int x1, .int x2, .int x3, .int x4, l5]) (S1 := [.int (1 : Int32), .ref 81]) (v1 := v) rfl ?_
  exact e_cl (j := kX6_raises) rfl hc g
theorem bX6_receive_21 {x1 : Int32} {x2 : Int32} {x3 : Int32} {x4 : Int32} {l5 : Value} {y0 : Int32} {v : mmM} {c : Nat} {K : mmO → mmM → Prop} (g : K (.inl (some (.int y0))) v) : mm_E kX6_receive 21 [.ref 81, .int x1, .int x2, .int x3, .int x4, l5] [.int y0] v c K := by
  exact e_iret (ty := .int) rfl rfl rfl g
theorem bX6_receive_22 {x1 : Int32} {x2 : Int32} {x3 : Int32} {x4 : Int32} {l5 : Value} {v : mmM} {c : Nat} {K : mmO → mmM → Prop} (hc : c + mm_mc kX6_in ≤ mm_mc kX6_receive) (g : mm_M kX6_in [.int x2, .int (1 : Int32), .int (30 : Int32)] v (mm_Kc kX6_receive 29 [.ref 81, .int x1, .int x2, .int x3, .int x4, l5] [] (c + mm_mc kX6_in) K)) : mm_E kX6_receive 22 [.ref 81, .int x1, .int x2, .int x3, .int x4, l5] [] v c K := by
  refine e_run 3 (pc1 := 26) (L1 := [.ref 81, .int x1, .int x2, .int x3, .int x4, l5]) (S1 := [.int (30 : Int32), .int (1 : Int32), .int x2]) (v1 := v) rfl ?_
  exact e_cl (j := kX6_in) rfl hc g
theorem bX6_receive_29 {x1 : Int32} {x2 : Int32} {x3 : Int32} {x4 : Int32} {l5 : Value} {y0 : Int32} {v : mmM} {c : Nat} {K : mmO → mmM → Prop} (g1 : y0 = 0 → mm_E kX6_receive 50 [.ref 81, .int x1, .int x2, .int x3, .int x4, l5] [] v c K) (g2 : ¬ y0 = 0 → mm_E kX6_receive 32 [.ref 81, .int x1, .int x2, .int x3, .int x4, l5] [] v c K) : mm_E kX6_receive 29 [.ref 81, .int x1, .int x2, .int x3, .int x4, l5] [.int y0] v c K := by
  exact e_if (p := y0 = 0) rfl g1 g2
theorem bX6_receive_32 {x1 : Int32} {x2 : Int32} {x3 : Int32} {x4 : Int32} {l5 : Value} {v : mmM} {c : Nat} {K : mmO → mmM → Prop} (hc : c + mm_mc kX6_in ≤ mm_mc kX6_receive) (g : mm_M kX6_in [.int x3, .int (v 81 25), .int ((v 81 25) + (99 : Int32))] v (mm_Kc kX6_receive 47 [.ref 81, .int x1, .int x2, .int x3, .int x4, l5] [] (c + mm_mc kX6_in) K)) : mm_E kX6_receive 32 [.ref 81, .int x1, .int x2, .int x3, .int x4, l5] [] v c K := by
  refine e_run 7 (pc1 := 44) (L1 := [.ref 81, .int x1, .int x2, .int x3, .int x4, l5]) (S1 := [.int ((v 81 25) + (99 : Int32)), .int (v 81 25), .int x3]) (v1 := v) rfl ?_
  exact e_cl (j := kX6_in) rfl hc g
theorem bX6_receive_47 {x1 : Int32} {x2 : Int32} {x3 : Int32} {x4 : Int32} {l5 : Value} {y0 : Int32} {v : mmM} {c : Nat} {K : mmO → mmM → Prop} (g1 : y0 = 0 → mm_E kX6_receive 50 [.ref 81, .int x1, .int x2, .int x3, .int x4, l5] [] v c K) (g2 : ¬ y0 = 0 → mm_E kX6_receive 56 [.ref 81, .int x1, .int x2, .int x3, .int x4, l5] [] v c K) : mm_E kX6_receive 47 [.ref 81, .int x1, .int x2, .int x3, .int x4, l5] [.int y0] v c K := by
  exact e_if (p := y0 = 0) rfl g1 g2
theorem bX6_receive_50 {x1 : Int32} {x2 : Int32} {x3 : Int32} {x4 : Int32} {l5 : Value} {v : mmM} {c : Nat} {K : mmO → mmM → Prop} (hc : c + mm_mc kX6_raises ≤ mm_mc kX6_receive) (g : mm_M kX6_raises [.ref 81, .int (2 : Int32)] v (mm_Kc kX6_receive 55 [.ref 81, .int x1, .int x2, .int x3, .int x4, l5] [] (c + mm_mc kX6_raises) K)) : mm_E kX6_receive 50 [.ref 81, .int x1, .int x2, .int x3, .int x4, l5] [] v c K := by
  refine e_run 2 (pc1 := 52) (L1 := [.ref 81, .int x1, .int x2, .int x3, .int x4, l5]) (S1 := [.int (2 : Int32), .ref 81]) (v1 := v) rfl ?_
  exact e_cl (j := kX6_raises) rfl hc g
theorem bX6_receive_55 {x1 : Int32} {x2 : Int32} {x3 : Int32} {x4 : Int32} {l5 : Value} {y0 : Int32} {v : mmM} {c : Nat} {K : mmO → mmM → Prop} (g : K (.inl (some (.int y0))) v) : mm_E kX6_receive 55 [.ref 81, .int x1, .int x2, .int x3, .int x4, l5] [.int y0] v c K := by
  exact e_iret (ty := .int) rfl rfl rfl g
theorem bX6_receive_56 {x1 : Int32} {x2 : Int32} {x3 : Int32} {x4 : Int32} {l5 : Value} {v : mmM} {c : Nat} {K : mmO → mmM → Prop} (g1 : (v 81 8) = (24 : Int32) → mm_E kX6_receive 75 [.ref 81, .int x1, .int x2, .int x3, .int x4, l5] [] v c K) (g2 : ¬ (v 81 8) = (24 : Int32) → mm_E kX6_receive 65 [.ref 81, .int x1, .int x2, .int x3, .int x4, l5] [] v c K) : mm_E kX6_receive 56 [.ref 81, .int x1, .int x2, .int x3, .int x4, l5] [] v c K := by
  refine e_run 3 (pc1 := 62) (L1 := [.ref 81, .int x1, .int x2, .int x3, .int x4, l5]) (S1 := [.int (24 : Int32), .int (v 81 8)]) (v1 := v) rfl ?_
  exact e_if (p := (v 81 8) = (24 : Int32)) rfl g1 g2
theorem bX6_receive_65 {x1 : Int32} {x2 : Int32} {x3 : Int32} {x4 : Int32} {l5 : Value} {v : mmM} {c : Nat} {K : mmO → mmM → Prop} (g1 : (v 81 24) = (150 : Int32) → mm_E kX6_receive 75 [.ref 81, .int x1, .int x2, .int x3, .int x4, l5] [] v c K) (g2 : ¬ (v 81 24) = (150 : Int32) → mm_E kX6_receive 81 [.ref 81, .int x1, .int x2, .int x3, .int x4, l5] [] v c K) : mm_E kX6_receive 65 [.ref 81, .int x1, .int x2, .int x3, .int x4, l5] [] v c K := by
  refine e_run 3 (pc1 := 72) (L1 := [.ref 81, .int x1, .int x2, .int x3, .int x4, l5]) (S1 := [.int (150 : Int32), .int (v 81 24)]) (v1 := v) rfl ?_
  exact e_if (p := (v 81 24) = (150 : Int32)) rfl g1 g2
theorem bX6_receive_75 {x1 : Int32} {x2 : Int32} {x3 : Int32} {x4 : Int32} {l5 : Value} {v : mmM} {c : Nat} {K : mmO → mmM → Prop} (hc : c + mm_mc kX6_raises ≤ mm_mc kX6_receive) (g : mm_M kX6_raises [.ref 81, .int (3 : Int32)] v (mm_Kc kX6_receive 80 [.ref 81, .int x1, .int x2, .int x3, .int x4, l5] [] (c + mm_mc kX6_raises) K)) : mm_E kX6_receive 75 [.ref 81, .int x1, .int x2, .int x3, .int x4, l5] [] v c K := by
  refine e_run 2 (pc1 := 77) (L1 := [.ref 81, .int x1, .int x2, .int x3, .int x4, l5]) (S1 := [.int (3 : Int32), .ref 81]) (v1 := v) rfl ?_
  exact e_cl (j := kX6_raises) rfl hc g
theorem bX6_receive_80 {x1 : Int32} {x2 : Int32} {x3 : Int32} {x4 : Int32} {l5 : Value} {y0 : Int32} {v : mmM} {c : Nat} {K : mmO → mmM → Prop} (g : K (.inl (some (.int y0))) v) : mm_E kX6_receive 80 [.ref 81, .int x1, .int x2, .int x3, .int x4, l5] [.int y0] v c K := by
  exact e_iret (ty := .int) rfl rfl rfl g
theorem bX6_receive_81 {x1 : Int32} {x2 : Int32} {x3 : Int32} {x4 : Int32} {l5 : Value} {v : mmM} {c : Nat} {K : mmO → mmM → Prop} (hc : c + mm_mc kX6_load0 ≤ mm_mc kX6_receive) (g : mm_M kX6_load0 [.ref 81, .int x4] v (mm_Kc kX6_receive 87 [.ref 81, .int x1, .int x2, .int x3, .int x4, l5] [] (c + mm_mc kX6_load0) K)) : mm_E kX6_receive 81 [.ref 81, .int x1, .int x2, .int x3, .int x4, l5] [] v c K := by
  refine e_run 2 (pc1 := 84) (L1 := [.ref 81, .int x1, .int x2, .int x3, .int x4, l5]) (S1 := [.int x4, .ref 81]) (v1 := v) rfl ?_
  exact e_cl (j := kX6_load0) rfl hc g
theorem bX6_receive_87 {x1 : Int32} {x2 : Int32} {x3 : Int32} {x4 : Int32} {l5 : Value} {y0 : Int32} {v : mmM} {c : Nat} {K : mmO → mmM → Prop} (g1 : (y0 + x2) ≤ (30 : Int32) → mm_E kX6_receive 100 [.ref 81, .int x1, .int x2, .int x3, .int x4, l5] [] v c K) (g2 : ¬ (y0 + x2) ≤ (30 : Int32) → mm_E kX6_receive 94 [.ref 81, .int x1, .int x2, .int x3, .int x4, l5] [] v c K) : mm_E kX6_receive 87 [.ref 81, .int x1, .int x2, .int x3, .int x4, l5] [.int y0] v c K := by
  refine e_run 3 (pc1 := 91) (L1 := [.ref 81, .int x1, .int x2, .int x3, .int x4, l5]) (S1 := [.int (30 : Int32), .int (y0 + x2)]) (v1 := v) rfl ?_
  exact e_if (p := (y0 + x2) ≤ (30 : Int32)) rfl g1 g2
theorem bX6_receive_94 {x1 : Int32} {x2 : Int32} {x3 : Int32} {x4 : Int32} {l5 : Value} {v : mmM} {c : Nat} {K : mmO → mmM → Prop} (hc : c + mm_mc kX6_raises ≤ mm_mc kX6_receive) (g : mm_M kX6_raises [.ref 81, .int (4 : Int32)] v (mm_Kc kX6_receive 99 [.ref 81, .int x1, .int x2, .int x3, .int x4, l5] [] (c + mm_mc kX6_raises) K)) : mm_E kX6_receive 94 [.ref 81, .int x1, .int x2, .int x3, .int x4, l5] [] v c K := by
  refine e_run 2 (pc1 := 96) (L1 := [.ref 81, .int x1, .int x2, .int x3, .int x4, l5]) (S1 := [.int (4 : Int32), .ref 81]) (v1 := v) rfl ?_
  exact e_cl (j := kX6_raises) rfl hc g
theorem bX6_receive_99 {x1 : Int32} {x2 : Int32} {x3 : Int32} {x4 : Int32} {l5 : Value} {y0 : Int32} {v : mmM} {c : Nat} {K : mmO → mmM → Prop} (g : K (.inl (some (.int y0))) v) : mm_E kX6_receive 99 [.ref 81, .int x1, .int x2, .int x3, .int x4, l5] [.int y0] v c K := by
  exact e_iret (ty := .int) rfl rfl rfl g
theorem bX6_receive_100 {x1 : Int32} {x2 : Int32} {x3 : Int32} {x4 : Int32} {l5 : Value} {v : mmM} {c : Nat} {K : mmO → mmM → Prop} (g : mm_E kX6_receive 111 [.ref 81, .int x1, .int x2, .int x3, .int x4, .int ((mm_up v 81 26 (0 : Int32)) 81 8)] [] (mm_up v 81 26 (0 : Int32)) c K) : mm_E kX6_receive 100 [.ref 81, .int x1, .int x2, .int x3, .int x4, l5] [] v c K := by
  refine e_run 6 (pc1 := 111) (L1 := [.ref 81, .int x1, .int x2, .int x3, .int x4, .int ((mm_up v 81 26 (0 : Int32)) 81 8)]) (S1 := []) (v1 := mm_up v 81 26 (0 : Int32)) rfl ?_
  exact g
theorem bX6_receive_111 {x1 : Int32} {x2 : Int32} {x3 : Int32} {x4 : Int32} {x5 : Int32} {v : mmM} {c : Nat} {K : mmO → mmM → Prop} (g1 : x5 ≤ 0 → mm_E kX6_receive 156 [.ref 81, .int x1, .int x2, .int x3, .int x4, .int x5] [] v c K) (g2 : ¬ x5 ≤ 0 → mm_E kX6_receive 116 [.ref 81, .int x1, .int x2, .int x3, .int x4, .int x5] [] v c K) : mm_E kX6_receive 111 [.ref 81, .int x1, .int x2, .int x3, .int x4, .int x5] [] v c K := by
  refine e_run 1 (pc1 := 113) (L1 := [.ref 81, .int x1, .int x2, .int x3, .int x4, .int x5]) (S1 := [.int x5]) (v1 := v) rfl ?_
  exact e_if (p := x5 ≤ 0) rfl g1 g2
theorem bX6_receive_116 {x1 : Int32} {x2 : Int32} {x3 : Int32} {x4 : Int32} {x5 : Int32} {v : mmM} {c : Nat} {K : mmO → mmM → Prop} (h1 : mm_in (x5 - (1 : Int32)) 24 = true) (h2 : mm_in (v 118 (x5 - (1 : Int32)).toNatClampNeg) 24 = true) (g1 : (v 91 (v 118 (x5 - (1 : Int32)).toNatClampNeg).toNatClampNeg) ≤ x3 → mm_E kX6_receive 156 [.ref 81, .int x1, .int x2, .int x3, .int x4, .int x5] [] v c K) (g2 : ¬ (v 91 (v 118 (x5 - (1 : Int32)).toNatClampNeg).toNatClampNeg) ≤ x3 → mm_E kX6_receive 134 [.ref 81, .int x1, .int x2, .int x3, .int x4, .int x5] [] v c K) : mm_E kX6_receive 116 [.ref 81, .int x1, .int x2, .int x3, .int x4, .int x5] [] v c K := by
  refine e_run 7 (pc1 := 128) (L1 := [.ref 81, .int x1, .int x2, .int x3, .int x4, .int x5]) (S1 := [.int (x5 - (1 : Int32)), .ref 118, .ref 91]) (v1 := v) rfl ?_
  refine e_iald rfl rfl (by decide) h1 ?_
  refine e_iald rfl rfl (by decide) h2 ?_
  refine e_run 1 (pc1 := 131) (L1 := [.ref 81, .int x1, .int x2, .int x3, .int x4, .int x5]) (S1 := [.int x3, .int (v 91 (v 118 (x5 - (1 : Int32)).toNatClampNeg).toNatClampNeg)]) (v1 := v) rfl ?_
  exact e_if (p := (v 91 (v 118 (x5 - (1 : Int32)).toNatClampNeg).toNatClampNeg) ≤ x3) rfl g1 g2
theorem bX6_receive_134 {x1 : Int32} {x2 : Int32} {x3 : Int32} {x4 : Int32} {x5 : Int32} {v : mmM} {c : Nat} {K : mmO → mmM → Prop} (h1 : mm_in (x5 - (1 : Int32)) 24 = true) (h2 : mm_in x5 24 = true) (g : mm_E kX6_receive 111 [.ref 81, .int x1, .int x2, .int x3, .int x4, .int (x5 + (-1 : Int32))] [] (mm_up v 118 x5.toNatClampNeg (v 118 (x5 - (1 : Int32)).toNatClampNeg)) c K) : mm_E kX6_receive 134 [.ref 81, .int x1, .int x2, .int x3, .int x4, .int x5] [] v c K := by
  refine e_run 8 (pc1 := 148) (L1 := [.ref 81, .int x1, .int x2, .int x3, .int x4, .int x5]) (S1 := [.int (x5 - (1 : Int32)), .ref 118, .int x5, .ref 118]) (v1 := v) rfl ?_
  refine e_iald rfl rfl (by decide) h1 ?_
  refine e_iast rfl rfl (by decide) h2 ?_
  refine e_run 2 (pc1 := 111) (L1 := [.ref 81, .int x1, .int x2, .int x3, .int x4, .int (x5 + (-1 : Int32))]) (S1 := []) (v1 := mm_up v 118 x5.toNatClampNeg (v 118 (x5 - (1 : Int32)).toNatClampNeg)) rfl ?_
  exact g
theorem bX6_receive_156 {x1 : Int32} {x2 : Int32} {x3 : Int32} {x4 : Int32} {x5 : Int32} {v : mmM} {c : Nat} {K : mmO → mmM → Prop} (h1 : mm_in x5 24 = true) (h2 : mm_in (v 81 8) 24 = true) (h3 : mm_in (v 81 8) 24 = true) (hc : c + mm_mc kX6_puts ≤ mm_mc kX6_receive) (g : mm_M kX6_puts [.ref 81, .int (v 81 8), .int x4, .int x2] (mm_up (mm_up (mm_up v 118 x5.toNatClampNeg (v 81 8)) 90 (v 81 8).toNatClampNeg x1) 91 (v 81 8).toNatClampNeg x3) (mm_Kc kX6_receive 198 [.ref 81, .int x1, .int x2, .int x3, .int x4, .int x5] [] (c + mm_mc kX6_puts) K)) : mm_E kX6_receive 156 [.ref 81, .int x1, .int x2, .int x3, .int x4, .int x5] [] v c K := by
  refine e_run 5 (pc1 := 166) (L1 := [.ref 81, .int x1, .int x2, .int x3, .int x4, .int x5]) (S1 := [.int (v 81 8), .int x5, .ref 118]) (v1 := v) rfl ?_
  refine e_iast rfl rfl (by decide) h1 ?_
  refine e_run 5 (pc1 := 176) (L1 := [.ref 81, .int x1, .int x2, .int x3, .int x4, .int x5]) (S1 := [.int x1, .int (v 81 8), .ref 90]) (v1 := mm_up v 118 x5.toNatClampNeg (v 81 8)) rfl ?_
  refine e_iast rfl rfl (by decide) h2 ?_
  refine e_run 5 (pc1 := 186) (L1 := [.ref 81, .int x1, .int x2, .int x3, .int x4, .int x5]) (S1 := [.int x3, .int (v 81 8), .ref 91]) (v1 := mm_up (mm_up v 118 x5.toNatClampNeg (v 81 8)) 90 (v 81 8).toNatClampNeg x1) rfl ?_
  refine e_iast rfl rfl (by decide) h3 ?_
  refine e_run 5 (pc1 := 195) (L1 := [.ref 81, .int x1, .int x2, .int x3, .int x4, .int x5]) (S1 := [.int x2, .int x4, .int (v 81 8), .ref 81]) (v1 := mm_up (mm_up (mm_up v 118 x5.toNatClampNeg (v 81 8)) 90 (v 81 8).toNatClampNeg x1) 91 (v 81 8).toNatClampNeg x3) rfl ?_
  exact e_cl (j := kX6_puts) rfl hc g
theorem bX6_receive_198 {x1 : Int32} {x2 : Int32} {x3 : Int32} {x4 : Int32} {x5 : Int32} {v : mmM} {c : Nat} {K : mmO → mmM → Prop} (hc : c + mm_mc kX6_writes ≤ mm_mc kX6_receive) (g : mm_M kX6_writes [.ref 81, .int (114 : Int32), .int (v 81 8), .int (-1 : Int32), .int x4, .int x2] v (mm_Kc kX6_receive 212 [.ref 81, .int x1, .int x2, .int x3, .int x4, .int x5] [] (c + mm_mc kX6_writes) K)) : mm_E kX6_receive 198 [.ref 81, .int x1, .int x2, .int x3, .int x4, .int x5] [] v c K := by
  refine e_run 7 (pc1 := 209) (L1 := [.ref 81, .int x1, .int x2, .int x3, .int x4, .int x5]) (S1 := [.int x2, .int x4, .int (-1 : Int32), .int (v 81 8), .int (114 : Int32), .ref 81]) (v1 := v) rfl ?_
  exact e_cl (j := kX6_writes) rfl hc g
theorem bX6_receive_212 {x1 : Int32} {x2 : Int32} {x3 : Int32} {x4 : Int32} {x5 : Int32} {v : mmM} {c : Nat} {K : mmO → mmM → Prop} (g : K (.inl (some (.int (((v 81 8) + (1 : Int32)) - (1 : Int32))))) (mm_up v 81 8 ((v 81 8) + (1 : Int32)))) : mm_E kX6_receive 212 [.ref 81, .int x1, .int x2, .int x3, .int x4, .int x5] [] v c K := by
  refine e_run 10 (pc1 := 228) (L1 := [.ref 81, .int x1, .int x2, .int x3, .int x4, .int x5]) (S1 := [.int (((v 81 8) + (1 : Int32)) - (1 : Int32))]) (v1 := mm_up v 81 8 ((v 81 8) + (1 : Int32))) rfl ?_
  exact e_iret (ty := .int) rfl rfl rfl g
theorem bX6_move_0 {x1 : Int32} {x2 : Int32} {x3 : Int32} {x4 : Int32} {v : mmM} {c : Nat} {K : mmO → mmM → Prop} (hc : c + mm_mc kX6_isLot ≤ mm_mc kX6_move) (g : mm_M kX6_isLot [.ref 81, .int x1] v (mm_Kc kX6_move 5 [.ref 81, .int x1, .int x2, .int x3, .int x4] [] (c + mm_mc kX6_isLot) K)) : mm_E kX6_move 0 [.ref 81, .int x1, .int x2, .int x3, .int x4] [] v c K := by
  refine e_run 2 (pc1 := 2) (L1 := [.ref 81, .int x1, .int x2, .int x3, .int x4]) (S1 := [.int x1, .ref 81]) (v1 := v) rfl ?_
  exact e_cl (j := kX6_isLot) rfl hc g
theorem bX6_move_5 {x1 : Int32} {x2 : Int32} {x3 : Int32} {x4 : Int32} {y0 : Int32} {v : mmM} {c : Nat} {K : mmO → mmM → Prop} (g1 : y0 = 0 → mm_E kX6_move 22 [.ref 81, .int x1, .int x2, .int x3, .int x4] [] v c K) (g2 : ¬ y0 = 0 → mm_E kX6_move 8 [.ref 81, .int x1, .int x2, .int x3, .int x4] [] v c K) : mm_E kX6_move 5 [.ref 81, .int x1, .int x2, .int x3, .int x4] [.int y0] v c K := by
  exact e_if (p := y0 = 0) rfl g1 g2
theorem bX6_move_8 {x1 : Int32} {x2 : Int32} {x3 : Int32} {x4 : Int32} {v : mmM} {c : Nat} {K : mmO → mmM → Prop} (hc : c + mm_mc kX6_isBin ≤ mm_mc kX6_move) (g : mm_M kX6_isBin [.int x2] v (mm_Kc kX6_move 12 [.ref 81, .int x1, .int x2, .int x3, .int x4] [] (c + mm_mc kX6_isBin) K)) : mm_E kX6_move 8 [.ref 81, .int x1, .int x2, .int x3, .int x4] [] v c K := by
  refine e_run 1 (pc1 := 9) (L1 := [.ref 81, .int x1, .int x2, .int x3, .int x4]) (S1 := [.int x2]) (v1 := v) rfl ?_
  exact e_cl (j := kX6_isBin) rfl hc g
theorem bX6_move_12 {x1 : Int32} {x2 : Int32} {x3 : Int32} {x4 : Int32} {y0 : Int32} {v : mmM} {c : Nat} {K : mmO → mmM → Prop} (g1 : y0 = 0 → mm_E kX6_move 22 [.ref 81, .int x1, .int x2, .int x3, .int x4] [] v c K) (g2 : ¬ y0 = 0 → mm_E kX6_move 15 [.ref 81, .int x1, .int x2, .int x3, .int x4] [] v c K) : mm_E kX6_move 12 [.ref 81, .int x1, .int x2, .int x3, .int x4] [.int y0] v c K := by
  exact e_if (p := y0 = 0) rfl g1 g2
theorem bX6_move_15 {x1 : Int32} {x2 : Int32} {x3 : Int32} {x4 : Int32} {v : mmM} {c : Nat} {K : mmO → mmM → Prop} (hc : c + mm_mc kX6_isBin ≤ mm_mc kX6_move) (g : mm_M kX6_isBin [.int x3] v (mm_Kc kX6_move 19 [.ref 81, .int x1, .int x2, .int x3, .int x4] [] (c + mm_mc kX6_isBin) K)) : mm_E kX6_move 15 [.ref 81, .int x1, .int x2, .int x3, .int x4] [] v c K := by
  refine e_run 1 (pc1 := 16) (L1 := [.ref 81, .int x1, .int x2, .int x3, .int x4]) (S1 := [.int x3]) (v1 := v) rfl ?_
  exact e_cl (j := kX6_isBin) rfl hc g
theorem bX6_move_19 {x1 : Int32} {x2 : Int32} {x3 : Int32} {x4 : Int32} {y0 : Int32} {v : mmM} {c : Nat} {K : mmO → mmM → Prop} (g1 : y0 = 0 → mm_E kX6_move 22 [.ref 81, .int x1, .int x2, .int x3, .int x4] [] v c K) (g2 : ¬ y0 = 0 → mm_E kX6_move 28 [.ref 81, .int x1, .int x2, .int x3, .int x4] [] v c K) : mm_E kX6_move 19 [.ref 81, .int x1, .int x2, .int x3, .int x4] [.int y0] v c K := by
  exact e_if (p := y0 = 0) rfl g1 g2
theorem bX6_move_22 {x1 : Int32} {x2 : Int32} {x3 : Int32} {x4 : Int32} {v : mmM} {c : Nat} {K : mmO → mmM → Prop} (hc : c + mm_mc kX6_raises ≤ mm_mc kX6_move) (g : mm_M kX6_raises [.ref 81, .int (1 : Int32)] v (mm_Kc kX6_move 27 [.ref 81, .int x1, .int x2, .int x3, .int x4] [] (c + mm_mc kX6_raises) K)) : mm_E kX6_move 22 [.ref 81, .int x1, .int x2, .int x3, .int x4] [] v c K := by
  refine e_run 2 (pc1 := 24) (L1 := [.ref 81, .int x1, .int x2, .int x3, .int x4]) (S1 := [.int (1 : Int32), .ref 81]) (v1 := v) rfl ?_
  exact e_cl (j := kX6_raises) rfl hc g
theorem bX6_move_27 {x1 : Int32} {x2 : Int32} {x3 : Int32} {x4 : Int32} {y0 : Int32} {v : mmM} {c : Nat} {K : mmO → mmM → Prop} (g : K (.inl (some (.int y0))) v) : mm_E kX6_move 27 [.ref 81, .int x1, .int x2, .int x3, .int x4] [.int y0] v c K := by
  exact e_iret (ty := .int) rfl rfl rfl g
theorem bX6_move_28 {x1 : Int32} {x2 : Int32} {x3 : Int32} {x4 : Int32} {v : mmM} {c : Nat} {K : mmO → mmM → Prop} (hc : c + mm_mc kX6_in ≤ mm_mc kX6_move) (g : mm_M kX6_in [.int x4, .int (1 : Int32), .int (30 : Int32)] v (mm_Kc kX6_move 36 [.ref 81, .int x1, .int x2, .int x3, .int x4] [] (c + mm_mc kX6_in) K)) : mm_E kX6_move 28 [.ref 81, .int x1, .int x2, .int x3, .int x4] [] v c K := by
  refine e_run 3 (pc1 := 33) (L1 := [.ref 81, .int x1, .int x2, .int x3, .int x4]) (S1 := [.int (30 : Int32), .int (1 : Int32), .int x4]) (v1 := v) rfl ?_
  exact e_cl (j := kX6_in) rfl hc g
theorem bX6_move_36 {x1 : Int32} {x2 : Int32} {x3 : Int32} {x4 : Int32} {y0 : Int32} {v : mmM} {c : Nat} {K : mmO → mmM → Prop} (g1 : y0 = 0 → mm_E kX6_move 39 [.ref 81, .int x1, .int x2, .int x3, .int x4] [] v c K) (g2 : ¬ y0 = 0 → mm_E kX6_move 45 [.ref 81, .int x1, .int x2, .int x3, .int x4] [] v c K) : mm_E kX6_move 36 [.ref 81, .int x1, .int x2, .int x3, .int x4] [.int y0] v c K := by
  exact e_if (p := y0 = 0) rfl g1 g2
theorem bX6_move_39 {x1 : Int32} {x2 : Int32} {x3 : Int32} {x4 : Int32} {v : mmM} {c : Nat} {K : mmO → mmM → Prop} (hc : c + mm_mc kX6_raises ≤ mm_mc kX6_move) (g : mm_M kX6_raises [.ref 81, .int (2 : Int32)] v (mm_Kc kX6_move 44 [.ref 81, .int x1, .int x2, .int x3, .int x4] [] (c + mm_mc kX6_raises) K)) : mm_E kX6_move 39 [.ref 81, .int x1, .int x2, .int x3, .int x4] [] v c K := by
  refine e_run 2 (pc1 := 41) (L1 := [.ref 81, .int x1, .int x2, .int x3, .int x4]) (S1 := [.int (2 : Int32), .ref 81]) (v1 := v) rfl ?_
  exact e_cl (j := kX6_raises) rfl hc g
theorem bX6_move_44 {x1 : Int32} {x2 : Int32} {x3 : Int32} {x4 : Int32} {y0 : Int32} {v : mmM} {c : Nat} {K : mmO → mmM → Prop} (g : K (.inl (some (.int y0))) v) : mm_E kX6_move 44 [.ref 81, .int x1, .int x2, .int x3, .int x4] [.int y0] v c K := by
  exact e_iret (ty := .int) rfl rfl rfl g
theorem bX6_move_45 {x1 : Int32} {x2 : Int32} {x3 : Int32} {x4 : Int32} {v : mmM} {c : Nat} {K : mmO → mmM → Prop} (g1 : (v 81 24) = (150 : Int32) → mm_E kX6_move 55 [.ref 81, .int x1, .int x2, .int x3, .int x4] [] v c K) (g2 : ¬ (v 81 24) = (150 : Int32) → mm_E kX6_move 61 [.ref 81, .int x1, .int x2, .int x3, .int x4] [] v c K) : mm_E kX6_move 45 [.ref 81, .int x1, .int x2, .int x3, .int x4] [] v c K := by
  refine e_run 3 (pc1 := 52) (L1 := [.ref 81, .int x1, .int x2, .int x3, .int x4]) (S1 := [.int (150 : Int32), .int (v 81 24)]) (v1 := v) rfl ?_
  exact e_if (p := (v 81 24) = (150 : Int32)) rfl g1 g2
theorem bX6_move_55 {x1 : Int32} {x2 : Int32} {x3 : Int32} {x4 : Int32} {v : mmM} {c : Nat} {K : mmO → mmM → Prop} (hc : c + mm_mc kX6_raises ≤ mm_mc kX6_move) (g : mm_M kX6_raises [.ref 81, .int (3 : Int32)] v (mm_Kc kX6_move 60 [.ref 81, .int x1, .int x2, .int x3, .int x4] [] (c + mm_mc kX6_raises) K)) : mm_E kX6_move 55 [.ref 81, .int x1, .int x2, .int x3, .int x4] [] v c K := by
  refine e_run 2 (pc1 := 57) (L1 := [.ref 81, .int x1, .int x2, .int x3, .int x4]) (S1 := [.int (3 : Int32), .ref 81]) (v1 := v) rfl ?_
  exact e_cl (j := kX6_raises) rfl hc g
theorem bX6_move_60 {x1 : Int32} {x2 : Int32} {x3 : Int32} {x4 : Int32} {y0 : Int32} {v : mmM} {c : Nat} {K : mmO → mmM → Prop} (g : K (.inl (some (.int y0))) v) : mm_E kX6_move 60 [.ref 81, .int x1, .int x2, .int x3, .int x4] [.int y0] v c K := by
  exact e_iret (ty := .int) rfl rfl rfl g
theorem bX6_move_61 {x1 : Int32} {x2 : Int32} {x3 : Int32} {x4 : Int32} {v : mmM} {c : Nat} {K : mmO → mmM → Prop} (h1 : mm_in x1 24 = true) (h2 : mm_in x2 40 = true) (g1 : x4 ≤ (v (93 + x1.toNatClampNeg) x2.toNatClampNeg) → mm_E kX6_move 80 [.ref 81, .int x1, .int x2, .int x3, .int x4] [] v c K) (g2 : ¬ x4 ≤ (v (93 + x1.toNatClampNeg) x2.toNatClampNeg) → mm_E kX6_move 74 [.ref 81, .int x1, .int x2, .int x3, .int x4] [] v c K) : mm_E kX6_move 61 [.ref 81, .int x1, .int x2, .int x3, .int x4] [] v c K := by
  refine e_run 3 (pc1 := 66) (L1 := [.ref 81, .int x1, .int x2, .int x3, .int x4]) (S1 := [.int x1, .ref 92]) (v1 := v) rfl ?_
  refine e_aald rfl rfl (by decide) h1 ?_
  refine e_run 1 (pc1 := 68) (L1 := [.ref 81, .int x1, .int x2, .int x3, .int x4]) (S1 := [.int x2, .ref (93 + x1.toNatClampNeg)]) (v1 := v) rfl ?_
  refine e_iald rfl (mm_rows (P := fun x => mm_sh (93 + x) = (0, 40, 0, [])) (by decide +kernel) (mm_in_lt h1)) (by have := (mm_in_lt h1); show _ < 244; omega) h2 ?_
  refine e_run 1 (pc1 := 71) (L1 := [.ref 81, .int x1, .int x2, .int x3, .int x4]) (S1 := [.int x4, .int (v (93 + x1.toNatClampNeg) x2.toNatClampNeg)]) (v1 := v) rfl ?_
  exact e_if (p := x4 ≤ (v (93 + x1.toNatClampNeg) x2.toNatClampNeg)) rfl g1 g2
theorem bX6_move_74 {x1 : Int32} {x2 : Int32} {x3 : Int32} {x4 : Int32} {v : mmM} {c : Nat} {K : mmO → mmM → Prop} (hc : c + mm_mc kX6_raises ≤ mm_mc kX6_move) (g : mm_M kX6_raises [.ref 81, .int (4 : Int32)] v (mm_Kc kX6_move 79 [.ref 81, .int x1, .int x2, .int x3, .int x4] [] (c + mm_mc kX6_raises) K)) : mm_E kX6_move 74 [.ref 81, .int x1, .int x2, .int x3, .int x4] [] v c K := by
  refine e_run 2 (pc1 := 76) (L1 := [.ref 81, .int x1, .int x2, .int x3, .int x4]) (S1 := [.int (4 : Int32), .ref 81]) (v1 := v) rfl ?_
  exact e_cl (j := kX6_raises) rfl hc g
theorem bX6_move_79 {x1 : Int32} {x2 : Int32} {x3 : Int32} {x4 : Int32} {y0 : Int32} {v : mmM} {c : Nat} {K : mmO → mmM → Prop} (g : K (.inl (some (.int y0))) v) : mm_E kX6_move 79 [.ref 81, .int x1, .int x2, .int x3, .int x4] [.int y0] v c K := by
  exact e_iret (ty := .int) rfl rfl rfl g
theorem bX6_move_80 {x1 : Int32} {x2 : Int32} {x3 : Int32} {x4 : Int32} {v : mmM} {c : Nat} {K : mmO → mmM → Prop} (g1 : x2 = x3 → mm_E kX6_move 98 [.ref 81, .int x1, .int x2, .int x3, .int x4] [] v c K) (g2 : ¬ x2 = x3 → mm_E kX6_move 85 [.ref 81, .int x1, .int x2, .int x3, .int x4] [] v c K) : mm_E kX6_move 80 [.ref 81, .int x1, .int x2, .int x3, .int x4] [] v c K := by
  refine e_run 2 (pc1 := 82) (L1 := [.ref 81, .int x1, .int x2, .int x3, .int x4]) (S1 := [.int x3, .int x2]) (v1 := v) rfl ?_
  exact e_if (p := x2 = x3) rfl g1 g2
theorem bX6_move_85 {x1 : Int32} {x2 : Int32} {x3 : Int32} {x4 : Int32} {v : mmM} {c : Nat} {K : mmO → mmM → Prop} (hc : c + mm_mc kX6_load0 ≤ mm_mc kX6_move) (g : mm_M kX6_load0 [.ref 81, .int x3] v (mm_Kc kX6_move 90 [.ref 81, .int x1, .int x2, .int x3, .int x4] [] (c + mm_mc kX6_load0) K)) : mm_E kX6_move 85 [.ref 81, .int x1, .int x2, .int x3, .int x4] [] v c K := by
  refine e_run 2 (pc1 := 87) (L1 := [.ref 81, .int x1, .int x2, .int x3, .int x4]) (S1 := [.int x3, .ref 81]) (v1 := v) rfl ?_
  exact e_cl (j := kX6_load0) rfl hc g
theorem bX6_move_90 {x1 : Int32} {x2 : Int32} {x3 : Int32} {x4 : Int32} {y0 : Int32} {v : mmM} {c : Nat} {K : mmO → mmM → Prop} (g1 : (y0 + x4) ≤ (30 : Int32) → mm_E kX6_move 104 [.ref 81, .int x1, .int x2, .int x3, .int x4] [] v c K) (g2 : ¬ (y0 + x4) ≤ (30 : Int32) → mm_E kX6_move 98 [.ref 81, .int x1, .int x2, .int x3, .int x4] [] v c K) : mm_E kX6_move 90 [.ref 81, .int x1, .int x2, .int x3, .int x4] [.int y0] v c K := by
  refine e_run 3 (pc1 := 95) (L1 := [.ref 81, .int x1, .int x2, .int x3, .int x4]) (S1 := [.int (30 : Int32), .int (y0 + x4)]) (v1 := v) rfl ?_
  exact e_if (p := (y0 + x4) ≤ (30 : Int32)) rfl g1 g2
theorem bX6_move_98 {x1 : Int32} {x2 : Int32} {x3 : Int32} {x4 : Int32} {v : mmM} {c : Nat} {K : mmO → mmM → Prop} (hc : c + mm_mc kX6_raises ≤ mm_mc kX6_move) (g : mm_M kX6_raises [.ref 81, .int (5 : Int32)] v (mm_Kc kX6_move 103 [.ref 81, .int x1, .int x2, .int x3, .int x4] [] (c + mm_mc kX6_raises) K)) : mm_E kX6_move 98 [.ref 81, .int x1, .int x2, .int x3, .int x4] [] v c K := by
  refine e_run 2 (pc1 := 100) (L1 := [.ref 81, .int x1, .int x2, .int x3, .int x4]) (S1 := [.int (5 : Int32), .ref 81]) (v1 := v) rfl ?_
  exact e_cl (j := kX6_raises) rfl hc g
theorem bX6_move_103 {x1 : Int32} {x2 : Int32} {x3 : Int32} {x4 : Int32} {y0 : Int32} {v : mmM} {c : Nat} {K : mmO → mmM → Prop} (g : K (.inl (some (.int y0))) v) : mm_E kX6_move 103 [.ref 81, .int x1, .int x2, .int x3, .int x4] [.int y0] v c K := by
  exact e_iret (ty := .int) rfl rfl rfl g
theorem bX6_move_104 {x1 : Int32} {x2 : Int32} {x3 : Int32} {x4 : Int32} {v : mmM} {c : Nat} {K : mmO → mmM → Prop} (hc : c + mm_mc kX6_puts ≤ mm_mc kX6_move) (g : mm_M kX6_puts [.ref 81, .int x1, .int x2, .int (-x4)] (mm_up v 81 26 (0 : Int32)) (mm_Kc kX6_move 118 [.ref 81, .int x1, .int x2, .int x3, .int x4] [] (c + mm_mc kX6_puts) K)) : mm_E kX6_move 104 [.ref 81, .int x1, .int x2, .int x3, .int x4] [] v c K := by
  refine e_run 8 (pc1 := 115) (L1 := [.ref 81, .int x1, .int x2, .int x3, .int x4]) (S1 := [.int (-x4), .int x2, .int x1, .ref 81]) (v1 := mm_up v 81 26 (0 : Int32)) rfl ?_
  exact e_cl (j := kX6_puts) rfl hc g
theorem bX6_move_118 {x1 : Int32} {x2 : Int32} {x3 : Int32} {x4 : Int32} {v : mmM} {c : Nat} {K : mmO → mmM → Prop} (hc : c + mm_mc kX6_puts ≤ mm_mc kX6_move) (g : mm_M kX6_puts [.ref 81, .int x1, .int x3, .int x4] v (mm_Kc kX6_move 126 [.ref 81, .int x1, .int x2, .int x3, .int x4] [] (c + mm_mc kX6_puts) K)) : mm_E kX6_move 118 [.ref 81, .int x1, .int x2, .int x3, .int x4] [] v c K := by
  refine e_run 4 (pc1 := 123) (L1 := [.ref 81, .int x1, .int x2, .int x3, .int x4]) (S1 := [.int x4, .int x3, .int x1, .ref 81]) (v1 := v) rfl ?_
  exact e_cl (j := kX6_puts) rfl hc g
theorem bX6_move_126 {x1 : Int32} {x2 : Int32} {x3 : Int32} {x4 : Int32} {v : mmM} {c : Nat} {K : mmO → mmM → Prop} (hc : c + mm_mc kX6_writes ≤ mm_mc kX6_move) (g : mm_M kX6_writes [.ref 81, .int (109 : Int32), .int x1, .int x2, .int x3, .int x4] v (mm_Kc kX6_move 137 [.ref 81, .int x1, .int x2, .int x3, .int x4] [] (c + mm_mc kX6_writes) K)) : mm_E kX6_move 126 [.ref 81, .int x1, .int x2, .int x3, .int x4] [] v c K := by
  refine e_run 6 (pc1 := 134) (L1 := [.ref 81, .int x1, .int x2, .int x3, .int x4]) (S1 := [.int x4, .int x3, .int x2, .int x1, .int (109 : Int32), .ref 81]) (v1 := v) rfl ?_
  exact e_cl (j := kX6_writes) rfl hc g
theorem bX6_move_137 {x1 : Int32} {x2 : Int32} {x3 : Int32} {x4 : Int32} {v : mmM} {c : Nat} {K : mmO → mmM → Prop} (h1 : mm_in x1 24 = true) (h2 : mm_in x3 40 = true) (g : K (.inl (some (.int (v (93 + x1.toNatClampNeg) x3.toNatClampNeg)))) v) : mm_E kX6_move 137 [.ref 81, .int x1, .int x2, .int x3, .int x4] [] v c K := by
  refine e_run 3 (pc1 := 142) (L1 := [.ref 81, .int x1, .int x2, .int x3, .int x4]) (S1 := [.int x1, .ref 92]) (v1 := v) rfl ?_
  refine e_aald rfl rfl (by decide) h1 ?_
  refine e_run 1 (pc1 := 144) (L1 := [.ref 81, .int x1, .int x2, .int x3, .int x4]) (S1 := [.int x3, .ref (93 + x1.toNatClampNeg)]) (v1 := v) rfl ?_
  refine e_iald rfl (mm_rows (P := fun x => mm_sh (93 + x) = (0, 40, 0, [])) (by decide +kernel) (mm_in_lt h1)) (by have := (mm_in_lt h1); show _ < 244; omega) h2 ?_
  exact e_iret (ty := .int) rfl rfl rfl g
theorem bX6_dispose_0 {x1 : Int32} {l2 : Value} {l3 : Value} {l4 : Value} {l5 : Value} {l6 : Value} {v : mmM} {c : Nat} {K : mmO → mmM → Prop} (hc : c + mm_mc kX6_isLot ≤ mm_mc kX6_dispose) (g : mm_M kX6_isLot [.ref 81, .int x1] v (mm_Kc kX6_dispose 5 [.ref 81, .int x1, l2, l3, l4, l5, l6] [] (c + mm_mc kX6_isLot) K)) : mm_E kX6_dispose 0 [.ref 81, .int x1, l2, l3, l4, l5, l6] [] v c K := by
  refine e_run 2 (pc1 := 2) (L1 := [.ref 81, .int x1, l2, l3, l4, l5, l6]) (S1 := [.int x1, .ref 81]) (v1 := v) rfl ?_
  exact e_cl (j := kX6_isLot) rfl hc g
theorem bX6_dispose_5 {x1 : Int32} {l2 : Value} {l3 : Value} {l4 : Value} {l5 : Value} {l6 : Value} {y0 : Int32} {v : mmM} {c : Nat} {K : mmO → mmM → Prop} (g1 : y0 = 0 → mm_E kX6_dispose 8 [.ref 81, .int x1, l2, l3, l4, l5, l6] [] v c K) (g2 : ¬ y0 = 0 → mm_E kX6_dispose 14 [.ref 81, .int x1, l2, l3, l4, l5, l6] [] v c K) : mm_E kX6_dispose 5 [.ref 81, .int x1, l2, l3, l4, l5, l6] [.int y0] v c K := by
  exact e_if (p := y0 = 0) rfl g1 g2
theorem bX6_dispose_8 {x1 : Int32} {l2 : Value} {l3 : Value} {l4 : Value} {l5 : Value} {l6 : Value} {v : mmM} {c : Nat} {K : mmO → mmM → Prop} (hc : c + mm_mc kX6_raises ≤ mm_mc kX6_dispose) (g : mm_M kX6_raises [.ref 81, .int (1 : Int32)] v (mm_Kc kX6_dispose 13 [.ref 81, .int x1, l2, l3, l4, l5, l6] [] (c + mm_mc kX6_raises) K)) : mm_E kX6_dispose 8 [.ref 81, .int x1, l2, l3, l4, l5, l6] [] v c K := by
  refine e_run 2 (pc1 := 10) (L1 := [.ref 81, .int x1, l2, l3, l4, l5, l6]) (S1 := [.int (1 : Int32), .ref 81]) (v1 := v) rfl ?_
  exact e_cl (j := kX6_raises) rfl hc g
theorem bX6_dispose_13 {x1 : Int32} {l2 : Value} {l3 : Value} {l4 : Value} {l5 : Value} {l6 : Value} {y0 : Int32} {v : mmM} {c : Nat} {K : mmO → mmM → Prop} (g : K (.inl (some (.int y0))) v) : mm_E kX6_dispose 13 [.ref 81, .int x1, l2, l3, l4, l5, l6] [.int y0] v c K := by
  exact e_iret (ty := .int) rfl rfl rfl g
theorem bX6_dispose_14 {x1 : Int32} {l2 : Value} {l3 : Value} {l4 : Value} {l5 : Value} {l6 : Value} {v : mmM} {c : Nat} {K : mmO → mmM → Prop} (g : mm_E kX6_dispose 18 [.ref 81, .int x1, .int (0 : Int32), .int (0 : Int32), l4, l5, l6] [] v c K) : mm_E kX6_dispose 14 [.ref 81, .int x1, l2, l3, l4, l5, l6] [] v c K := by
  refine e_run 4 (pc1 := 18) (L1 := [.ref 81, .int x1, .int (0 : Int32), .int (0 : Int32), l4, l5, l6]) (S1 := []) (v1 := v) rfl ?_
  exact g
theorem bX6_dispose_18 {x1 : Int32} {x2 : Int32} {x3 : Int32} {l4 : Value} {l5 : Value} {l6 : Value} {v : mmM} {c : Nat} {K : mmO → mmM → Prop} (g1 : (40 : Int32) ≤ x3 → mm_E kX6_dispose 49 [.ref 81, .int x1, .int x2, .int x3, l4, l5, l6] [] v c K) (g2 : ¬ (40 : Int32) ≤ x3 → mm_E kX6_dispose 24 [.ref 81, .int x1, .int x2, .int x3, l4, l5, l6] [] v c K) : mm_E kX6_dispose 18 [.ref 81, .int x1, .int x2, .int x3, l4, l5, l6] [] v c K := by
  refine e_run 2 (pc1 := 21) (L1 := [.ref 81, .int x1, .int x2, .int x3, l4, l5, l6]) (S1 := [.int (40 : Int32), .int x3]) (v1 := v) rfl ?_
  exact e_if (p := (40 : Int32) ≤ x3) rfl g1 g2
theorem bX6_dispose_24 {x1 : Int32} {x2 : Int32} {x3 : Int32} {l4 : Value} {l5 : Value} {l6 : Value} {v : mmM} {c : Nat} {K : mmO → mmM → Prop} (h1 : mm_in x1 24 = true) (h2 : mm_in x3 40 = true) (g1 : (v (93 + x1.toNatClampNeg) x3.toNatClampNeg) ≤ 0 → mm_E kX6_dispose 40 [.ref 81, .int x1, .int x2, .int x3, l4, l5, l6] [.int x2] v c K) (g2 : ¬ (v (93 + x1.toNatClampNeg) x3.toNatClampNeg) ≤ 0 → mm_E kX6_dispose 36 [.ref 81, .int x1, .int x2, .int x3, l4, l5, l6] [.int x2] v c K) : mm_E kX6_dispose 24 [.ref 81, .int x1, .int x2, .int x3, l4, l5, l6] [] v c K := by
  refine e_run 4 (pc1 := 30) (L1 := [.ref 81, .int x1, .int x2, .int x3, l4, l5, l6]) (S1 := [.int x1, .ref 92, .int x2]) (v1 := v) rfl ?_
  refine e_aald rfl rfl (by decide) h1 ?_
  refine e_run 1 (pc1 := 32) (L1 := [.ref 81, .int x1, .int x2, .int x3, l4, l5, l6]) (S1 := [.int x3, .ref (93 + x1.toNatClampNeg), .int x2]) (v1 := v) rfl ?_
  refine e_iald rfl (mm_rows (P := fun x => mm_sh (93 + x) = (0, 40, 0, [])) (by decide +kernel) (mm_in_lt h1)) (by have := (mm_in_lt h1); show _ < 244; omega) h2 ?_
  exact e_if (p := (v (93 + x1.toNatClampNeg) x3.toNatClampNeg) ≤ 0) rfl g1 g2
theorem bX6_dispose_36 {x1 : Int32} {x2 : Int32} {x3 : Int32} {l4 : Value} {l5 : Value} {l6 : Value} {y0 : Int32} {v : mmM} {c : Nat} {K : mmO → mmM → Prop} (g : mm_E kX6_dispose 41 [.ref 81, .int x1, .int x2, .int x3, l4, l5, l6] [.int (1 : Int32), .int y0] v c K) : mm_E kX6_dispose 36 [.ref 81, .int x1, .int x2, .int x3, l4, l5, l6] [.int y0] v c K := by
  refine e_run 2 (pc1 := 41) (L1 := [.ref 81, .int x1, .int x2, .int x3, l4, l5, l6]) (S1 := [.int (1 : Int32), .int y0]) (v1 := v) rfl ?_
  exact g
theorem bX6_dispose_40 {x1 : Int32} {x2 : Int32} {x3 : Int32} {l4 : Value} {l5 : Value} {l6 : Value} {y0 : Int32} {v : mmM} {c : Nat} {K : mmO → mmM → Prop} (g : mm_E kX6_dispose 41 [.ref 81, .int x1, .int x2, .int x3, l4, l5, l6] [.int (0 : Int32), .int y0] v c K) : mm_E kX6_dispose 40 [.ref 81, .int x1, .int x2, .int x3, l4, l5, l6] [.int y0] v c K := by
  refine e_run 1 (pc1 := 41) (L1 := [.ref 81, .int x1, .int x2, .int x3, l4, l5, l6]) (S1 := [.int (0 : Int32), .int y0]) (v1 := v) rfl ?_
  exact g
theorem bX6_dispose_41 {x1 : Int32} {x2 : Int32} {x3 : Int32} {l4 : Value} {l5 : Value} {l6 : Value} {y0 : Int32} {y1 : Int32} {v : mmM} {c : Nat} {K : mmO → mmM → Prop} (g : mm_E kX6_dispose 18 [.ref 81, .int x1, .int (y0 + y1), .int (x3 + (1 : Int32)), l4, l5, l6] [] v c K) : mm_E kX6_dispose 41 [.ref 81, .int x1, .int x2, .int x3, l4, l5, l6] [.int y1, .int y0] v c K := by
  refine e_run 4 (pc1 := 18) (L1 := [.ref 81, .int x1, .int (y0 + y1), .int (x3 + (1 : Int32)), l4, l5, l6]) (S1 := []) (v1 := v) rfl ?_
  exact g
theorem bX6_dispose_49 {x1 : Int32} {x2 : Int32} {x3 : Int32} {l4 : Value} {l5 : Value} {l6 : Value} {v : mmM} {c : Nat} {K : mmO → mmM → Prop} (g1 : x2 = 0 → mm_E kX6_dispose 54 [.ref 81, .int x1, .int x2, .int x3, l4, l5, l6] [.ref 81] v c K) (g2 : ¬ x2 = 0 → mm_E kX6_dispose 58 [.ref 81, .int x1, .int x2, .int x3, l4, l5, l6] [.ref 81] v c K) : mm_E kX6_dispose 49 [.ref 81, .int x1, .int x2, .int x3, l4, l5, l6] [] v c K := by
  refine e_run 2 (pc1 := 51) (L1 := [.ref 81, .int x1, .int x2, .int x3, l4, l5, l6]) (S1 := [.int x2, .ref 81]) (v1 := v) rfl ?_
  exact e_if (p := x2 = 0) rfl g1 g2
theorem bX6_dispose_54 {x1 : Int32} {x2 : Int32} {x3 : Int32} {l4 : Value} {l5 : Value} {l6 : Value} {v : mmM} {c : Nat} {K : mmO → mmM → Prop} (g : mm_E kX6_dispose 92 [.ref 81, .int x1, .int x2, .int x3, l4, l5, l6] [.int (2 : Int32), .ref 81] v c K) : mm_E kX6_dispose 54 [.ref 81, .int x1, .int x2, .int x3, l4, l5, l6] [.ref 81] v c K := by
  refine e_run 2 (pc1 := 92) (L1 := [.ref 81, .int x1, .int x2, .int x3, l4, l5, l6]) (S1 := [.int (2 : Int32), .ref 81]) (v1 := v) rfl ?_
  exact g
theorem bX6_dispose_58 {x1 : Int32} {x2 : Int32} {x3 : Int32} {l4 : Value} {l5 : Value} {l6 : Value} {v : mmM} {c : Nat} {K : mmO → mmM → Prop} (h1 : mm_in x1 24 = true) (g1 : (v 91 x1.toNatClampNeg) < (v 81 25) → mm_E kX6_dispose 75 [.ref 81, .int x1, .int x2, .int x3, l4, l5, l6] [.ref 81] v c K) (g2 : ¬ (v 91 x1.toNatClampNeg) < (v 81 25) → mm_E kX6_dispose 71 [.ref 81, .int x1, .int x2, .int x3, l4, l5, l6] [.ref 81] v c K) : mm_E kX6_dispose 58 [.ref 81, .int x1, .int x2, .int x3, l4, l5, l6] [.ref 81] v c K := by
  refine e_run 3 (pc1 := 63) (L1 := [.ref 81, .int x1, .int x2, .int x3, l4, l5, l6]) (S1 := [.int x1, .ref 91, .ref 81]) (v1 := v) rfl ?_
  refine e_iald rfl rfl (by decide) h1 ?_
  refine e_run 2 (pc1 := 68) (L1 := [.ref 81, .int x1, .int x2, .int x3, l4, l5, l6]) (S1 := [.int (v 81 25), .int (v 91 x1.toNatClampNeg), .ref 81]) (v1 := v) rfl ?_
  exact e_if (p := (v 91 x1.toNatClampNeg) < (v 81 25)) rfl g1 g2
theorem bX6_dispose_71 {x1 : Int32} {x2 : Int32} {x3 : Int32} {l4 : Value} {l5 : Value} {l6 : Value} {v : mmM} {c : Nat} {K : mmO → mmM → Prop} (g : mm_E kX6_dispose 92 [.ref 81, .int x1, .int x2, .int x3, l4, l5, l6] [.int (3 : Int32), .ref 81] v c K) : mm_E kX6_dispose 71 [.ref 81, .int x1, .int x2, .int x3, l4, l5, l6] [.ref 81] v c K := by
  refine e_run 2 (pc1 := 92) (L1 := [.ref 81, .int x1, .int x2, .int x3, l4, l5, l6]) (S1 := [.int (3 : Int32), .ref 81]) (v1 := v) rfl ?_
  exact g
theorem bX6_dispose_75 {x1 : Int32} {x2 : Int32} {x3 : Int32} {l4 : Value} {l5 : Value} {l6 : Value} {v : mmM} {c : Nat} {K : mmO → mmM → Prop} (g1 : ((v 81 24) + x2) ≤ (150 : Int32) → mm_E kX6_dispose 91 [.ref 81, .int x1, .int x2, .int x3, l4, l5, l6] [.ref 81] v c K) (g2 : ¬ ((v 81 24) + x2) ≤ (150 : Int32) → mm_E kX6_dispose 87 [.ref 81, .int x1, .int x2, .int x3, l4, l5, l6] [.ref 81] v c K) : mm_E kX6_dispose 75 [.ref 81, .int x1, .int x2, .int x3, l4, l5, l6] [.ref 81] v c K := by
  refine e_run 5 (pc1 := 84) (L1 := [.ref 81, .int x1, .int x2, .int x3, l4, l5, l6]) (S1 := [.int (150 : Int32), .int ((v 81 24) + x2), .ref 81]) (v1 := v) rfl ?_
  exact e_if (p := ((v 81 24) + x2) ≤ (150 : Int32)) rfl g1 g2
theorem bX6_dispose_87 {x1 : Int32} {x2 : Int32} {x3 : Int32} {l4 : Value} {l5 : Value} {l6 : Value} {v : mmM} {c : Nat} {K : mmO → mmM → Prop} (g : mm_E kX6_dispose 92 [.ref 81, .int x1, .int x2, .int x3, l4, l5, l6] [.int (4 : Int32), .ref 81] v c K) : mm_E kX6_dispose 87 [.ref 81, .int x1, .int x2, .int x3, l4, l5, l6] [.ref 81] v c K := by
  refine e_run 2 (pc1 := 92) (L1 := [.ref 81, .int x1, .int x2, .int x3, l4, l5, l6]) (S1 := [.int (4 : Int32), .ref 81]) (v1 := v) rfl ?_
  exact g
theorem bX6_dispose_91 {x1 : Int32} {x2 : Int32} {x3 : Int32} {l4 : Value} {l5 : Value} {l6 : Value} {v : mmM} {c : Nat} {K : mmO → mmM → Prop} (g : mm_E kX6_dispose 92 [.ref 81, .int x1, .int x2, .int x3, l4, l5, l6] [.int (0 : Int32), .ref 81] v c K) : mm_E kX6_dispose 91 [.ref 81, .int x1, .int x2, .int x3, l4, l5, l6] [.ref 81] v c K := by
  refine e_run 1 (pc1 := 92) (L1 := [.ref 81, .int x1, .int x2, .int x3, l4, l5, l6]) (S1 := [.int (0 : Int32), .ref 81]) (v1 := v) rfl ?_
  exact g
theorem bX6_dispose_92 {x1 : Int32} {x2 : Int32} {x3 : Int32} {l4 : Value} {l5 : Value} {l6 : Value} {y1 : Int32} {v : mmM} {c : Nat} {K : mmO → mmM → Prop} (g1 : y1 ≤ 0 → mm_E kX6_dispose 104 [.ref 81, .int x1, .int x2, .int x3, l4, l5, l6] [] (mm_up v 81 26 y1) c K) (g2 : ¬ y1 ≤ 0 → mm_E kX6_dispose 102 [.ref 81, .int x1, .int x2, .int x3, l4, l5, l6] [] (mm_up v 81 26 y1) c K) : mm_E kX6_dispose 92 [.ref 81, .int x1, .int x2, .int x3, l4, l5, l6] [.int y1, .ref 81] v c K := by
  refine e_run 3 (pc1 := 99) (L1 := [.ref 81, .int x1, .int x2, .int x3, l4, l5, l6]) (S1 := [.int y1]) (v1 := mm_up v 81 26 y1) rfl ?_
  exact e_if (p := y1 ≤ 0) rfl g1 g2
theorem bX6_dispose_102 {x1 : Int32} {x2 : Int32} {x3 : Int32} {l4 : Value} {l5 : Value} {l6 : Value} {v : mmM} {c : Nat} {K : mmO → mmM → Prop} (g : K (.inl (some (.int (0 : Int32)))) v) : mm_E kX6_dispose 102 [.ref 81, .int x1, .int x2, .int x3, l4, l5, l6] [] v c K := by
  refine e_run 1 (pc1 := 103) (L1 := [.ref 81, .int x1, .int x2, .int x3, l4, l5, l6]) (S1 := [.int (0 : Int32)]) (v1 := v) rfl ?_
  exact e_iret (ty := .int) rfl rfl rfl g
theorem bX6_dispose_104 {x1 : Int32} {x2 : Int32} {x3 : Int32} {l4 : Value} {l5 : Value} {l6 : Value} {v : mmM} {c : Nat} {K : mmO → mmM → Prop} (h1 : mm_in x1 24 = true) (g : mm_E kX6_dispose 114 [.ref 81, .int x1, .int x2, .int (v 117 x1.toNatClampNeg), .int (0 : Int32), l5, l6] [] v c K) : mm_E kX6_dispose 104 [.ref 81, .int x1, .int x2, .int x3, l4, l5, l6] [] v c K := by
  refine e_run 3 (pc1 := 109) (L1 := [.ref 81, .int x1, .int x2, .int x3, l4, l5, l6]) (S1 := [.int x1, .ref 117]) (v1 := v) rfl ?_
  refine e_iald rfl rfl (by decide) h1 ?_
  refine e_run 3 (pc1 := 114) (L1 := [.ref 81, .int x1, .int x2, .int (v 117 x1.toNatClampNeg), .int (0 : Int32), l5, l6]) (S1 := []) (v1 := v) rfl ?_
  exact g
theorem bX6_dispose_114 {x1 : Int32} {x2 : Int32} {x3 : Int32} {x4 : Int32} {l5 : Value} {l6 : Value} {v : mmM} {c : Nat} {K : mmO → mmM → Prop} (g1 : (40 : Int32) ≤ x4 → mm_E kX6_dispose 172 [.ref 81, .int x1, .int x2, .int x3, .int x4, l5, l6] [] v c K) (g2 : ¬ (40 : Int32) ≤ x4 → mm_E kX6_dispose 121 [.ref 81, .int x1, .int x2, .int x3, .int x4, l5, l6] [] v c K) : mm_E kX6_dispose 114 [.ref 81, .int x1, .int x2, .int x3, .int x4, l5, l6] [] v c K := by
  refine e_run 2 (pc1 := 118) (L1 := [.ref 81, .int x1, .int x2, .int x3, .int x4, l5, l6]) (S1 := [.int (40 : Int32), .int x4]) (v1 := v) rfl ?_
  exact e_if (p := (40 : Int32) ≤ x4) rfl g1 g2
theorem bX6_dispose_121 {x1 : Int32} {x2 : Int32} {x3 : Int32} {x4 : Int32} {l5 : Value} {l6 : Value} {v : mmM} {c : Nat} {K : mmO → mmM → Prop} (hc : c + mm_mc kX6_turned ≤ mm_mc kX6_dispose) (g : mm_M kX6_turned [.int x4] v (mm_Kc kX6_dispose 126 [.ref 81, .int x1, .int x2, .int x3, .int x4, l5, l6] [] (c + mm_mc kX6_turned) K)) : mm_E kX6_dispose 121 [.ref 81, .int x1, .int x2, .int x3, .int x4, l5, l6] [] v c K := by
  refine e_run 1 (pc1 := 123) (L1 := [.ref 81, .int x1, .int x2, .int x3, .int x4, l5, l6]) (S1 := [.int x4]) (v1 := v) rfl ?_
  exact e_cl (j := kX6_turned) rfl hc g
theorem bX6_dispose_126 {x1 : Int32} {x2 : Int32} {x3 : Int32} {x4 : Int32} {l5 : Value} {l6 : Value} {y0 : Int32} {v : mmM} {c : Nat} {K : mmO → mmM → Prop} (h1 : mm_in x1 24 = true) (h2 : mm_in y0 40 = true) (g1 : (v (93 + x1.toNatClampNeg) y0.toNatClampNeg) ≤ 0 → mm_E kX6_dispose 166 [.ref 81, .int x1, .int x2, .int x3, .int x4, .int y0, .int (v (93 + x1.toNatClampNeg) y0.toNatClampNeg)] [] v c K) (g2 : ¬ (v (93 + x1.toNatClampNeg) y0.toNatClampNeg) ≤ 0 → mm_E kX6_dispose 144 [.ref 81, .int x1, .int x2, .int x3, .int x4, .int y0, .int (v (93 + x1.toNatClampNeg) y0.toNatClampNeg)] [] v c K) : mm_E kX6_dispose 126 [.ref 81, .int x1, .int x2, .int x3, .int x4, l5, l6] [.int y0] v c K := by
  refine e_run 4 (pc1 := 133) (L1 := [.ref 81, .int x1, .int x2, .int x3, .int x4, .int y0, l6]) (S1 := [.int x1, .ref 92]) (v1 := v) rfl ?_
  refine e_aald rfl rfl (by decide) h1 ?_
  refine e_run 1 (pc1 := 136) (L1 := [.ref 81, .int x1, .int x2, .int x3, .int x4, .int y0, l6]) (S1 := [.int y0, .ref (93 + x1.toNatClampNeg)]) (v1 := v) rfl ?_
  refine e_iald rfl (mm_rows (P := fun x => mm_sh (93 + x) = (0, 40, 0, [])) (by decide +kernel) (mm_in_lt h1)) (by have := (mm_in_lt h1); show _ < 244; omega) h2 ?_
  refine e_run 2 (pc1 := 141) (L1 := [.ref 81, .int x1, .int x2, .int x3, .int x4, .int y0, .int (v (93 + x1.toNatClampNeg) y0.toNatClampNeg)]) (S1 := [.int (v (93 + x1.toNatClampNeg) y0.toNatClampNeg)]) (v1 := v) rfl ?_
  exact e_if (p := (v (93 + x1.toNatClampNeg) y0.toNatClampNeg) ≤ 0) rfl g1 g2
theorem bX6_dispose_144 {x1 : Int32} {x2 : Int32} {x3 : Int32} {x4 : Int32} {x5 : Int32} {x6 : Int32} {v : mmM} {c : Nat} {K : mmO → mmM → Prop} (hc : c + mm_mc kX6_puts ≤ mm_mc kX6_dispose) (g : mm_M kX6_puts [.ref 81, .int x1, .int x5, .int (-x6)] v (mm_Kc kX6_dispose 154 [.ref 81, .int x1, .int x2, .int x3, .int x4, .int x5, .int x6] [] (c + mm_mc kX6_puts) K)) : mm_E kX6_dispose 144 [.ref 81, .int x1, .int x2, .int x3, .int x4, .int x5, .int x6] [] v c K := by
  refine e_run 5 (pc1 := 151) (L1 := [.ref 81, .int x1, .int x2, .int x3, .int x4, .int x5, .int x6]) (S1 := [.int (-x6), .int x5, .int x1, .ref 81]) (v1 := v) rfl ?_
  exact e_cl (j := kX6_puts) rfl hc g
theorem bX6_dispose_154 {x1 : Int32} {x2 : Int32} {x3 : Int32} {x4 : Int32} {x5 : Int32} {x6 : Int32} {v : mmM} {c : Nat} {K : mmO → mmM → Prop} (hc : c + mm_mc kX6_writes ≤ mm_mc kX6_dispose) (g : mm_M kX6_writes [.ref 81, .int (100 : Int32), .int x1, .int x5, .int (-1 : Int32), .int x6] v (mm_Kc kX6_dispose 166 [.ref 81, .int x1, .int x2, .int x3, .int x4, .int x5, .int x6] [] (c + mm_mc kX6_writes) K)) : mm_E kX6_dispose 154 [.ref 81, .int x1, .int x2, .int x3, .int x4, .int x5, .int x6] [] v c K := by
  refine e_run 6 (pc1 := 163) (L1 := [.ref 81, .int x1, .int x2, .int x3, .int x4, .int x5, .int x6]) (S1 := [.int x6, .int (-1 : Int32), .int x5, .int x1, .int (100 : Int32), .ref 81]) (v1 := v) rfl ?_
  exact e_cl (j := kX6_writes) rfl hc g
theorem bX6_dispose_166 {x1 : Int32} {x2 : Int32} {x3 : Int32} {x4 : Int32} {x5 : Int32} {x6 : Int32} {v : mmM} {c : Nat} {K : mmO → mmM → Prop} (g : mm_E kX6_dispose 114 [.ref 81, .int x1, .int x2, .int x3, .int (x4 + (1 : Int32)), .int x5, .int x6] [] v c K) : mm_E kX6_dispose 166 [.ref 81, .int x1, .int x2, .int x3, .int x4, .int x5, .int x6] [] v c K := by
  refine e_run 2 (pc1 := 114) (L1 := [.ref 81, .int x1, .int x2, .int x3, .int (x4 + (1 : Int32)), .int x5, .int x6]) (S1 := []) (v1 := v) rfl ?_
  exact g
theorem bX6_dispose_172 {x1 : Int32} {x2 : Int32} {x3 : Int32} {x4 : Int32} {l5 : Value} {l6 : Value} {v : mmM} {c : Nat} {K : mmO → mmM → Prop} (g : K (.inl (some (.int x3))) v) : mm_E kX6_dispose 172 [.ref 81, .int x1, .int x2, .int x3, .int x4, l5, l6] [] v c K := by
  refine e_run 1 (pc1 := 173) (L1 := [.ref 81, .int x1, .int x2, .int x3, .int x4, l5, l6]) (S1 := [.int x3]) (v1 := v) rfl ?_
  exact e_iret (ty := .int) rfl rfl rfl g
theorem bX6_count_0 {x1 : Int32} {x2 : Int32} {x3 : Int32} {l4 : Value} {v : mmM} {c : Nat} {K : mmO → mmM → Prop} (hc : c + mm_mc kX6_isBin ≤ mm_mc kX6_count) (g : mm_M kX6_isBin [.int x1] v (mm_Kc kX6_count 4 [.ref 81, .int x1, .int x2, .int x3, l4] [] (c + mm_mc kX6_isBin) K)) : mm_E kX6_count 0 [.ref 81, .int x1, .int x2, .int x3, l4] [] v c K := by
  refine e_run 1 (pc1 := 1) (L1 := [.ref 81, .int x1, .int x2, .int x3, l4]) (S1 := [.int x1]) (v1 := v) rfl ?_
  exact e_cl (j := kX6_isBin) rfl hc g
theorem bX6_count_4 {x1 : Int32} {x2 : Int32} {x3 : Int32} {l4 : Value} {y0 : Int32} {v : mmM} {c : Nat} {K : mmO → mmM → Prop} (g1 : y0 = 0 → mm_E kX6_count 15 [.ref 81, .int x1, .int x2, .int x3, l4] [] v c K) (g2 : ¬ y0 = 0 → mm_E kX6_count 7 [.ref 81, .int x1, .int x2, .int x3, l4] [] v c K) : mm_E kX6_count 4 [.ref 81, .int x1, .int x2, .int x3, l4] [.int y0] v c K := by
  exact e_if (p := y0 = 0) rfl g1 g2
theorem bX6_count_7 {x1 : Int32} {x2 : Int32} {x3 : Int32} {l4 : Value} {v : mmM} {c : Nat} {K : mmO → mmM → Prop} (hc : c + mm_mc kX6_isLot ≤ mm_mc kX6_count) (g : mm_M kX6_isLot [.ref 81, .int x2] v (mm_Kc kX6_count 12 [.ref 81, .int x1, .int x2, .int x3, l4] [] (c + mm_mc kX6_isLot) K)) : mm_E kX6_count 7 [.ref 81, .int x1, .int x2, .int x3, l4] [] v c K := by
  refine e_run 2 (pc1 := 9) (L1 := [.ref 81, .int x1, .int x2, .int x3, l4]) (S1 := [.int x2, .ref 81]) (v1 := v) rfl ?_
  exact e_cl (j := kX6_isLot) rfl hc g
theorem bX6_count_12 {x1 : Int32} {x2 : Int32} {x3 : Int32} {l4 : Value} {y0 : Int32} {v : mmM} {c : Nat} {K : mmO → mmM → Prop} (g1 : y0 = 0 → mm_E kX6_count 15 [.ref 81, .int x1, .int x2, .int x3, l4] [] v c K) (g2 : ¬ y0 = 0 → mm_E kX6_count 21 [.ref 81, .int x1, .int x2, .int x3, l4] [] v c K) : mm_E kX6_count 12 [.ref 81, .int x1, .int x2, .int x3, l4] [.int y0] v c K := by
  exact e_if (p := y0 = 0) rfl g1 g2
theorem bX6_count_15 {x1 : Int32} {x2 : Int32} {x3 : Int32} {l4 : Value} {v : mmM} {c : Nat} {K : mmO → mmM → Prop} (hc : c + mm_mc kX6_raises ≤ mm_mc kX6_count) (g : mm_M kX6_raises [.ref 81, .int (1 : Int32)] v (mm_Kc kX6_count 20 [.ref 81, .int x1, .int x2, .int x3, l4] [] (c + mm_mc kX6_raises) K)) : mm_E kX6_count 15 [.ref 81, .int x1, .int x2, .int x3, l4] [] v c K := by
  refine e_run 2 (pc1 := 17) (L1 := [.ref 81, .int x1, .int x2, .int x3, l4]) (S1 := [.int (1 : Int32), .ref 81]) (v1 := v) rfl ?_
  exact e_cl (j := kX6_raises) rfl hc g
theorem bX6_count_20 {x1 : Int32} {x2 : Int32} {x3 : Int32} {l4 : Value} {y0 : Int32} {v : mmM} {c : Nat} {K : mmO → mmM → Prop} (g : K (.inl (some (.int y0))) v) : mm_E kX6_count 20 [.ref 81, .int x1, .int x2, .int x3, l4] [.int y0] v c K := by
  exact e_iret (ty := .int) rfl rfl rfl g
theorem bX6_count_21 {x1 : Int32} {x2 : Int32} {x3 : Int32} {l4 : Value} {v : mmM} {c : Nat} {K : mmO → mmM → Prop} (hc : c + mm_mc kX6_in ≤ mm_mc kX6_count) (g : mm_M kX6_in [.int x3, .int (0 : Int32), .int (30 : Int32)] v (mm_Kc kX6_count 28 [.ref 81, .int x1, .int x2, .int x3, l4] [] (c + mm_mc kX6_in) K)) : mm_E kX6_count 21 [.ref 81, .int x1, .int x2, .int x3, l4] [] v c K := by
  refine e_run 3 (pc1 := 25) (L1 := [.ref 81, .int x1, .int x2, .int x3, l4]) (S1 := [.int (30 : Int32), .int (0 : Int32), .int x3]) (v1 := v) rfl ?_
  exact e_cl (j := kX6_in) rfl hc g
theorem bX6_count_28 {x1 : Int32} {x2 : Int32} {x3 : Int32} {l4 : Value} {y0 : Int32} {v : mmM} {c : Nat} {K : mmO → mmM → Prop} (g1 : y0 = 0 → mm_E kX6_count 31 [.ref 81, .int x1, .int x2, .int x3, l4] [] v c K) (g2 : ¬ y0 = 0 → mm_E kX6_count 37 [.ref 81, .int x1, .int x2, .int x3, l4] [] v c K) : mm_E kX6_count 28 [.ref 81, .int x1, .int x2, .int x3, l4] [.int y0] v c K := by
  exact e_if (p := y0 = 0) rfl g1 g2
theorem bX6_count_31 {x1 : Int32} {x2 : Int32} {x3 : Int32} {l4 : Value} {v : mmM} {c : Nat} {K : mmO → mmM → Prop} (hc : c + mm_mc kX6_raises ≤ mm_mc kX6_count) (g : mm_M kX6_raises [.ref 81, .int (2 : Int32)] v (mm_Kc kX6_count 36 [.ref 81, .int x1, .int x2, .int x3, l4] [] (c + mm_mc kX6_raises) K)) : mm_E kX6_count 31 [.ref 81, .int x1, .int x2, .int x3, l4] [] v c K := by
  refine e_run 2 (pc1 := 33) (L1 := [.ref 81, .int x1, .int x2, .int x3, l4]) (S1 := [.int (2 : Int32), .ref 81]) (v1 := v) rfl ?_
  exact e_cl (j := kX6_raises) rfl hc g
theorem bX6_count_36 {x1 : Int32} {x2 : Int32} {x3 : Int32} {l4 : Value} {y0 : Int32} {v : mmM} {c : Nat} {K : mmO → mmM → Prop} (g : K (.inl (some (.int y0))) v) : mm_E kX6_count 36 [.ref 81, .int x1, .int x2, .int x3, l4] [.int y0] v c K := by
  exact e_iret (ty := .int) rfl rfl rfl g
theorem bX6_count_37 {x1 : Int32} {x2 : Int32} {x3 : Int32} {l4 : Value} {v : mmM} {c : Nat} {K : mmO → mmM → Prop} (h1 : mm_in x2 24 = true) (h2 : mm_in x1 40 = true) (hc : c + mm_mc kX6_load0 ≤ mm_mc kX6_count) (g : mm_M kX6_load0 [.ref 81, .int x1] v (mm_Kc kX6_count 54 [.ref 81, .int x1, .int x2, .int x3, .int (x3 - (v (93 + x2.toNatClampNeg) x1.toNatClampNeg))] [] (c + mm_mc kX6_load0) K)) : mm_E kX6_count 37 [.ref 81, .int x1, .int x2, .int x3, l4] [] v c K := by
  refine e_run 4 (pc1 := 43) (L1 := [.ref 81, .int x1, .int x2, .int x3, l4]) (S1 := [.int x2, .ref 92, .int x3]) (v1 := v) rfl ?_
  refine e_aald rfl rfl (by decide) h1 ?_
  refine e_run 1 (pc1 := 45) (L1 := [.ref 81, .int x1, .int x2, .int x3, l4]) (S1 := [.int x1, .ref (93 + x2.toNatClampNeg), .int x3]) (v1 := v) rfl ?_
  refine e_iald rfl (mm_rows (P := fun x => mm_sh (93 + x) = (0, 40, 0, [])) (by decide +kernel) (mm_in_lt h1)) (by have := (mm_in_lt h1); show _ < 244; omega) h2 ?_
  refine e_run 4 (pc1 := 51) (L1 := [.ref 81, .int x1, .int x2, .int x3, .int (x3 - (v (93 + x2.toNatClampNeg) x1.toNatClampNeg))]) (S1 := [.int x1, .ref 81]) (v1 := v) rfl ?_
  exact e_cl (j := kX6_load0) rfl hc g
theorem bX6_count_54 {x1 : Int32} {x2 : Int32} {x3 : Int32} {x4 : Int32} {y0 : Int32} {v : mmM} {c : Nat} {K : mmO → mmM → Prop} (g1 : (y0 + x4) ≤ (30 : Int32) → mm_E kX6_count 68 [.ref 81, .int x1, .int x2, .int x3, .int x4] [] v c K) (g2 : ¬ (y0 + x4) ≤ (30 : Int32) → mm_E kX6_count 62 [.ref 81, .int x1, .int x2, .int x3, .int x4] [] v c K) : mm_E kX6_count 54 [.ref 81, .int x1, .int x2, .int x3, .int x4] [.int y0] v c K := by
  refine e_run 3 (pc1 := 59) (L1 := [.ref 81, .int x1, .int x2, .int x3, .int x4]) (S1 := [.int (30 : Int32), .int (y0 + x4)]) (v1 := v) rfl ?_
  exact e_if (p := (y0 + x4) ≤ (30 : Int32)) rfl g1 g2
theorem bX6_count_62 {x1 : Int32} {x2 : Int32} {x3 : Int32} {x4 : Int32} {v : mmM} {c : Nat} {K : mmO → mmM → Prop} (hc : c + mm_mc kX6_raises ≤ mm_mc kX6_count) (g : mm_M kX6_raises [.ref 81, .int (3 : Int32)] v (mm_Kc kX6_count 67 [.ref 81, .int x1, .int x2, .int x3, .int x4] [] (c + mm_mc kX6_raises) K)) : mm_E kX6_count 62 [.ref 81, .int x1, .int x2, .int x3, .int x4] [] v c K := by
  refine e_run 2 (pc1 := 64) (L1 := [.ref 81, .int x1, .int x2, .int x3, .int x4]) (S1 := [.int (3 : Int32), .ref 81]) (v1 := v) rfl ?_
  exact e_cl (j := kX6_raises) rfl hc g
theorem bX6_count_67 {x1 : Int32} {x2 : Int32} {x3 : Int32} {x4 : Int32} {y0 : Int32} {v : mmM} {c : Nat} {K : mmO → mmM → Prop} (g : K (.inl (some (.int y0))) v) : mm_E kX6_count 67 [.ref 81, .int x1, .int x2, .int x3, .int x4] [.int y0] v c K := by
  exact e_iret (ty := .int) rfl rfl rfl g
theorem bX6_count_68 {x1 : Int32} {x2 : Int32} {x3 : Int32} {x4 : Int32} {v : mmM} {c : Nat} {K : mmO → mmM → Prop} (g1 : x4 = 0 → mm_E kX6_count 89 [.ref 81, .int x1, .int x2, .int x3, .int x4] [] v c K) (g2 : ¬ x4 = 0 → mm_E kX6_count 73 [.ref 81, .int x1, .int x2, .int x3, .int x4] [] v c K) : mm_E kX6_count 68 [.ref 81, .int x1, .int x2, .int x3, .int x4] [] v c K := by
  refine e_run 1 (pc1 := 70) (L1 := [.ref 81, .int x1, .int x2, .int x3, .int x4]) (S1 := [.int x4]) (v1 := v) rfl ?_
  exact e_if (p := x4 = 0) rfl g1 g2
theorem bX6_count_73 {x1 : Int32} {x2 : Int32} {x3 : Int32} {x4 : Int32} {v : mmM} {c : Nat} {K : mmO → mmM → Prop} (g1 : (v 81 24) = (150 : Int32) → mm_E kX6_count 83 [.ref 81, .int x1, .int x2, .int x3, .int x4] [] v c K) (g2 : ¬ (v 81 24) = (150 : Int32) → mm_E kX6_count 89 [.ref 81, .int x1, .int x2, .int x3, .int x4] [] v c K) : mm_E kX6_count 73 [.ref 81, .int x1, .int x2, .int x3, .int x4] [] v c K := by
  refine e_run 3 (pc1 := 80) (L1 := [.ref 81, .int x1, .int x2, .int x3, .int x4]) (S1 := [.int (150 : Int32), .int (v 81 24)]) (v1 := v) rfl ?_
  exact e_if (p := (v 81 24) = (150 : Int32)) rfl g1 g2
theorem bX6_count_83 {x1 : Int32} {x2 : Int32} {x3 : Int32} {x4 : Int32} {v : mmM} {c : Nat} {K : mmO → mmM → Prop} (hc : c + mm_mc kX6_raises ≤ mm_mc kX6_count) (g : mm_M kX6_raises [.ref 81, .int (4 : Int32)] v (mm_Kc kX6_count 88 [.ref 81, .int x1, .int x2, .int x3, .int x4] [] (c + mm_mc kX6_raises) K)) : mm_E kX6_count 83 [.ref 81, .int x1, .int x2, .int x3, .int x4] [] v c K := by
  refine e_run 2 (pc1 := 85) (L1 := [.ref 81, .int x1, .int x2, .int x3, .int x4]) (S1 := [.int (4 : Int32), .ref 81]) (v1 := v) rfl ?_
  exact e_cl (j := kX6_raises) rfl hc g
theorem bX6_count_88 {x1 : Int32} {x2 : Int32} {x3 : Int32} {x4 : Int32} {y0 : Int32} {v : mmM} {c : Nat} {K : mmO → mmM → Prop} (g : K (.inl (some (.int y0))) v) : mm_E kX6_count 88 [.ref 81, .int x1, .int x2, .int x3, .int x4] [.int y0] v c K := by
  exact e_iret (ty := .int) rfl rfl rfl g
theorem bX6_count_89 {x1 : Int32} {x2 : Int32} {x3 : Int32} {x4 : Int32} {v : mmM} {c : Nat} {K : mmO → mmM → Prop} (g1 : x4 = 0 → mm_E kX6_count 139 [.ref 81, .int x1, .int x2, .int x3, .int x4] [] (mm_up v 81 26 (0 : Int32)) c K) (g2 : ¬ x4 = 0 → mm_E kX6_count 99 [.ref 81, .int x1, .int x2, .int x3, .int x4] [] (mm_up v 81 26 (0 : Int32)) c K) : mm_E kX6_count 89 [.ref 81, .int x1, .int x2, .int x3, .int x4] [] v c K := by
  refine e_run 4 (pc1 := 96) (L1 := [.ref 81, .int x1, .int x2, .int x3, .int x4]) (S1 := [.int x4]) (v1 := mm_up v 81 26 (0 : Int32)) rfl ?_
  exact e_if (p := x4 = 0) rfl g1 g2
theorem bX6_count_99 {x1 : Int32} {x2 : Int32} {x3 : Int32} {x4 : Int32} {v : mmM} {c : Nat} {K : mmO → mmM → Prop} (hc : c + mm_mc kX6_puts ≤ mm_mc kX6_count) (g : mm_M kX6_puts [.ref 81, .int x2, .int x1, .int x4] v (mm_Kc kX6_count 107 [.ref 81, .int x1, .int x2, .int x3, .int x4] [] (c + mm_mc kX6_puts) K)) : mm_E kX6_count 99 [.ref 81, .int x1, .int x2, .int x3, .int x4] [] v c K := by
  refine e_run 4 (pc1 := 104) (L1 := [.ref 81, .int x1, .int x2, .int x3, .int x4]) (S1 := [.int x4, .int x1, .int x2, .ref 81]) (v1 := v) rfl ?_
  exact e_cl (j := kX6_puts) rfl hc g
theorem bX6_count_107 {x1 : Int32} {x2 : Int32} {x3 : Int32} {x4 : Int32} {v : mmM} {c : Nat} {K : mmO → mmM → Prop} (g1 : 0 ≤ x4 → mm_E kX6_count 120 [.ref 81, .int x1, .int x2, .int x3, .int x4] [.int x2, .int (99 : Int32), .ref 81] v c K) (g2 : ¬ 0 ≤ x4 → mm_E kX6_count 116 [.ref 81, .int x1, .int x2, .int x3, .int x4] [.int x2, .int (99 : Int32), .ref 81] v c K) : mm_E kX6_count 107 [.ref 81, .int x1, .int x2, .int x3, .int x4] [] v c K := by
  refine e_run 4 (pc1 := 113) (L1 := [.ref 81, .int x1, .int x2, .int x3, .int x4]) (S1 := [.int x4, .int x2, .int (99 : Int32), .ref 81]) (v1 := v) rfl ?_
  exact e_if (p := 0 ≤ x4) rfl g1 g2
theorem bX6_count_116 {x1 : Int32} {x2 : Int32} {x3 : Int32} {x4 : Int32} {y1 : Int32} {y2 : Int32} {v : mmM} {c : Nat} {K : mmO → mmM → Prop} (g : mm_E kX6_count 121 [.ref 81, .int x1, .int x2, .int x3, .int x4] [.int x1, .int y2, .int y1, .ref 81] v c K) : mm_E kX6_count 116 [.ref 81, .int x1, .int x2, .int x3, .int x4] [.int y2, .int y1, .ref 81] v c K := by
  refine e_run 2 (pc1 := 121) (L1 := [.ref 81, .int x1, .int x2, .int x3, .int x4]) (S1 := [.int x1, .int y2, .int y1, .ref 81]) (v1 := v) rfl ?_
  exact g
theorem bX6_count_120 {x1 : Int32} {x2 : Int32} {x3 : Int32} {x4 : Int32} {y1 : Int32} {y2 : Int32} {v : mmM} {c : Nat} {K : mmO → mmM → Prop} (g : mm_E kX6_count 121 [.ref 81, .int x1, .int x2, .int x3, .int x4] [.int (-1 : Int32), .int y2, .int y1, .ref 81] v c K) : mm_E kX6_count 120 [.ref 81, .int x1, .int x2, .int x3, .int x4] [.int y2, .int y1, .ref 81] v c K := by
  refine e_run 1 (pc1 := 121) (L1 := [.ref 81, .int x1, .int x2, .int x3, .int x4]) (S1 := [.int (-1 : Int32), .int y2, .int y1, .ref 81]) (v1 := v) rfl ?_
  exact g
theorem bX6_count_121 {x1 : Int32} {x2 : Int32} {x3 : Int32} {x4 : Int32} {y1 : Int32} {y2 : Int32} {y3 : Int32} {v : mmM} {c : Nat} {K : mmO → mmM → Prop} (g1 : x4 ≤ 0 → mm_E kX6_count 130 [.ref 81, .int x1, .int x2, .int x3, .int x4] [.int y3, .int y2, .int y1, .ref 81] v c K) (g2 : ¬ x4 ≤ 0 → mm_E kX6_count 126 [.ref 81, .int x1, .int x2, .int x3, .int x4] [.int y3, .int y2, .int y1, .ref 81] v c K) : mm_E kX6_count 121 [.ref 81, .int x1, .int x2, .int x3, .int x4] [.int y3, .int y2, .int y1, .ref 81] v c K := by
  refine e_run 1 (pc1 := 123) (L1 := [.ref 81, .int x1, .int x2, .int x3, .int x4]) (S1 := [.int x4, .int y3, .int y2, .int y1, .ref 81]) (v1 := v) rfl ?_
  exact e_if (p := x4 ≤ 0) rfl g1 g2
theorem bX6_count_126 {x1 : Int32} {x2 : Int32} {x3 : Int32} {x4 : Int32} {y1 : Int32} {y2 : Int32} {y3 : Int32} {v : mmM} {c : Nat} {K : mmO → mmM → Prop} (g : mm_E kX6_count 131 [.ref 81, .int x1, .int x2, .int x3, .int x4] [.int x1, .int y3, .int y2, .int y1, .ref 81] v c K) : mm_E kX6_count 126 [.ref 81, .int x1, .int x2, .int x3, .int x4] [.int y3, .int y2, .int y1, .ref 81] v c K := by
  refine e_run 2 (pc1 := 131) (L1 := [.ref 81, .int x1, .int x2, .int x3, .int x4]) (S1 := [.int x1, .int y3, .int y2, .int y1, .ref 81]) (v1 := v) rfl ?_
  exact g
theorem bX6_count_130 {x1 : Int32} {x2 : Int32} {x3 : Int32} {x4 : Int32} {y1 : Int32} {y2 : Int32} {y3 : Int32} {v : mmM} {c : Nat} {K : mmO → mmM → Prop} (g : mm_E kX6_count 131 [.ref 81, .int x1, .int x2, .int x3, .int x4] [.int (-1 : Int32), .int y3, .int y2, .int y1, .ref 81] v c K) : mm_E kX6_count 130 [.ref 81, .int x1, .int x2, .int x3, .int x4] [.int y3, .int y2, .int y1, .ref 81] v c K := by
  refine e_run 1 (pc1 := 131) (L1 := [.ref 81, .int x1, .int x2, .int x3, .int x4]) (S1 := [.int (-1 : Int32), .int y3, .int y2, .int y1, .ref 81]) (v1 := v) rfl ?_
  exact g
theorem bX6_count_131 {x1 : Int32} {x2 : Int32} {x3 : Int32} {x4 : Int32} {y1 : Int32} {y2 : Int32} {y3 : Int32} {y4 : Int32} {v : mmM} {c : Nat} {K : mmO → mmM → Prop} (hc : c + mm_mc kX6_writes ≤ mm_mc kX6_count) (g : mm_M kX6_writes [.ref 81, .int y1, .int y2, .int y3, .int y4, .int (if 0 ≤ x4 then x4 else 0 - x4)] v (mm_Kc kX6_count 139 [.ref 81, .int x1, .int x2, .int x3, .int x4] [] (c + mm_mc kX6_writes) K)) : mm_E kX6_count 131 [.ref 81, .int x1, .int x2, .int x3, .int x4] [.int y4, .int y3, .int y2, .int y1, .ref 81] v c K := by
  refine e_run 2 (pc1 := 136) (L1 := [.ref 81, .int x1, .int x2, .int x3, .int x4]) (S1 := [.int (if 0 ≤ x4 then x4 else 0 - x4), .int y4, .int y3, .int y2, .int y1, .ref 81]) (v1 := v) rfl ?_
  exact e_cl (j := kX6_writes) rfl hc g
theorem bX6_count_139 {x1 : Int32} {x2 : Int32} {x3 : Int32} {x4 : Int32} {v : mmM} {c : Nat} {K : mmO → mmM → Prop} (h1 : mm_in x1 40 = true) (h2 : mm_in x2 24 = true) (hc : c + mm_mc kX6_breaks ≤ mm_mc kX6_count) (g : mm_M kX6_breaks [.ref 81, .int (v 90 x2.toNatClampNeg)] (mm_up v 119 x1.toNatClampNeg (v 81 25)) (mm_Kc kX6_count 159 [.ref 81, .int x1, .int x2, .int x3, .int x4] [] (c + mm_mc kX6_breaks) K)) : mm_E kX6_count 139 [.ref 81, .int x1, .int x2, .int x3, .int x4] [] v c K := by
  refine e_run 5 (pc1 := 148) (L1 := [.ref 81, .int x1, .int x2, .int x3, .int x4]) (S1 := [.int (v 81 25), .int x1, .ref 119]) (v1 := v) rfl ?_
  refine e_iast rfl rfl (by decide) h1 ?_
  refine e_run 4 (pc1 := 155) (L1 := [.ref 81, .int x1, .int x2, .int x3, .int x4]) (S1 := [.int x2, .ref 90, .ref 81]) (v1 := mm_up v 119 x1.toNatClampNeg (v 81 25)) rfl ?_
  refine e_iald rfl rfl (by decide) h2 ?_
  exact e_cl (j := kX6_breaks) rfl hc g
theorem bX6_count_159 {x1 : Int32} {x2 : Int32} {x3 : Int32} {x4 : Int32} {y0 : Int32} {v : mmM} {c : Nat} {K : mmO → mmM → Prop} (g : K (.inl (some (.int y0))) v) : mm_E kX6_count 159 [.ref 81, .int x1, .int x2, .int x3, .int x4] [.int y0] v c K := by
  exact e_iret (ty := .int) rfl rfl rfl g
theorem bX6_breaks_0 {x1 : Int32} {l2 : Value} {l3 : Value} {l4 : Value} {v : mmM} {c : Nat} {K : mmO → mmM → Prop} (hc : c + mm_mc kX6_shortDay ≤ mm_mc kX6_breaks) (g : mm_M kX6_shortDay [.ref 81, .int x1] v (mm_Kc kX6_breaks 7 [.ref 81, .int x1, .int (0 : Int32), l3, l4] [] (c + mm_mc kX6_shortDay) K)) : mm_E kX6_breaks 0 [.ref 81, .int x1, l2, l3, l4] [] v c K := by
  refine e_run 4 (pc1 := 4) (L1 := [.ref 81, .int x1, .int (0 : Int32), l3, l4]) (S1 := [.int x1, .ref 81]) (v1 := v) rfl ?_
  exact e_cl (j := kX6_shortDay) rfl hc g
theorem bX6_breaks_7 {x1 : Int32} {x2 : Int32} {l3 : Value} {l4 : Value} {y0 : Int32} {v : mmM} {c : Nat} {K : mmO → mmM → Prop} (g : mm_E kX6_breaks 8 [.ref 81, .int x1, .int x2, .int y0, l4] [] v c K) : mm_E kX6_breaks 7 [.ref 81, .int x1, .int x2, l3, l4] [.int y0] v c K := by
  refine e_run 1 (pc1 := 8) (L1 := [.ref 81, .int x1, .int x2, .int y0, l4]) (S1 := []) (v1 := v) rfl ?_
  exact g
theorem bX6_breaks_8 {x1 : Int32} {x2 : Int32} {x3 : Int32} {l4 : Value} {v : mmM} {c : Nat} {K : mmO → mmM → Prop} (g1 : x3 < 0 → mm_E kX6_breaks 82 [.ref 81, .int x1, .int x2, .int x3, l4] [] v c K) (g2 : ¬ x3 < 0 → mm_E kX6_breaks 12 [.ref 81, .int x1, .int x2, .int x3, l4] [] v c K) : mm_E kX6_breaks 8 [.ref 81, .int x1, .int x2, .int x3, l4] [] v c K := by
  refine e_run 1 (pc1 := 9) (L1 := [.ref 81, .int x1, .int x2, .int x3, l4]) (S1 := [.int x3]) (v1 := v) rfl ?_
  exact e_if (p := x3 < 0) rfl g1 g2
theorem bX6_breaks_12 {x1 : Int32} {x2 : Int32} {x3 : Int32} {l4 : Value} {v : mmM} {c : Nat} {K : mmO → mmM → Prop} (g : mm_E kX6_breaks 20 [.ref 81, .int x1, .int x2, .int x3, .int ((v 81 17) - (1 : Int32))] [] v c K) : mm_E kX6_breaks 12 [.ref 81, .int x1, .int x2, .int x3, l4] [] v c K := by
  refine e_run 5 (pc1 := 20) (L1 := [.ref 81, .int x1, .int x2, .int x3, .int ((v 81 17) - (1 : Int32))]) (S1 := []) (v1 := v) rfl ?_
  exact g
theorem bX6_breaks_20 {x1 : Int32} {x2 : Int32} {x3 : Int32} {x4 : Int32} {v : mmM} {c : Nat} {K : mmO → mmM → Prop} (h1 : mm_in x4 20 = true) (g1 : (v 121 x4.toNatClampNeg) = (111 : Int32) → mm_E kX6_breaks 32 [.ref 81, .int x1, .int x2, .int x3, .int x4] [] v c K) (g2 : ¬ (v 121 x4.toNatClampNeg) = (111 : Int32) → mm_E kX6_breaks 55 [.ref 81, .int x1, .int x2, .int x3, .int x4] [] v c K) : mm_E kX6_breaks 20 [.ref 81, .int x1, .int x2, .int x3, .int x4] [] v c K := by
  refine e_run 3 (pc1 := 26) (L1 := [.ref 81, .int x1, .int x2, .int x3, .int x4]) (S1 := [.int x4, .ref 121]) (v1 := v) rfl ?_
  refine e_cald rfl rfl (by decide) h1 ?_
  refine e_run 1 (pc1 := 29) (L1 := [.ref 81, .int x1, .int x2, .int x3, .int x4]) (S1 := [.int (111 : Int32), .int (v 121 x4.toNatClampNeg)]) (v1 := v) rfl ?_
  exact e_if (p := (v 121 x4.toNatClampNeg) = (111 : Int32)) rfl g1 g2
theorem bX6_breaks_32 {x1 : Int32} {x2 : Int32} {x3 : Int32} {x4 : Int32} {v : mmM} {c : Nat} {K : mmO → mmM → Prop} (h1 : mm_in x4 20 = true) (g1 : (v 120 x4.toNatClampNeg) < x3 → mm_E kX6_breaks 55 [.ref 81, .int x1, .int x2, .int x3, .int x4] [] v c K) (g2 : ¬ (v 120 x4.toNatClampNeg) < x3 → mm_E kX6_breaks 43 [.ref 81, .int x1, .int x2, .int x3, .int x4] [] v c K) : mm_E kX6_breaks 32 [.ref 81, .int x1, .int x2, .int x3, .int x4] [] v c K := by
  refine e_run 3 (pc1 := 38) (L1 := [.ref 81, .int x1, .int x2, .int x3, .int x4]) (S1 := [.int x4, .ref 120]) (v1 := v) rfl ?_
  refine e_iald rfl rfl (by decide) h1 ?_
  refine e_run 1 (pc1 := 40) (L1 := [.ref 81, .int x1, .int x2, .int x3, .int x4]) (S1 := [.int x3, .int (v 120 x4.toNatClampNeg)]) (v1 := v) rfl ?_
  exact e_if (p := (v 120 x4.toNatClampNeg) < x3) rfl g1 g2
theorem bX6_breaks_43 {x1 : Int32} {x2 : Int32} {x3 : Int32} {x4 : Int32} {v : mmM} {c : Nat} {K : mmO → mmM → Prop} (h1 : mm_in x4 20 = true) (h2 : mm_in x1 6 = true) (g1 : (v (123 + x4.toNatClampNeg) x1.toNatClampNeg) = 0 → mm_E kX6_breaks 55 [.ref 81, .int x1, .int x2, .int x3, .int x4] [] v c K) (g2 : ¬ (v (123 + x4.toNatClampNeg) x1.toNatClampNeg) = 0 → mm_E kX6_breaks 61 [.ref 81, .int x1, .int x2, .int x3, .int x4] [] v c K) : mm_E kX6_breaks 43 [.ref 81, .int x1, .int x2, .int x3, .int x4] [] v c K := by
  refine e_run 3 (pc1 := 49) (L1 := [.ref 81, .int x1, .int x2, .int x3, .int x4]) (S1 := [.int x4, .ref 122]) (v1 := v) rfl ?_
  refine e_aald rfl rfl (by decide) h1 ?_
  refine e_run 1 (pc1 := 51) (L1 := [.ref 81, .int x1, .int x2, .int x3, .int x4]) (S1 := [.int x1, .ref (123 + x4.toNatClampNeg)]) (v1 := v) rfl ?_
  refine e_iald rfl (mm_rows (P := fun x => mm_sh (123 + x) = (0, 6, 0, [])) (by decide +kernel) (mm_in_lt h1)) (by have := (mm_in_lt h1); show _ < 244; omega) h2 ?_
  exact e_if (p := (v (123 + x4.toNatClampNeg) x1.toNatClampNeg) = 0) rfl g1 g2
theorem bX6_breaks_55 {x1 : Int32} {x2 : Int32} {x3 : Int32} {x4 : Int32} {v : mmM} {c : Nat} {K : mmO → mmM → Prop} (g : mm_E kX6_breaks 20 [.ref 81, .int x1, .int x2, .int x3, .int (x4 + (-1 : Int32))] [] v c K) : mm_E kX6_breaks 55 [.ref 81, .int x1, .int x2, .int x3, .int x4] [] v c K := by
  refine e_run 2 (pc1 := 20) (L1 := [.ref 81, .int x1, .int x2, .int x3, .int (x4 + (-1 : Int32))]) (S1 := []) (v1 := v) rfl ?_
  exact g
theorem bX6_breaks_61 {x1 : Int32} {x2 : Int32} {x3 : Int32} {x4 : Int32} {v : mmM} {c : Nat} {K : mmO → mmM → Prop} (h1 : mm_in x4 20 = true) (hc : c + mm_mc kX6_shortDay ≤ mm_mc kX6_breaks) (g : mm_M kX6_shortDay [.ref 81, .int x1] (mm_up v 121 x4.toNatClampNeg (98 : Int32)) (mm_Kc kX6_breaks 78 [.ref 81, .int x1, .int (x2 + (1 : Int32)), .int x3, .int x4] [] (c + mm_mc kX6_shortDay) K)) : mm_E kX6_breaks 61 [.ref 81, .int x1, .int x2, .int x3, .int x4] [] v c K := by
  refine e_run 4 (pc1 := 69) (L1 := [.ref 81, .int x1, .int x2, .int x3, .int x4]) (S1 := [.int (98 : Int32), .int x4, .ref 121]) (v1 := v) rfl ?_
  refine e_cast rfl rfl (by decide) h1 (by decide) ?_
  refine e_run 3 (pc1 := 75) (L1 := [.ref 81, .int x1, .int (x2 + (1 : Int32)), .int x3, .int x4]) (S1 := [.int x1, .ref 81]) (v1 := mm_up v 121 x4.toNatClampNeg (98 : Int32)) rfl ?_
  exact e_cl (j := kX6_shortDay) rfl hc g
theorem bX6_breaks_78 {x1 : Int32} {x2 : Int32} {x3 : Int32} {x4 : Int32} {y0 : Int32} {v : mmM} {c : Nat} {K : mmO → mmM → Prop} (g : mm_E kX6_breaks 8 [.ref 81, .int x1, .int x2, .int y0, .int x4] [] v c K) : mm_E kX6_breaks 78 [.ref 81, .int x1, .int x2, .int x3, .int x4] [.int y0] v c K := by
  refine e_run 2 (pc1 := 8) (L1 := [.ref 81, .int x1, .int x2, .int y0, .int x4]) (S1 := []) (v1 := v) rfl ?_
  exact g
theorem bX6_breaks_82 {x1 : Int32} {x2 : Int32} {x3 : Int32} {l4 : Value} {v : mmM} {c : Nat} {K : mmO → mmM → Prop} (g : K (.inl (some (.int x2))) v) : mm_E kX6_breaks 82 [.ref 81, .int x1, .int x2, .int x3, l4] [] v c K := by
  refine e_run 1 (pc1 := 83) (L1 := [.ref 81, .int x1, .int x2, .int x3, l4]) (S1 := [.int x2]) (v1 := v) rfl ?_
  exact e_iret (ty := .int) rfl rfl rfl g
theorem bX6_shortDay_0 {x1 : Int32} {l2 : Value} {l3 : Value} {v : mmM} {c : Nat} {K : mmO → mmM → Prop} (g : mm_E kX6_shortDay 4 [.ref 81, .int x1, .int (-1 : Int32), .int (0 : Int32)] [] v c K) : mm_E kX6_shortDay 0 [.ref 81, .int x1, l2, l3] [] v c K := by
  refine e_run 4 (pc1 := 4) (L1 := [.ref 81, .int x1, .int (-1 : Int32), .int (0 : Int32)]) (S1 := []) (v1 := v) rfl ?_
  exact g
theorem bX6_shortDay_4 {x1 : Int32} {x2 : Int32} {x3 : Int32} {v : mmM} {c : Nat} {K : mmO → mmM → Prop} (g1 : (v 81 17) ≤ x3 → mm_E kX6_shortDay 55 [.ref 81, .int x1, .int x2, .int x3] [] v c K) (g2 : ¬ (v 81 17) ≤ x3 → mm_E kX6_shortDay 12 [.ref 81, .int x1, .int x2, .int x3] [] v c K) : mm_E kX6_shortDay 4 [.ref 81, .int x1, .int x2, .int x3] [] v c K := by
  refine e_run 3 (pc1 := 9) (L1 := [.ref 81, .int x1, .int x2, .int x3]) (S1 := [.int (v 81 17), .int x3]) (v1 := v) rfl ?_
  exact e_if (p := (v 81 17) ≤ x3) rfl g1 g2
theorem bX6_shortDay_12 {x1 : Int32} {x2 : Int32} {x3 : Int32} {v : mmM} {c : Nat} {K : mmO → mmM → Prop} (h1 : mm_in x3 20 = true) (g1 : (v 121 x3.toNatClampNeg) = (111 : Int32) → mm_E kX6_shortDay 23 [.ref 81, .int x1, .int x2, .int x3] [] v c K) (g2 : ¬ (v 121 x3.toNatClampNeg) = (111 : Int32) → mm_E kX6_shortDay 47 [.ref 81, .int x1, .int x2, .int x3] [] v c K) : mm_E kX6_shortDay 12 [.ref 81, .int x1, .int x2, .int x3] [] v c K := by
  refine e_run 3 (pc1 := 17) (L1 := [.ref 81, .int x1, .int x2, .int x3]) (S1 := [.int x3, .ref 121]) (v1 := v) rfl ?_
  refine e_cald rfl rfl (by decide) h1 ?_
  refine e_run 1 (pc1 := 20) (L1 := [.ref 81, .int x1, .int x2, .int x3]) (S1 := [.int (111 : Int32), .int (v 121 x3.toNatClampNeg)]) (v1 := v) rfl ?_
  exact e_if (p := (v 121 x3.toNatClampNeg) = (111 : Int32)) rfl g1 g2
theorem bX6_shortDay_23 {x1 : Int32} {x2 : Int32} {x3 : Int32} {v : mmM} {c : Nat} {K : mmO → mmM → Prop} (h1 : mm_in x3 20 = true) (h2 : mm_in x1 6 = true) (g1 : (v (123 + x3.toNatClampNeg) x1.toNatClampNeg) ≤ 0 → mm_E kX6_shortDay 47 [.ref 81, .int x1, .int x2, .int x3] [] v c K) (g2 : ¬ (v (123 + x3.toNatClampNeg) x1.toNatClampNeg) ≤ 0 → mm_E kX6_shortDay 34 [.ref 81, .int x1, .int x2, .int x3] [] v c K) : mm_E kX6_shortDay 23 [.ref 81, .int x1, .int x2, .int x3] [] v c K := by
  refine e_run 3 (pc1 := 28) (L1 := [.ref 81, .int x1, .int x2, .int x3]) (S1 := [.int x3, .ref 122]) (v1 := v) rfl ?_
  refine e_aald rfl rfl (by decide) h1 ?_
  refine e_run 1 (pc1 := 30) (L1 := [.ref 81, .int x1, .int x2, .int x3]) (S1 := [.int x1, .ref (123 + x3.toNatClampNeg)]) (v1 := v) rfl ?_
  refine e_iald rfl (mm_rows (P := fun x => mm_sh (123 + x) = (0, 6, 0, [])) (by decide +kernel) (mm_in_lt h1)) (by have := (mm_in_lt h1); show _ < 244; omega) h2 ?_
  exact e_if (p := (v (123 + x3.toNatClampNeg) x1.toNatClampNeg) ≤ 0) rfl g1 g2
theorem bX6_shortDay_34 {x1 : Int32} {x2 : Int32} {x3 : Int32} {v : mmM} {c : Nat} {K : mmO → mmM → Prop} (h1 : mm_in x3 20 = true) (g : mm_E kX6_shortDay 48 [.ref 81, .int x1, .int x2, .int x3] [.int (if x2 < (v 120 x3.toNatClampNeg) then (v 120 x3.toNatClampNeg) else x2)] v c K) : mm_E kX6_shortDay 34 [.ref 81, .int x1, .int x2, .int x3] [] v c K := by
  refine e_run 4 (pc1 := 40) (L1 := [.ref 81, .int x1, .int x2, .int x3]) (S1 := [.int x3, .ref 120, .int x2]) (v1 := v) rfl ?_
  refine e_iald rfl rfl (by decide) h1 ?_
  refine e_run 2 (pc1 := 48) (L1 := [.ref 81, .int x1, .int x2, .int x3]) (S1 := [.int (if x2 < (v 120 x3.toNatClampNeg) then (v 120 x3.toNatClampNeg) else x2)]) (v1 := v) rfl ?_
  exact g
theorem bX6_shortDay_47 {x1 : Int32} {x2 : Int32} {x3 : Int32} {v : mmM} {c : Nat} {K : mmO → mmM → Prop} (g : mm_E kX6_shortDay 48 [.ref 81, .int x1, .int x2, .int x3] [.int x2] v c K) : mm_E kX6_shortDay 47 [.ref 81, .int x1, .int x2, .int x3] [] v c K := by
  refine e_run 1 (pc1 := 48) (L1 := [.ref 81, .int x1, .int x2, .int x3]) (S1 := [.int x2]) (v1 := v) rfl ?_
  exact g
theorem bX6_shortDay_48 {x1 : Int32} {x2 : Int32} {x3 : Int32} {y0 : Int32} {v : mmM} {c : Nat} {K : mmO → mmM → Prop} (g : mm_E kX6_shortDay 4 [.ref 81, .int x1, .int y0, .int (x3 + (1 : Int32))] [] v c K) : mm_E kX6_shortDay 48 [.ref 81, .int x1, .int x2, .int x3] [.int y0] v c K := by
  refine e_run 3 (pc1 := 4) (L1 := [.ref 81, .int x1, .int y0, .int (x3 + (1 : Int32))]) (S1 := []) (v1 := v) rfl ?_
  exact g
theorem bX6_shortDay_55 {x1 : Int32} {x2 : Int32} {x3 : Int32} {v : mmM} {c : Nat} {K : mmO → mmM → Prop} (g1 : x2 < (v 81 25) → mm_E kX6_shortDay 84 [.ref 81, .int x1, .int x2, .int x3] [] v c K) (g2 : ¬ x2 < (v 81 25) → mm_E kX6_shortDay 63 [.ref 81, .int x1, .int x2, .int x3] [] v c K) : mm_E kX6_shortDay 55 [.ref 81, .int x1, .int x2, .int x3] [] v c K := by
  refine e_run 3 (pc1 := 60) (L1 := [.ref 81, .int x1, .int x2, .int x3]) (S1 := [.int (v 81 25), .int x2]) (v1 := v) rfl ?_
  exact e_if (p := x2 < (v 81 25)) rfl g1 g2
theorem bX6_shortDay_63 {x1 : Int32} {x2 : Int32} {x3 : Int32} {v : mmM} {c : Nat} {K : mmO → mmM → Prop} (hc : c + mm_mc kX6_stockFor ≤ mm_mc kX6_shortDay) (g : mm_M kX6_stockFor [.ref 81, .int x1, .int x2] v (mm_Kc kX6_shortDay 69 [.ref 81, .int x1, .int x2, .int x3] [] (c + mm_mc kX6_stockFor) K)) : mm_E kX6_shortDay 63 [.ref 81, .int x1, .int x2, .int x3] [] v c K := by
  refine e_run 3 (pc1 := 66) (L1 := [.ref 81, .int x1, .int x2, .int x3]) (S1 := [.int x2, .int x1, .ref 81]) (v1 := v) rfl ?_
  exact e_cl (j := kX6_stockFor) rfl hc g
theorem bX6_shortDay_69 {x1 : Int32} {x2 : Int32} {x3 : Int32} {y0 : Int32} {v : mmM} {c : Nat} {K : mmO → mmM → Prop} (hc : c + mm_mc kX6_promisedFor ≤ mm_mc kX6_shortDay) (g : mm_M kX6_promisedFor [.ref 81, .int x1, .int x2] v (mm_Kc kX6_shortDay 75 [.ref 81, .int x1, .int x2, .int x3] [.int y0] (c + mm_mc kX6_promisedFor) K)) : mm_E kX6_shortDay 69 [.ref 81, .int x1, .int x2, .int x3] [.int y0] v c K := by
  refine e_run 3 (pc1 := 72) (L1 := [.ref 81, .int x1, .int x2, .int x3]) (S1 := [.int x2, .int x1, .ref 81, .int y0]) (v1 := v) rfl ?_
  exact e_cl (j := kX6_promisedFor) rfl hc g
theorem bX6_shortDay_75 {x1 : Int32} {x2 : Int32} {x3 : Int32} {y0 : Int32} {y1 : Int32} {v : mmM} {c : Nat} {K : mmO → mmM → Prop} (g1 : y0 < y1 → mm_E kX6_shortDay 84 [.ref 81, .int x1, .int x2, .int x3] [] v c K) (g2 : ¬ y0 < y1 → mm_E kX6_shortDay 78 [.ref 81, .int x1, .int x2, .int x3] [] v c K) : mm_E kX6_shortDay 75 [.ref 81, .int x1, .int x2, .int x3] [.int y1, .int y0] v c K := by
  exact e_if (p := y0 < y1) rfl g1 g2
theorem bX6_shortDay_78 {x1 : Int32} {x2 : Int32} {x3 : Int32} {v : mmM} {c : Nat} {K : mmO → mmM → Prop} (g : mm_E kX6_shortDay 55 [.ref 81, .int x1, .int (x2 + (-1 : Int32)), .int x3] [] v c K) : mm_E kX6_shortDay 78 [.ref 81, .int x1, .int x2, .int x3] [] v c K := by
  refine e_run 2 (pc1 := 55) (L1 := [.ref 81, .int x1, .int (x2 + (-1 : Int32)), .int x3]) (S1 := []) (v1 := v) rfl ?_
  exact g
theorem bX6_shortDay_84 {x1 : Int32} {x2 : Int32} {x3 : Int32} {v : mmM} {c : Nat} {K : mmO → mmM → Prop} (g1 : x2 < (v 81 25) → mm_E kX6_shortDay 96 [.ref 81, .int x1, .int x2, .int x3] [] v c K) (g2 : ¬ x2 < (v 81 25) → mm_E kX6_shortDay 92 [.ref 81, .int x1, .int x2, .int x3] [] v c K) : mm_E kX6_shortDay 84 [.ref 81, .int x1, .int x2, .int x3] [] v c K := by
  refine e_run 3 (pc1 := 89) (L1 := [.ref 81, .int x1, .int x2, .int x3]) (S1 := [.int (v 81 25), .int x2]) (v1 := v) rfl ?_
  exact e_if (p := x2 < (v 81 25)) rfl g1 g2
theorem bX6_shortDay_92 {x1 : Int32} {x2 : Int32} {x3 : Int32} {v : mmM} {c : Nat} {K : mmO → mmM → Prop} (g : mm_E kX6_shortDay 97 [.ref 81, .int x1, .int x2, .int x3] [.int x2] v c K) : mm_E kX6_shortDay 92 [.ref 81, .int x1, .int x2, .int x3] [] v c K := by
  refine e_run 2 (pc1 := 97) (L1 := [.ref 81, .int x1, .int x2, .int x3]) (S1 := [.int x2]) (v1 := v) rfl ?_
  exact g
theorem bX6_shortDay_96 {x1 : Int32} {x2 : Int32} {x3 : Int32} {v : mmM} {c : Nat} {K : mmO → mmM → Prop} (g : mm_E kX6_shortDay 97 [.ref 81, .int x1, .int x2, .int x3] [.int (-1 : Int32)] v c K) : mm_E kX6_shortDay 96 [.ref 81, .int x1, .int x2, .int x3] [] v c K := by
  refine e_run 1 (pc1 := 97) (L1 := [.ref 81, .int x1, .int x2, .int x3]) (S1 := [.int (-1 : Int32)]) (v1 := v) rfl ?_
  exact g
theorem bX6_shortDay_97 {x1 : Int32} {x2 : Int32} {x3 : Int32} {y0 : Int32} {v : mmM} {c : Nat} {K : mmO → mmM → Prop} (g : K (.inl (some (.int y0))) v) : mm_E kX6_shortDay 97 [.ref 81, .int x1, .int x2, .int x3] [.int y0] v c K := by
  exact e_iret (ty := .int) rfl rfl rfl g
theorem bX6_stockFor_0 {x1 : Int32} {x2 : Int32} {l3 : Value} {l4 : Value} {v : mmM} {c : Nat} {K : mmO → mmM → Prop} (g : mm_E kX6_stockFor 5 [.ref 81, .int x1, .int x2, .int (0 : Int32), .int (0 : Int32)] [] v c K) : mm_E kX6_stockFor 0 [.ref 81, .int x1, .int x2, l3, l4] [] v c K := by
  refine e_run 4 (pc1 := 5) (L1 := [.ref 81, .int x1, .int x2, .int (0 : Int32), .int (0 : Int32)]) (S1 := []) (v1 := v) rfl ?_
  exact g
theorem bX6_stockFor_5 {x1 : Int32} {x2 : Int32} {x3 : Int32} {x4 : Int32} {v : mmM} {c : Nat} {K : mmO → mmM → Prop} (g1 : (v 81 8) ≤ x4 → mm_E kX6_stockFor 56 [.ref 81, .int x1, .int x2, .int x3, .int x4] [] v c K) (g2 : ¬ (v 81 8) ≤ x4 → mm_E kX6_stockFor 14 [.ref 81, .int x1, .int x2, .int x3, .int x4] [] v c K) : mm_E kX6_stockFor 5 [.ref 81, .int x1, .int x2, .int x3, .int x4] [] v c K := by
  refine e_run 3 (pc1 := 11) (L1 := [.ref 81, .int x1, .int x2, .int x3, .int x4]) (S1 := [.int (v 81 8), .int x4]) (v1 := v) rfl ?_
  exact e_if (p := (v 81 8) ≤ x4) rfl g1 g2
theorem bX6_stockFor_14 {x1 : Int32} {x2 : Int32} {x3 : Int32} {x4 : Int32} {v : mmM} {c : Nat} {K : mmO → mmM → Prop} (h1 : mm_in x4 24 = true) (g1 : (v 90 x4.toNatClampNeg) = x1 → mm_E kX6_stockFor 26 [.ref 81, .int x1, .int x2, .int x3, .int x4] [.int x3] v c K) (g2 : ¬ (v 90 x4.toNatClampNeg) = x1 → mm_E kX6_stockFor 47 [.ref 81, .int x1, .int x2, .int x3, .int x4] [.int x3] v c K) : mm_E kX6_stockFor 14 [.ref 81, .int x1, .int x2, .int x3, .int x4] [] v c K := by
  refine e_run 4 (pc1 := 21) (L1 := [.ref 81, .int x1, .int x2, .int x3, .int x4]) (S1 := [.int x4, .ref 90, .int x3]) (v1 := v) rfl ?_
  refine e_iald rfl rfl (by decide) h1 ?_
  refine e_run 1 (pc1 := 23) (L1 := [.ref 81, .int x1, .int x2, .int x3, .int x4]) (S1 := [.int x1, .int (v 90 x4.toNatClampNeg), .int x3]) (v1 := v) rfl ?_
  exact e_if (p := (v 90 x4.toNatClampNeg) = x1) rfl g1 g2
theorem bX6_stockFor_26 {x1 : Int32} {x2 : Int32} {x3 : Int32} {x4 : Int32} {y0 : Int32} {v : mmM} {c : Nat} {K : mmO → mmM → Prop} (h1 : mm_in x4 24 = true) (g1 : (v 91 x4.toNatClampNeg) < x2 → mm_E kX6_stockFor 47 [.ref 81, .int x1, .int x2, .int x3, .int x4] [.int y0] v c K) (g2 : ¬ (v 91 x4.toNatClampNeg) < x2 → mm_E kX6_stockFor 37 [.ref 81, .int x1, .int x2, .int x3, .int x4] [.int y0] v c K) : mm_E kX6_stockFor 26 [.ref 81, .int x1, .int x2, .int x3, .int x4] [.int y0] v c K := by
  refine e_run 3 (pc1 := 32) (L1 := [.ref 81, .int x1, .int x2, .int x3, .int x4]) (S1 := [.int x4, .ref 91, .int y0]) (v1 := v) rfl ?_
  refine e_iald rfl rfl (by decide) h1 ?_
  refine e_run 1 (pc1 := 34) (L1 := [.ref 81, .int x1, .int x2, .int x3, .int x4]) (S1 := [.int x2, .int (v 91 x4.toNatClampNeg), .int y0]) (v1 := v) rfl ?_
  exact e_if (p := (v 91 x4.toNatClampNeg) < x2) rfl g1 g2
theorem bX6_stockFor_37 {x1 : Int32} {x2 : Int32} {x3 : Int32} {x4 : Int32} {y0 : Int32} {v : mmM} {c : Nat} {K : mmO → mmM → Prop} (h1 : mm_in x4 24 = true) (g : mm_E kX6_stockFor 48 [.ref 81, .int x1, .int x2, .int x3, .int x4] [.int (v 117 x4.toNatClampNeg), .int y0] v c K) : mm_E kX6_stockFor 37 [.ref 81, .int x1, .int x2, .int x3, .int x4] [.int y0] v c K := by
  refine e_run 3 (pc1 := 43) (L1 := [.ref 81, .int x1, .int x2, .int x3, .int x4]) (S1 := [.int x4, .ref 117, .int y0]) (v1 := v) rfl ?_
  refine e_iald rfl rfl (by decide) h1 ?_
  refine e_run 1 (pc1 := 48) (L1 := [.ref 81, .int x1, .int x2, .int x3, .int x4]) (S1 := [.int (v 117 x4.toNatClampNeg), .int y0]) (v1 := v) rfl ?_
  exact g
theorem bX6_stockFor_47 {x1 : Int32} {x2 : Int32} {x3 : Int32} {x4 : Int32} {y0 : Int32} {v : mmM} {c : Nat} {K : mmO → mmM → Prop} (g : mm_E kX6_stockFor 48 [.ref 81, .int x1, .int x2, .int x3, .int x4] [.int (0 : Int32), .int y0] v c K) : mm_E kX6_stockFor 47 [.ref 81, .int x1, .int x2, .int x3, .int x4] [.int y0] v c K := by
  refine e_run 1 (pc1 := 48) (L1 := [.ref 81, .int x1, .int x2, .int x3, .int x4]) (S1 := [.int (0 : Int32), .int y0]) (v1 := v) rfl ?_
  exact g
theorem bX6_stockFor_48 {x1 : Int32} {x2 : Int32} {x3 : Int32} {x4 : Int32} {y0 : Int32} {y1 : Int32} {v : mmM} {c : Nat} {K : mmO → mmM → Prop} (g : mm_E kX6_stockFor 5 [.ref 81, .int x1, .int x2, .int (y0 + y1), .int (x4 + (1 : Int32))] [] v c K) : mm_E kX6_stockFor 48 [.ref 81, .int x1, .int x2, .int x3, .int x4] [.int y1, .int y0] v c K := by
  refine e_run 4 (pc1 := 5) (L1 := [.ref 81, .int x1, .int x2, .int (y0 + y1), .int (x4 + (1 : Int32))]) (S1 := []) (v1 := v) rfl ?_
  exact g
theorem bX6_stockFor_56 {x1 : Int32} {x2 : Int32} {x3 : Int32} {x4 : Int32} {v : mmM} {c : Nat} {K : mmO → mmM → Prop} (g : K (.inl (some (.int x3))) v) : mm_E kX6_stockFor 56 [.ref 81, .int x1, .int x2, .int x3, .int x4] [] v c K := by
  refine e_run 1 (pc1 := 57) (L1 := [.ref 81, .int x1, .int x2, .int x3, .int x4]) (S1 := [.int x3]) (v1 := v) rfl ?_
  exact e_iret (ty := .int) rfl rfl rfl g
theorem bX6_promisedFor_0 {x1 : Int32} {x2 : Int32} {l3 : Value} {l4 : Value} {v : mmM} {c : Nat} {K : mmO → mmM → Prop} (g : mm_E kX6_promisedFor 5 [.ref 81, .int x1, .int x2, .int (0 : Int32), .int (0 : Int32)] [] v c K) : mm_E kX6_promisedFor 0 [.ref 81, .int x1, .int x2, l3, l4] [] v c K := by
  refine e_run 4 (pc1 := 5) (L1 := [.ref 81, .int x1, .int x2, .int (0 : Int32), .int (0 : Int32)]) (S1 := []) (v1 := v) rfl ?_
  exact g
theorem bX6_promisedFor_5 {x1 : Int32} {x2 : Int32} {x3 : Int32} {x4 : Int32} {v : mmM} {c : Nat} {K : mmO → mmM → Prop} (g1 : (v 81 17) ≤ x4 → mm_E kX6_promisedFor 59 [.ref 81, .int x1, .int x2, .int x3, .int x4] [] v c K) (g2 : ¬ (v 81 17) ≤ x4 → mm_E kX6_promisedFor 14 [.ref 81, .int x1, .int x2, .int x3, .int x4] [] v c K) : mm_E kX6_promisedFor 5 [.ref 81, .int x1, .int x2, .int x3, .int x4] [] v c K := by
  refine e_run 3 (pc1 := 11) (L1 := [.ref 81, .int x1, .int x2, .int x3, .int x4]) (S1 := [.int (v 81 17), .int x4]) (v1 := v) rfl ?_
  exact e_if (p := (v 81 17) ≤ x4) rfl g1 g2
theorem bX6_promisedFor_14 {x1 : Int32} {x2 : Int32} {x3 : Int32} {x4 : Int32} {v : mmM} {c : Nat} {K : mmO → mmM → Prop} (h1 : mm_in x4 20 = true) (g1 : (v 121 x4.toNatClampNeg) = (111 : Int32) → mm_E kX6_promisedFor 27 [.ref 81, .int x1, .int x2, .int x3, .int x4] [.int x3] v c K) (g2 : ¬ (v 121 x4.toNatClampNeg) = (111 : Int32) → mm_E kX6_promisedFor 50 [.ref 81, .int x1, .int x2, .int x3, .int x4] [.int x3] v c K) : mm_E kX6_promisedFor 14 [.ref 81, .int x1, .int x2, .int x3, .int x4] [] v c K := by
  refine e_run 4 (pc1 := 21) (L1 := [.ref 81, .int x1, .int x2, .int x3, .int x4]) (S1 := [.int x4, .ref 121, .int x3]) (v1 := v) rfl ?_
  refine e_cald rfl rfl (by decide) h1 ?_
  refine e_run 1 (pc1 := 24) (L1 := [.ref 81, .int x1, .int x2, .int x3, .int x4]) (S1 := [.int (111 : Int32), .int (v 121 x4.toNatClampNeg), .int x3]) (v1 := v) rfl ?_
  exact e_if (p := (v 121 x4.toNatClampNeg) = (111 : Int32)) rfl g1 g2
theorem bX6_promisedFor_27 {x1 : Int32} {x2 : Int32} {x3 : Int32} {x4 : Int32} {y0 : Int32} {v : mmM} {c : Nat} {K : mmO → mmM → Prop} (h1 : mm_in x4 20 = true) (g1 : (v 120 x4.toNatClampNeg) < x2 → mm_E kX6_promisedFor 50 [.ref 81, .int x1, .int x2, .int x3, .int x4] [.int y0] v c K) (g2 : ¬ (v 120 x4.toNatClampNeg) < x2 → mm_E kX6_promisedFor 38 [.ref 81, .int x1, .int x2, .int x3, .int x4] [.int y0] v c K) : mm_E kX6_promisedFor 27 [.ref 81, .int x1, .int x2, .int x3, .int x4] [.int y0] v c K := by
  refine e_run 3 (pc1 := 33) (L1 := [.ref 81, .int x1, .int x2, .int x3, .int x4]) (S1 := [.int x4, .ref 120, .int y0]) (v1 := v) rfl ?_
  refine e_iald rfl rfl (by decide) h1 ?_
  refine e_run 1 (pc1 := 35) (L1 := [.ref 81, .int x1, .int x2, .int x3, .int x4]) (S1 := [.int x2, .int (v 120 x4.toNatClampNeg), .int y0]) (v1 := v) rfl ?_
  exact e_if (p := (v 120 x4.toNatClampNeg) < x2) rfl g1 g2
theorem bX6_promisedFor_38 {x1 : Int32} {x2 : Int32} {x3 : Int32} {x4 : Int32} {y0 : Int32} {v : mmM} {c : Nat} {K : mmO → mmM → Prop} (h1 : mm_in x4 20 = true) (h2 : mm_in x1 6 = true) (g : mm_E kX6_promisedFor 51 [.ref 81, .int x1, .int x2, .int x3, .int x4] [.int (v (123 + x4.toNatClampNeg) x1.toNatClampNeg), .int y0] v c K) : mm_E kX6_promisedFor 38 [.ref 81, .int x1, .int x2, .int x3, .int x4] [.int y0] v c K := by
  refine e_run 3 (pc1 := 44) (L1 := [.ref 81, .int x1, .int x2, .int x3, .int x4]) (S1 := [.int x4, .ref 122, .int y0]) (v1 := v) rfl ?_
  refine e_aald rfl rfl (by decide) h1 ?_
  refine e_run 1 (pc1 := 46) (L1 := [.ref 81, .int x1, .int x2, .int x3, .int x4]) (S1 := [.int x1, .ref (123 + x4.toNatClampNeg), .int y0]) (v1 := v) rfl ?_
  refine e_iald rfl (mm_rows (P := fun x => mm_sh (123 + x) = (0, 6, 0, [])) (by decide +kernel) (mm_in_lt h1)) (by have := (mm_in_lt h1); show _ < 244; omega) h2 ?_
  refine e_run 1 (pc1 := 51) (L1 := [.ref 81, .int x1, .int x2, .int x3, .int x4]) (S1 := [.int (v (123 + x4.toNatClampNeg) x1.toNatClampNeg), .int y0]) (v1 := v) rfl ?_
  exact g
theorem bX6_promisedFor_50 {x1 : Int32} {x2 : Int32} {x3 : Int32} {x4 : Int32} {y0 : Int32} {v : mmM} {c : Nat} {K : mmO → mmM → Prop} (g : mm_E kX6_promisedFor 51 [.ref 81, .int x1, .int x2, .int x3, .int x4] [.int (0 : Int32), .int y0] v c K) : mm_E kX6_promisedFor 50 [.ref 81, .int x1, .int x2, .int x3, .int x4] [.int y0] v c K := by
  refine e_run 1 (pc1 := 51) (L1 := [.ref 81, .int x1, .int x2, .int x3, .int x4]) (S1 := [.int (0 : Int32), .int y0]) (v1 := v) rfl ?_
  exact g
theorem bX6_promisedFor_51 {x1 : Int32} {x2 : Int32} {x3 : Int32} {x4 : Int32} {y0 : Int32} {y1 : Int32} {v : mmM} {c : Nat} {K : mmO → mmM → Prop} (g : mm_E kX6_promisedFor 5 [.ref 81, .int x1, .int x2, .int (y0 + y1), .int (x4 + (1 : Int32))] [] v c K) : mm_E kX6_promisedFor 51 [.ref 81, .int x1, .int x2, .int x3, .int x4] [.int y1, .int y0] v c K := by
  refine e_run 4 (pc1 := 5) (L1 := [.ref 81, .int x1, .int x2, .int (y0 + y1), .int (x4 + (1 : Int32))]) (S1 := []) (v1 := v) rfl ?_
  exact g
theorem bX6_promisedFor_59 {x1 : Int32} {x2 : Int32} {x3 : Int32} {x4 : Int32} {v : mmM} {c : Nat} {K : mmO → mmM → Prop} (g : K (.inl (some (.int x3))) v) : mm_E kX6_promisedFor 59 [.ref 81, .int x1, .int x2, .int x3, .int x4] [] v c K := by
  refine e_run 1 (pc1 := 60) (L1 := [.ref 81, .int x1, .int x2, .int x3, .int x4]) (S1 := [.int x3]) (v1 := v) rfl ?_
  exact e_iret (ty := .int) rfl rfl rfl g
theorem bX6_availableFor_0 {x1 : Int32} {x2 : Int32} {l3 : Value} {l4 : Value} {v : mmM} {c : Nat} {K : mmO → mmM → Prop} (g : mm_E kX6_availableFor 9 [.ref 81, .int x1, .int x2, .int (100000 : Int32), .int (v 81 25)] [] v c K) : mm_E kX6_availableFor 0 [.ref 81, .int x1, .int x2, l3, l4] [] v c K := by
  refine e_run 5 (pc1 := 9) (L1 := [.ref 81, .int x1, .int x2, .int (100000 : Int32), .int (v 81 25)]) (S1 := []) (v1 := v) rfl ?_
  exact g
theorem bX6_availableFor_9 {x1 : Int32} {x2 : Int32} {x3 : Int32} {x4 : Int32} {v : mmM} {c : Nat} {K : mmO → mmM → Prop} (g1 : x2 < x4 → mm_E kX6_availableFor 41 [.ref 81, .int x1, .int x2, .int x3, .int x4] [] v c K) (g2 : ¬ x2 < x4 → mm_E kX6_availableFor 15 [.ref 81, .int x1, .int x2, .int x3, .int x4] [] v c K) : mm_E kX6_availableFor 9 [.ref 81, .int x1, .int x2, .int x3, .int x4] [] v c K := by
  refine e_run 2 (pc1 := 12) (L1 := [.ref 81, .int x1, .int x2, .int x3, .int x4]) (S1 := [.int x2, .int x4]) (v1 := v) rfl ?_
  exact e_if (p := x2 < x4) rfl g1 g2
theorem bX6_availableFor_15 {x1 : Int32} {x2 : Int32} {x3 : Int32} {x4 : Int32} {v : mmM} {c : Nat} {K : mmO → mmM → Prop} (hc : c + mm_mc kX6_stockFor ≤ mm_mc kX6_availableFor) (g : mm_M kX6_stockFor [.ref 81, .int x1, .int x4] v (mm_Kc kX6_availableFor 23 [.ref 81, .int x1, .int x2, .int x3, .int x4] [.int x3] (c + mm_mc kX6_stockFor) K)) : mm_E kX6_availableFor 15 [.ref 81, .int x1, .int x2, .int x3, .int x4] [] v c K := by
  refine e_run 4 (pc1 := 20) (L1 := [.ref 81, .int x1, .int x2, .int x3, .int x4]) (S1 := [.int x4, .int x1, .ref 81, .int x3]) (v1 := v) rfl ?_
  exact e_cl (j := kX6_stockFor) rfl hc g
theorem bX6_availableFor_23 {x1 : Int32} {x2 : Int32} {x3 : Int32} {x4 : Int32} {y0 : Int32} {y1 : Int32} {v : mmM} {c : Nat} {K : mmO → mmM → Prop} (hc : c + mm_mc kX6_promisedFor ≤ mm_mc kX6_availableFor) (g : mm_M kX6_promisedFor [.ref 81, .int x1, .int x4] v (mm_Kc kX6_availableFor 30 [.ref 81, .int x1, .int x2, .int x3, .int x4] [.int y1, .int y0] (c + mm_mc kX6_promisedFor) K)) : mm_E kX6_availableFor 23 [.ref 81, .int x1, .int x2, .int x3, .int x4] [.int y1, .int y0] v c K := by
  refine e_run 3 (pc1 := 27) (L1 := [.ref 81, .int x1, .int x2, .int x3, .int x4]) (S1 := [.int x4, .int x1, .ref 81, .int y1, .int y0]) (v1 := v) rfl ?_
  exact e_cl (j := kX6_promisedFor) rfl hc g
theorem bX6_availableFor_30 {x1 : Int32} {x2 : Int32} {x3 : Int32} {x4 : Int32} {y0 : Int32} {y1 : Int32} {y2 : Int32} {v : mmM} {c : Nat} {K : mmO → mmM → Prop} (g : mm_E kX6_availableFor 9 [.ref 81, .int x1, .int x2, .int (if (y1 - y2) < y0 then (y1 - y2) else y0), .int (x4 + (1 : Int32))] [] v c K) : mm_E kX6_availableFor 30 [.ref 81, .int x1, .int x2, .int x3, .int x4] [.int y2, .int y1, .int y0] v c K := by
  refine e_run 5 (pc1 := 9) (L1 := [.ref 81, .int x1, .int x2, .int (if (y1 - y2) < y0 then (y1 - y2) else y0), .int (x4 + (1 : Int32))]) (S1 := []) (v1 := v) rfl ?_
  exact g
theorem bX6_availableFor_41 {x1 : Int32} {x2 : Int32} {x3 : Int32} {x4 : Int32} {v : mmM} {c : Nat} {K : mmO → mmM → Prop} (g : K (.inl (some (.int x3))) v) : mm_E kX6_availableFor 41 [.ref 81, .int x1, .int x2, .int x3, .int x4] [] v c K := by
  refine e_run 1 (pc1 := 42) (L1 := [.ref 81, .int x1, .int x2, .int x3, .int x4]) (S1 := [.int x3]) (v1 := v) rfl ?_
  exact e_iret (ty := .int) rfl rfl rfl g
theorem bX6_promise_0 {x1 : Int32} {x2 : Int32} {x3 : Int32} {x4 : Int32} {l5 : Value} {l6 : Value} {l7 : Value} {v : mmM} {c : Nat} {K : mmO → mmM → Prop} (hc : c + mm_mc kX6_isItem ≤ mm_mc kX6_promise) (g : mm_M kX6_isItem [.ref 81, .int x1] v (mm_Kc kX6_promise 5 [.ref 81, .int x1, .int x2, .int x3, .int x4, l5, l6, l7] [] (c + mm_mc kX6_isItem) K)) : mm_E kX6_promise 0 [.ref 81, .int x1, .int x2, .int x3, .int x4, l5, l6, l7] [] v c K := by
  refine e_run 2 (pc1 := 2) (L1 := [.ref 81, .int x1, .int x2, .int x3, .int x4, l5, l6, l7]) (S1 := [.int x1, .ref 81]) (v1 := v) rfl ?_
  exact e_cl (j := kX6_isItem) rfl hc g
theorem bX6_promise_5 {x1 : Int32} {x2 : Int32} {x3 : Int32} {x4 : Int32} {l5 : Value} {l6 : Value} {l7 : Value} {y0 : Int32} {v : mmM} {c : Nat} {K : mmO → mmM → Prop} (g1 : y0 = 0 → mm_E kX6_promise 8 [.ref 81, .int x1, .int x2, .int x3, .int x4, l5, l6, l7] [] v c K) (g2 : ¬ y0 = 0 → mm_E kX6_promise 14 [.ref 81, .int x1, .int x2, .int x3, .int x4, l5, l6, l7] [] v c K) : mm_E kX6_promise 5 [.ref 81, .int x1, .int x2, .int x3, .int x4, l5, l6, l7] [.int y0] v c K := by
  exact e_if (p := y0 = 0) rfl g1 g2
theorem bX6_promise_8 {x1 : Int32} {x2 : Int32} {x3 : Int32} {x4 : Int32} {l5 : Value} {l6 : Value} {l7 : Value} {v : mmM} {c : Nat} {K : mmO → mmM → Prop} (hc : c + mm_mc kX6_raises ≤ mm_mc kX6_promise) (g : mm_M kX6_raises [.ref 81, .int (1 : Int32)] v (mm_Kc kX6_promise 13 [.ref 81, .int x1, .int x2, .int x3, .int x4, l5, l6, l7] [] (c + mm_mc kX6_raises) K)) : mm_E kX6_promise 8 [.ref 81, .int x1, .int x2, .int x3, .int x4, l5, l6, l7] [] v c K := by
  refine e_run 2 (pc1 := 10) (L1 := [.ref 81, .int x1, .int x2, .int x3, .int x4, l5, l6, l7]) (S1 := [.int (1 : Int32), .ref 81]) (v1 := v) rfl ?_
  exact e_cl (j := kX6_raises) rfl hc g
theorem bX6_promise_13 {x1 : Int32} {x2 : Int32} {x3 : Int32} {x4 : Int32} {l5 : Value} {l6 : Value} {l7 : Value} {y0 : Int32} {v : mmM} {c : Nat} {K : mmO → mmM → Prop} (g : K (.inl (some (.int y0))) v) : mm_E kX6_promise 13 [.ref 81, .int x1, .int x2, .int x3, .int x4, l5, l6, l7] [.int y0] v c K := by
  exact e_iret (ty := .int) rfl rfl rfl g
theorem bX6_promise_14 {x1 : Int32} {x2 : Int32} {x3 : Int32} {x4 : Int32} {l5 : Value} {l6 : Value} {l7 : Value} {v : mmM} {c : Nat} {K : mmO → mmM → Prop} (hc : c + mm_mc kX6_in ≤ mm_mc kX6_promise) (g : mm_M kX6_in [.int x2, .int (1 : Int32), .int (60 : Int32)] v (mm_Kc kX6_promise 21 [.ref 81, .int x1, .int x2, .int x3, .int x4, l5, l6, l7] [] (c + mm_mc kX6_in) K)) : mm_E kX6_promise 14 [.ref 81, .int x1, .int x2, .int x3, .int x4, l5, l6, l7] [] v c K := by
  refine e_run 3 (pc1 := 18) (L1 := [.ref 81, .int x1, .int x2, .int x3, .int x4, l5, l6, l7]) (S1 := [.int (60 : Int32), .int (1 : Int32), .int x2]) (v1 := v) rfl ?_
  exact e_cl (j := kX6_in) rfl hc g
theorem bX6_promise_21 {x1 : Int32} {x2 : Int32} {x3 : Int32} {x4 : Int32} {l5 : Value} {l6 : Value} {l7 : Value} {y0 : Int32} {v : mmM} {c : Nat} {K : mmO → mmM → Prop} (g1 : y0 = 0 → mm_E kX6_promise 42 [.ref 81, .int x1, .int x2, .int x3, .int x4, l5, l6, l7] [] v c K) (g2 : ¬ y0 = 0 → mm_E kX6_promise 24 [.ref 81, .int x1, .int x2, .int x3, .int x4, l5, l6, l7] [] v c K) : mm_E kX6_promise 21 [.ref 81, .int x1, .int x2, .int x3, .int x4, l5, l6, l7] [.int y0] v c K := by
  exact e_if (p := y0 = 0) rfl g1 g2
theorem bX6_promise_24 {x1 : Int32} {x2 : Int32} {x3 : Int32} {x4 : Int32} {l5 : Value} {l6 : Value} {l7 : Value} {v : mmM} {c : Nat} {K : mmO → mmM → Prop} (hc : c + mm_mc kX6_in ≤ mm_mc kX6_promise) (g : mm_M kX6_in [.int x3, .int (v 81 25), .int ((v 81 25) + (60 : Int32))] v (mm_Kc kX6_promise 39 [.ref 81, .int x1, .int x2, .int x3, .int x4, l5, l6, l7] [] (c + mm_mc kX6_in) K)) : mm_E kX6_promise 24 [.ref 81, .int x1, .int x2, .int x3, .int x4, l5, l6, l7] [] v c K := by
  refine e_run 7 (pc1 := 36) (L1 := [.ref 81, .int x1, .int x2, .int x3, .int x4, l5, l6, l7]) (S1 := [.int ((v 81 25) + (60 : Int32)), .int (v 81 25), .int x3]) (v1 := v) rfl ?_
  exact e_cl (j := kX6_in) rfl hc g
theorem bX6_promise_39 {x1 : Int32} {x2 : Int32} {x3 : Int32} {x4 : Int32} {l5 : Value} {l6 : Value} {l7 : Value} {y0 : Int32} {v : mmM} {c : Nat} {K : mmO → mmM → Prop} (g1 : y0 = 0 → mm_E kX6_promise 42 [.ref 81, .int x1, .int x2, .int x3, .int x4, l5, l6, l7] [] v c K) (g2 : ¬ y0 = 0 → mm_E kX6_promise 48 [.ref 81, .int x1, .int x2, .int x3, .int x4, l5, l6, l7] [] v c K) : mm_E kX6_promise 39 [.ref 81, .int x1, .int x2, .int x3, .int x4, l5, l6, l7] [.int y0] v c K := by
  exact e_if (p := y0 = 0) rfl g1 g2
theorem bX6_promise_42 {x1 : Int32} {x2 : Int32} {x3 : Int32} {x4 : Int32} {l5 : Value} {l6 : Value} {l7 : Value} {v : mmM} {c : Nat} {K : mmO → mmM → Prop} (hc : c + mm_mc kX6_raises ≤ mm_mc kX6_promise) (g : mm_M kX6_raises [.ref 81, .int (2 : Int32)] v (mm_Kc kX6_promise 47 [.ref 81, .int x1, .int x2, .int x3, .int x4, l5, l6, l7] [] (c + mm_mc kX6_raises) K)) : mm_E kX6_promise 42 [.ref 81, .int x1, .int x2, .int x3, .int x4, l5, l6, l7] [] v c K := by
  refine e_run 2 (pc1 := 44) (L1 := [.ref 81, .int x1, .int x2, .int x3, .int x4, l5, l6, l7]) (S1 := [.int (2 : Int32), .ref 81]) (v1 := v) rfl ?_
  exact e_cl (j := kX6_raises) rfl hc g
theorem bX6_promise_47 {x1 : Int32} {x2 : Int32} {x3 : Int32} {x4 : Int32} {l5 : Value} {l6 : Value} {l7 : Value} {y0 : Int32} {v : mmM} {c : Nat} {K : mmO → mmM → Prop} (g : K (.inl (some (.int y0))) v) : mm_E kX6_promise 47 [.ref 81, .int x1, .int x2, .int x3, .int x4, l5, l6, l7] [.int y0] v c K := by
  exact e_iret (ty := .int) rfl rfl rfl g
theorem bX6_promise_48 {x1 : Int32} {x2 : Int32} {x3 : Int32} {x4 : Int32} {l5 : Value} {l6 : Value} {l7 : Value} {v : mmM} {c : Nat} {K : mmO → mmM → Prop} (g1 : (v 81 17) = (20 : Int32) → mm_E kX6_promise 57 [.ref 81, .int x1, .int x2, .int x3, .int x4, l5, l6, l7] [] v c K) (g2 : ¬ (v 81 17) = (20 : Int32) → mm_E kX6_promise 63 [.ref 81, .int x1, .int x2, .int x3, .int x4, l5, l6, l7] [] v c K) : mm_E kX6_promise 48 [.ref 81, .int x1, .int x2, .int x3, .int x4, l5, l6, l7] [] v c K := by
  refine e_run 3 (pc1 := 54) (L1 := [.ref 81, .int x1, .int x2, .int x3, .int x4, l5, l6, l7]) (S1 := [.int (20 : Int32), .int (v 81 17)]) (v1 := v) rfl ?_
  exact e_if (p := (v 81 17) = (20 : Int32)) rfl g1 g2
theorem bX6_promise_57 {x1 : Int32} {x2 : Int32} {x3 : Int32} {x4 : Int32} {l5 : Value} {l6 : Value} {l7 : Value} {v : mmM} {c : Nat} {K : mmO → mmM → Prop} (hc : c + mm_mc kX6_raises ≤ mm_mc kX6_promise) (g : mm_M kX6_raises [.ref 81, .int (3 : Int32)] v (mm_Kc kX6_promise 62 [.ref 81, .int x1, .int x2, .int x3, .int x4, l5, l6, l7] [] (c + mm_mc kX6_raises) K)) : mm_E kX6_promise 57 [.ref 81, .int x1, .int x2, .int x3, .int x4, l5, l6, l7] [] v c K := by
  refine e_run 2 (pc1 := 59) (L1 := [.ref 81, .int x1, .int x2, .int x3, .int x4, l5, l6, l7]) (S1 := [.int (3 : Int32), .ref 81]) (v1 := v) rfl ?_
  exact e_cl (j := kX6_raises) rfl hc g
theorem bX6_promise_62 {x1 : Int32} {x2 : Int32} {x3 : Int32} {x4 : Int32} {l5 : Value} {l6 : Value} {l7 : Value} {y0 : Int32} {v : mmM} {c : Nat} {K : mmO → mmM → Prop} (g : K (.inl (some (.int y0))) v) : mm_E kX6_promise 62 [.ref 81, .int x1, .int x2, .int x3, .int x4, l5, l6, l7] [.int y0] v c K := by
  exact e_iret (ty := .int) rfl rfl rfl g
theorem bX6_promise_63 {x1 : Int32} {x2 : Int32} {x3 : Int32} {x4 : Int32} {l5 : Value} {l6 : Value} {l7 : Value} {v : mmM} {c : Nat} {K : mmO → mmM → Prop} (g : mm_E kX6_promise 66 [.ref 81, .int x1, .int x2, .int x3, .int x4, .int (0 : Int32), l6, l7] [] v c K) : mm_E kX6_promise 63 [.ref 81, .int x1, .int x2, .int x3, .int x4, l5, l6, l7] [] v c K := by
  refine e_run 2 (pc1 := 66) (L1 := [.ref 81, .int x1, .int x2, .int x3, .int x4, .int (0 : Int32), l6, l7]) (S1 := []) (v1 := v) rfl ?_
  exact g
theorem bX6_promise_66 {x1 : Int32} {x2 : Int32} {x3 : Int32} {x4 : Int32} {x5 : Int32} {l6 : Value} {l7 : Value} {v : mmM} {c : Nat} {K : mmO → mmM → Prop} (g1 : (6 : Int32) ≤ x5 → mm_E kX6_promise 87 [.ref 81, .int x1, .int x2, .int x3, .int x4, .int x5, l6, l7] [] v c K) (g2 : ¬ (6 : Int32) ≤ x5 → mm_E kX6_promise 73 [.ref 81, .int x1, .int x2, .int x3, .int x4, .int x5, l6, l7] [] v c K) : mm_E kX6_promise 66 [.ref 81, .int x1, .int x2, .int x3, .int x4, .int x5, l6, l7] [] v c K := by
  refine e_run 2 (pc1 := 70) (L1 := [.ref 81, .int x1, .int x2, .int x3, .int x4, .int x5, l6, l7]) (S1 := [.int (6 : Int32), .int x5]) (v1 := v) rfl ?_
  exact e_if (p := (6 : Int32) ≤ x5) rfl g1 g2
theorem bX6_promise_73 {x1 : Int32} {x2 : Int32} {x3 : Int32} {x4 : Int32} {x5 : Int32} {l6 : Value} {l7 : Value} {v : mmM} {c : Nat} {K : mmO → mmM → Prop} (h1 : mm_in x5 6 = true) (g : mm_E kX6_promise 66 [.ref 81, .int x1, .int x2, .int x3, .int x4, .int (x5 + (1 : Int32)), l6, l7] [] (mm_up v 241 x5.toNatClampNeg (0 : Int32)) c K) : mm_E kX6_promise 73 [.ref 81, .int x1, .int x2, .int x3, .int x4, .int x5, l6, l7] [] v c K := by
  refine e_run 4 (pc1 := 80) (L1 := [.ref 81, .int x1, .int x2, .int x3, .int x4, .int x5, l6, l7]) (S1 := [.int (0 : Int32), .int x5, .ref 241]) (v1 := v) rfl ?_
  refine e_iast rfl rfl (by decide) h1 ?_
  refine e_run 2 (pc1 := 66) (L1 := [.ref 81, .int x1, .int x2, .int x3, .int x4, .int (x5 + (1 : Int32)), l6, l7]) (S1 := []) (v1 := mm_up v 241 x5.toNatClampNeg (0 : Int32)) rfl ?_
  exact g
theorem bX6_promise_87 {x1 : Int32} {x2 : Int32} {x3 : Int32} {x4 : Int32} {x5 : Int32} {l6 : Value} {l7 : Value} {v : mmM} {c : Nat} {K : mmO → mmM → Prop} (hc : c + mm_mc kX6_gives ≤ mm_mc kX6_promise) (g : mm_M kX6_gives [.ref 81, .int x1, .int x2, .int x3] v (mm_Kc kX6_promise 95 [.ref 81, .int x1, .int x2, .int x3, .int x4, .int x5, l6, l7] [.int x2] (c + mm_mc kX6_gives) K)) : mm_E kX6_promise 87 [.ref 81, .int x1, .int x2, .int x3, .int x4, .int x5, l6, l7] [] v c K := by
  refine e_run 5 (pc1 := 92) (L1 := [.ref 81, .int x1, .int x2, .int x3, .int x4, .int x5, l6, l7]) (S1 := [.int x3, .int x2, .int x1, .ref 81, .int x2]) (v1 := v) rfl ?_
  exact e_cl (j := kX6_gives) rfl hc g
theorem bX6_promise_95 {x1 : Int32} {x2 : Int32} {x3 : Int32} {x4 : Int32} {x5 : Int32} {l6 : Value} {l7 : Value} {y0 : Int32} {y1 : Int32} {v : mmM} {c : Nat} {K : mmO → mmM → Prop} (g : mm_E kX6_promise 101 [.ref 81, .int x1, .int x2, .int x3, .int x4, .int (y0 - y1), .int (1 : Int32), l7] [] v c K) : mm_E kX6_promise 95 [.ref 81, .int x1, .int x2, .int x3, .int x4, .int x5, l6, l7] [.int y1, .int y0] v c K := by
  refine e_run 4 (pc1 := 101) (L1 := [.ref 81, .int x1, .int x2, .int x3, .int x4, .int (y0 - y1), .int (1 : Int32), l7]) (S1 := []) (v1 := v) rfl ?_
  exact g
theorem bX6_promise_101 {x1 : Int32} {x2 : Int32} {x3 : Int32} {x4 : Int32} {x5 : Int32} {x6 : Int32} {l7 : Value} {v : mmM} {c : Nat} {K : mmO → mmM → Prop} (g1 : (9 : Int32) < x6 → mm_E kX6_promise 165 [.ref 81, .int x1, .int x2, .int x3, .int x4, .int x5, .int x6, l7] [] v c K) (g2 : ¬ (9 : Int32) < x6 → mm_E kX6_promise 108 [.ref 81, .int x1, .int x2, .int x3, .int x4, .int x5, .int x6, l7] [] v c K) : mm_E kX6_promise 101 [.ref 81, .int x1, .int x2, .int x3, .int x4, .int x5, .int x6, l7] [] v c K := by
  refine e_run 2 (pc1 := 105) (L1 := [.ref 81, .int x1, .int x2, .int x3, .int x4, .int x5, .int x6, l7]) (S1 := [.int (9 : Int32), .int x6]) (v1 := v) rfl ?_
  exact e_if (p := (9 : Int32) < x6) rfl g1 g2
theorem bX6_promise_108 {x1 : Int32} {x2 : Int32} {x3 : Int32} {x4 : Int32} {x5 : Int32} {x6 : Int32} {l7 : Value} {v : mmM} {c : Nat} {K : mmO → mmM → Prop} (g1 : x4 = 0 → mm_E kX6_promise 165 [.ref 81, .int x1, .int x2, .int x3, .int x4, .int x5, .int x6, l7] [] v c K) (g2 : ¬ x4 = 0 → mm_E kX6_promise 113 [.ref 81, .int x1, .int x2, .int x3, .int x4, .int x5, .int x6, l7] [] v c K) : mm_E kX6_promise 108 [.ref 81, .int x1, .int x2, .int x3, .int x4, .int x5, .int x6, l7] [] v c K := by
  refine e_run 1 (pc1 := 110) (L1 := [.ref 81, .int x1, .int x2, .int x3, .int x4, .int x5, .int x6, l7]) (S1 := [.int x4]) (v1 := v) rfl ?_
  exact e_if (p := x4 = 0) rfl g1 g2
theorem bX6_promise_113 {x1 : Int32} {x2 : Int32} {x3 : Int32} {x4 : Int32} {x5 : Int32} {x6 : Int32} {l7 : Value} {v : mmM} {c : Nat} {K : mmO → mmM → Prop} (g : mm_E kX6_promise 116 [.ref 81, .int x1, .int x2, .int x3, .int x4, .int x5, .int x6, .int (0 : Int32)] [] v c K) : mm_E kX6_promise 113 [.ref 81, .int x1, .int x2, .int x3, .int x4, .int x5, .int x6, l7] [] v c K := by
  refine e_run 2 (pc1 := 116) (L1 := [.ref 81, .int x1, .int x2, .int x3, .int x4, .int x5, .int x6, .int (0 : Int32)]) (S1 := []) (v1 := v) rfl ?_
  exact g
theorem bX6_promise_116 {x1 : Int32} {x2 : Int32} {x3 : Int32} {x4 : Int32} {x5 : Int32} {x6 : Int32} {x7 : Int32} {v : mmM} {c : Nat} {K : mmO → mmM → Prop} (g1 : (v 81 2) ≤ x7 → mm_E kX6_promise 159 [.ref 81, .int x1, .int x2, .int x3, .int x4, .int x5, .int x6, .int x7] [] v c K) (g2 : ¬ (v 81 2) ≤ x7 → mm_E kX6_promise 125 [.ref 81, .int x1, .int x2, .int x3, .int x4, .int x5, .int x6, .int x7] [] v c K) : mm_E kX6_promise 116 [.ref 81, .int x1, .int x2, .int x3, .int x4, .int x5, .int x6, .int x7] [] v c K := by
  refine e_run 3 (pc1 := 122) (L1 := [.ref 81, .int x1, .int x2, .int x3, .int x4, .int x5, .int x6, .int x7]) (S1 := [.int (v 81 2), .int x7]) (v1 := v) rfl ?_
  exact e_if (p := (v 81 2) ≤ x7) rfl g1 g2
theorem bX6_promise_125 {x1 : Int32} {x2 : Int32} {x3 : Int32} {x4 : Int32} {x5 : Int32} {x6 : Int32} {x7 : Int32} {v : mmM} {c : Nat} {K : mmO → mmM → Prop} (h1 : mm_in x1 6 = true) (h2 : mm_in x7 6 = true) (g1 : (v (84 + x1.toNatClampNeg) x7.toNatClampNeg) = x6 → mm_E kX6_promise 139 [.ref 81, .int x1, .int x2, .int x3, .int x4, .int x5, .int x6, .int x7] [] v c K) (g2 : ¬ (v (84 + x1.toNatClampNeg) x7.toNatClampNeg) = x6 → mm_E kX6_promise 153 [.ref 81, .int x1, .int x2, .int x3, .int x4, .int x5, .int x6, .int x7] [] v c K) : mm_E kX6_promise 125 [.ref 81, .int x1, .int x2, .int x3, .int x4, .int x5, .int x6, .int x7] [] v c K := by
  refine e_run 3 (pc1 := 130) (L1 := [.ref 81, .int x1, .int x2, .int x3, .int x4, .int x5, .int x6, .int x7]) (S1 := [.int x1, .ref 83]) (v1 := v) rfl ?_
  refine e_aald rfl rfl (by decide) h1 ?_
  refine e_run 1 (pc1 := 133) (L1 := [.ref 81, .int x1, .int x2, .int x3, .int x4, .int x5, .int x6, .int x7]) (S1 := [.int x7, .ref (84 + x1.toNatClampNeg)]) (v1 := v) rfl ?_
  refine e_iald rfl (mm_rows (P := fun x => mm_sh (84 + x) = (0, 6, 0, [])) (by decide +kernel) (mm_in_lt h1)) (by have := (mm_in_lt h1); show _ < 244; omega) h2 ?_
  refine e_run 1 (pc1 := 136) (L1 := [.ref 81, .int x1, .int x2, .int x3, .int x4, .int x5, .int x6, .int x7]) (S1 := [.int x6, .int (v (84 + x1.toNatClampNeg) x7.toNatClampNeg)]) (v1 := v) rfl ?_
  exact e_if (p := (v (84 + x1.toNatClampNeg) x7.toNatClampNeg) = x6) rfl g1 g2
theorem bX6_promise_139 {x1 : Int32} {x2 : Int32} {x3 : Int32} {x4 : Int32} {x5 : Int32} {x6 : Int32} {x7 : Int32} {v : mmM} {c : Nat} {K : mmO → mmM → Prop} (hc : c + mm_mc kX6_gives ≤ mm_mc kX6_promise) (g : mm_M kX6_gives [.ref 81, .int x7, .int x5, .int x3] v (mm_Kc kX6_promise 150 [.ref 81, .int x1, .int x2, .int x3, .int x4, .int x5, .int x6, .int x7] [.int x5] (c + mm_mc kX6_gives) K)) : mm_E kX6_promise 139 [.ref 81, .int x1, .int x2, .int x3, .int x4, .int x5, .int x6, .int x7] [] v c K := by
  refine e_run 5 (pc1 := 147) (L1 := [.ref 81, .int x1, .int x2, .int x3, .int x4, .int x5, .int x6, .int x7]) (S1 := [.int x3, .int x5, .int x7, .ref 81, .int x5]) (v1 := v) rfl ?_
  exact e_cl (j := kX6_gives) rfl hc g
theorem bX6_promise_150 {x1 : Int32} {x2 : Int32} {x3 : Int32} {x4 : Int32} {x5 : Int32} {x6 : Int32} {x7 : Int32} {y0 : Int32} {y1 : Int32} {v : mmM} {c : Nat} {K : mmO → mmM → Prop} (g : mm_E kX6_promise 153 [.ref 81, .int x1, .int x2, .int x3, .int x4, .int (y0 - y1), .int x6, .int x7] [] v c K) : mm_E kX6_promise 150 [.ref 81, .int x1, .int x2, .int x3, .int x4, .int x5, .int x6, .int x7] [.int y1, .int y0] v c K := by
  refine e_run 2 (pc1 := 153) (L1 := [.ref 81, .int x1, .int x2, .int x3, .int x4, .int (y0 - y1), .int x6, .int x7]) (S1 := []) (v1 := v) rfl ?_
  exact g
theorem bX6_promise_153 {x1 : Int32} {x2 : Int32} {x3 : Int32} {x4 : Int32} {x5 : Int32} {x6 : Int32} {x7 : Int32} {v : mmM} {c : Nat} {K : mmO → mmM → Prop} (g : mm_E kX6_promise 116 [.ref 81, .int x1, .int x2, .int x3, .int x4, .int x5, .int x6, .int (x7 + (1 : Int32))] [] v c K) : mm_E kX6_promise 153 [.ref 81, .int x1, .int x2, .int x3, .int x4, .int x5, .int x6, .int x7] [] v c K := by
  refine e_run 2 (pc1 := 116) (L1 := [.ref 81, .int x1, .int x2, .int x3, .int x4, .int x5, .int x6, .int (x7 + (1 : Int32))]) (S1 := []) (v1 := v) rfl ?_
  exact g
theorem bX6_promise_159 {x1 : Int32} {x2 : Int32} {x3 : Int32} {x4 : Int32} {x5 : Int32} {x6 : Int32} {x7 : Int32} {v : mmM} {c : Nat} {K : mmO → mmM → Prop} (g : mm_E kX6_promise 101 [.ref 81, .int x1, .int x2, .int x3, .int x4, .int x5, .int (x6 + (1 : Int32)), .int x7] [] v c K) : mm_E kX6_promise 159 [.ref 81, .int x1, .int x2, .int x3, .int x4, .int x5, .int x6, .int x7] [] v c K := by
  refine e_run 2 (pc1 := 101) (L1 := [.ref 81, .int x1, .int x2, .int x3, .int x4, .int x5, .int (x6 + (1 : Int32)), .int x7]) (S1 := []) (v1 := v) rfl ?_
  exact g
theorem bX6_promise_165 {x1 : Int32} {x2 : Int32} {x3 : Int32} {x4 : Int32} {x5 : Int32} {x6 : Int32} {l7 : Value} {v : mmM} {c : Nat} {K : mmO → mmM → Prop} (g1 : x5 ≤ 0 → mm_E kX6_promise 176 [.ref 81, .int x1, .int x2, .int x3, .int x4, .int x5, .int x6, l7] [] v c K) (g2 : ¬ x5 ≤ 0 → mm_E kX6_promise 170 [.ref 81, .int x1, .int x2, .int x3, .int x4, .int x5, .int x6, l7] [] v c K) : mm_E kX6_promise 165 [.ref 81, .int x1, .int x2, .int x3, .int x4, .int x5, .int x6, l7] [] v c K := by
  refine e_run 1 (pc1 := 167) (L1 := [.ref 81, .int x1, .int x2, .int x3, .int x4, .int x5, .int x6, l7]) (S1 := [.int x5]) (v1 := v) rfl ?_
  exact e_if (p := x5 ≤ 0) rfl g1 g2
theorem bX6_promise_170 {x1 : Int32} {x2 : Int32} {x3 : Int32} {x4 : Int32} {x5 : Int32} {x6 : Int32} {l7 : Value} {v : mmM} {c : Nat} {K : mmO → mmM → Prop} (hc : c + mm_mc kX6_raises ≤ mm_mc kX6_promise) (g : mm_M kX6_raises [.ref 81, .int (4 : Int32)] v (mm_Kc kX6_promise 175 [.ref 81, .int x1, .int x2, .int x3, .int x4, .int x5, .int x6, l7] [] (c + mm_mc kX6_raises) K)) : mm_E kX6_promise 170 [.ref 81, .int x1, .int x2, .int x3, .int x4, .int x5, .int x6, l7] [] v c K := by
  refine e_run 2 (pc1 := 172) (L1 := [.ref 81, .int x1, .int x2, .int x3, .int x4, .int x5, .int x6, l7]) (S1 := [.int (4 : Int32), .ref 81]) (v1 := v) rfl ?_
  exact e_cl (j := kX6_raises) rfl hc g
theorem bX6_promise_175 {x1 : Int32} {x2 : Int32} {x3 : Int32} {x4 : Int32} {x5 : Int32} {x6 : Int32} {l7 : Value} {y0 : Int32} {v : mmM} {c : Nat} {K : mmO → mmM → Prop} (g : K (.inl (some (.int y0))) v) : mm_E kX6_promise 175 [.ref 81, .int x1, .int x2, .int x3, .int x4, .int x5, .int x6, l7] [.int y0] v c K := by
  exact e_iret (ty := .int) rfl rfl rfl g
theorem bX6_promise_176 {x1 : Int32} {x2 : Int32} {x3 : Int32} {x4 : Int32} {x5 : Int32} {x6 : Int32} {l7 : Value} {v : mmM} {c : Nat} {K : mmO → mmM → Prop} (h1 : mm_in ((mm_up v 81 26 (0 : Int32)) 81 17) 20 = true) (h2 : mm_in ((mm_up v 81 26 (0 : Int32)) 81 17) 20 = true) (g : mm_E kX6_promise 205 [.ref 81, .int x1, .int x2, .int x3, .int x4, .int x5, .int (0 : Int32), l7] [] (mm_up (mm_up (mm_up v 81 26 (0 : Int32)) 120 ((mm_up v 81 26 (0 : Int32)) 81 17).toNatClampNeg x3) 121 ((mm_up v 81 26 (0 : Int32)) 81 17).toNatClampNeg (111 : Int32)) c K) : mm_E kX6_promise 176 [.ref 81, .int x1, .int x2, .int x3, .int x4, .int x5, .int x6, l7] [] v c K := by
  refine e_run 8 (pc1 := 190) (L1 := [.ref 81, .int x1, .int x2, .int x3, .int x4, .int x5, .int x6, l7]) (S1 := [.int x3, .int ((mm_up v 81 26 (0 : Int32)) 81 17), .ref 120]) (v1 := mm_up v 81 26 (0 : Int32)) rfl ?_
  refine e_iast rfl rfl (by decide) h1 ?_
  refine e_run 5 (pc1 := 201) (L1 := [.ref 81, .int x1, .int x2, .int x3, .int x4, .int x5, .int x6, l7]) (S1 := [.int (111 : Int32), .int ((mm_up v 81 26 (0 : Int32)) 81 17), .ref 121]) (v1 := mm_up (mm_up v 81 26 (0 : Int32)) 120 ((mm_up v 81 26 (0 : Int32)) 81 17).toNatClampNeg x3) rfl ?_
  refine e_cast rfl rfl (by decide) h2 (by decide) ?_
  refine e_run 2 (pc1 := 205) (L1 := [.ref 81, .int x1, .int x2, .int x3, .int x4, .int x5, .int (0 : Int32), l7]) (S1 := []) (v1 := mm_up (mm_up (mm_up v 81 26 (0 : Int32)) 120 ((mm_up v 81 26 (0 : Int32)) 81 17).toNatClampNeg x3) 121 ((mm_up v 81 26 (0 : Int32)) 81 17).toNatClampNeg (111 : Int32)) rfl ?_
  exact g
theorem bX6_promise_205 {x1 : Int32} {x2 : Int32} {x3 : Int32} {x4 : Int32} {x5 : Int32} {x6 : Int32} {l7 : Value} {v : mmM} {c : Nat} {K : mmO → mmM → Prop} (g1 : (6 : Int32) ≤ x6 → mm_E kX6_promise 237 [.ref 81, .int x1, .int x2, .int x3, .int x4, .int x5, .int x6, l7] [] v c K) (g2 : ¬ (6 : Int32) ≤ x6 → mm_E kX6_promise 212 [.ref 81, .int x1, .int x2, .int x3, .int x4, .int x5, .int x6, l7] [] v c K) : mm_E kX6_promise 205 [.ref 81, .int x1, .int x2, .int x3, .int x4, .int x5, .int x6, l7] [] v c K := by
  refine e_run 2 (pc1 := 209) (L1 := [.ref 81, .int x1, .int x2, .int x3, .int x4, .int x5, .int x6, l7]) (S1 := [.int (6 : Int32), .int x6]) (v1 := v) rfl ?_
  exact e_if (p := (6 : Int32) ≤ x6) rfl g1 g2
theorem bX6_promise_212 {x1 : Int32} {x2 : Int32} {x3 : Int32} {x4 : Int32} {x5 : Int32} {x6 : Int32} {l7 : Value} {v : mmM} {c : Nat} {K : mmO → mmM → Prop} (h1 : mm_in (v 81 17) 20 = true) (h2 : mm_in x6 6 = true) (h3 : mm_in x6 6 = true) (g : mm_E kX6_promise 205 [.ref 81, .int x1, .int x2, .int x3, .int x4, .int x5, .int (x6 + (1 : Int32)), l7] [] (mm_up v (123 + (v 81 17).toNatClampNeg) x6.toNatClampNeg (v 241 x6.toNatClampNeg)) c K) : mm_E kX6_promise 212 [.ref 81, .int x1, .int x2, .int x3, .int x4, .int x5, .int x6, l7] [] v c K := by
  refine e_run 4 (pc1 := 220) (L1 := [.ref 81, .int x1, .int x2, .int x3, .int x4, .int x5, .int x6, l7]) (S1 := [.int (v 81 17), .ref 122]) (v1 := v) rfl ?_
  refine e_aald rfl rfl (by decide) h1 ?_
  refine e_run 4 (pc1 := 229) (L1 := [.ref 81, .int x1, .int x2, .int x3, .int x4, .int x5, .int x6, l7]) (S1 := [.int x6, .ref 241, .int x6, .ref (123 + (v 81 17).toNatClampNeg)]) (v1 := v) rfl ?_
  refine e_iald rfl rfl (by decide) h2 ?_
  refine e_iast rfl (mm_rows (P := fun x => mm_sh (123 + x) = (0, 6, 0, [])) (by decide +kernel) (mm_in_lt h1)) (by have := (mm_in_lt h1); show _ < 244; omega) h3 ?_
  refine e_run 2 (pc1 := 205) (L1 := [.ref 81, .int x1, .int x2, .int x3, .int x4, .int x5, .int (x6 + (1 : Int32)), l7]) (S1 := []) (v1 := mm_up v (123 + (v 81 17).toNatClampNeg) x6.toNatClampNeg (v 241 x6.toNatClampNeg)) rfl ?_
  exact g
theorem bX6_promise_237 {x1 : Int32} {x2 : Int32} {x3 : Int32} {x4 : Int32} {x5 : Int32} {x6 : Int32} {l7 : Value} {v : mmM} {c : Nat} {K : mmO → mmM → Prop} (g : K (.inl (some (.int (((v 81 17) + (1 : Int32)) - (1 : Int32))))) (mm_up v 81 17 ((v 81 17) + (1 : Int32)))) : mm_E kX6_promise 237 [.ref 81, .int x1, .int x2, .int x3, .int x4, .int x5, .int x6, l7] [] v c K := by
  refine e_run 10 (pc1 := 253) (L1 := [.ref 81, .int x1, .int x2, .int x3, .int x4, .int x5, .int x6, l7]) (S1 := [.int (((v 81 17) + (1 : Int32)) - (1 : Int32))]) (v1 := mm_up v 81 17 ((v 81 17) + (1 : Int32))) rfl ?_
  exact e_iret (ty := .int) rfl rfl rfl g
theorem bX6_gives_0 {x1 : Int32} {x2 : Int32} {x3 : Int32} {v : mmM} {c : Nat} {K : mmO → mmM → Prop} (hc : c + mm_mc kX6_availableFor ≤ mm_mc kX6_gives) (g : mm_M kX6_availableFor [.ref 81, .int x1, .int x3] v (mm_Kc kX6_gives 13 [.ref 81, .int x1, .int x2, .int x3] [.int (0 : Int32), .int x2, .int x1, .ref 241] (c + mm_mc kX6_availableFor) K)) : mm_E kX6_gives 0 [.ref 81, .int x1, .int x2, .int x3] [] v c K := by
  refine e_run 8 (pc1 := 10) (L1 := [.ref 81, .int x1, .int x2, .int x3]) (S1 := [.int x3, .int x1, .ref 81, .int (0 : Int32), .int x2, .int x1, .ref 241]) (v1 := v) rfl ?_
  exact e_cl (j := kX6_availableFor) rfl hc g
theorem bX6_gives_13 {x1 : Int32} {x2 : Int32} {x3 : Int32} {y1 : Int32} {y2 : Int32} {y3 : Int32} {y4 : Int32} {v : mmM} {c : Nat} {K : mmO → mmM → Prop} (h1 : mm_in y1 6 = true) (h2 : mm_in x1 6 = true) (g : K (.inl (some (.int ((mm_up v 241 y1.toNatClampNeg (if (if y3 < y4 then y4 else y3) < y2 then (if y3 < y4 then y4 else y3) else y2)) 241 x1.toNatClampNeg)))) (mm_up v 241 y1.toNatClampNeg (if (if y3 < y4 then y4 else y3) < y2 then (if y3 < y4 then y4 else y3) else y2))) : mm_E kX6_gives 13 [.ref 81, .int x1, .int x2, .int x3] [.int y4, .int y3, .int y2, .int y1, .ref 241] v c K := by
  refine e_run 2 (pc1 := 19) (L1 := [.ref 81, .int x1, .int x2, .int x3]) (S1 := [.int (if (if y3 < y4 then y4 else y3) < y2 then (if y3 < y4 then y4 else y3) else y2), .int y1, .ref 241]) (v1 := v) rfl ?_
  refine e_iast rfl rfl (by decide) h1 ?_
  refine e_run 3 (pc1 := 25) (L1 := [.ref 81, .int x1, .int x2, .int x3]) (S1 := [.int x1, .ref 241]) (v1 := mm_up v 241 y1.toNatClampNeg (if (if y3 < y4 then y4 else y3) < y2 then (if y3 < y4 then y4 else y3) else y2)) rfl ?_
  refine e_iald rfl rfl (by decide) h2 ?_
  exact e_iret (ty := .int) rfl rfl rfl g
theorem bX6_isNotOpen_0 {x1 : Int32} {v : mmM} {c : Nat} {K : mmO → mmM → Prop} (hc : c + mm_mc kX6_isPromise ≤ mm_mc kX6_isNotOpen) (g : mm_M kX6_isPromise [.ref 81, .int x1] v (mm_Kc kX6_isNotOpen 6 [.ref 81, .int x1] [.ref 81] (c + mm_mc kX6_isPromise) K)) : mm_E kX6_isNotOpen 0 [.ref 81, .int x1] [] v c K := by
  refine e_run 3 (pc1 := 3) (L1 := [.ref 81, .int x1]) (S1 := [.int x1, .ref 81, .ref 81]) (v1 := v) rfl ?_
  exact e_cl (j := kX6_isPromise) rfl hc g
theorem bX6_isNotOpen_6 {x1 : Int32} {y1 : Int32} {v : mmM} {c : Nat} {K : mmO → mmM → Prop} (g1 : y1 = 0 → mm_E kX6_isNotOpen 9 [.ref 81, .int x1] [.ref 81] v c K) (g2 : ¬ y1 = 0 → mm_E kX6_isNotOpen 13 [.ref 81, .int x1] [.ref 81] v c K) : mm_E kX6_isNotOpen 6 [.ref 81, .int x1] [.int y1, .ref 81] v c K := by
  exact e_if (p := y1 = 0) rfl g1 g2
theorem bX6_isNotOpen_9 {x1 : Int32} {v : mmM} {c : Nat} {K : mmO → mmM → Prop} (g : mm_E kX6_isNotOpen 29 [.ref 81, .int x1] [.int (1 : Int32), .ref 81] v c K) : mm_E kX6_isNotOpen 9 [.ref 81, .int x1] [.ref 81] v c K := by
  refine e_run 2 (pc1 := 29) (L1 := [.ref 81, .int x1]) (S1 := [.int (1 : Int32), .ref 81]) (v1 := v) rfl ?_
  exact g
theorem bX6_isNotOpen_13 {x1 : Int32} {v : mmM} {c : Nat} {K : mmO → mmM → Prop} (h1 : mm_in x1 20 = true) (g1 : (v 121 x1.toNatClampNeg) = (111 : Int32) → mm_E kX6_isNotOpen 28 [.ref 81, .int x1] [.ref 81] v c K) (g2 : ¬ (v 121 x1.toNatClampNeg) = (111 : Int32) → mm_E kX6_isNotOpen 24 [.ref 81, .int x1] [.ref 81] v c K) : mm_E kX6_isNotOpen 13 [.ref 81, .int x1] [.ref 81] v c K := by
  refine e_run 3 (pc1 := 18) (L1 := [.ref 81, .int x1]) (S1 := [.int x1, .ref 121, .ref 81]) (v1 := v) rfl ?_
  refine e_cald rfl rfl (by decide) h1 ?_
  refine e_run 1 (pc1 := 21) (L1 := [.ref 81, .int x1]) (S1 := [.int (111 : Int32), .int (v 121 x1.toNatClampNeg), .ref 81]) (v1 := v) rfl ?_
  exact e_if (p := (v 121 x1.toNatClampNeg) = (111 : Int32)) rfl g1 g2
theorem bX6_isNotOpen_24 {x1 : Int32} {v : mmM} {c : Nat} {K : mmO → mmM → Prop} (g : mm_E kX6_isNotOpen 29 [.ref 81, .int x1] [.int (2 : Int32), .ref 81] v c K) : mm_E kX6_isNotOpen 24 [.ref 81, .int x1] [.ref 81] v c K := by
  refine e_run 2 (pc1 := 29) (L1 := [.ref 81, .int x1]) (S1 := [.int (2 : Int32), .ref 81]) (v1 := v) rfl ?_
  exact g
theorem bX6_isNotOpen_28 {x1 : Int32} {v : mmM} {c : Nat} {K : mmO → mmM → Prop} (g : mm_E kX6_isNotOpen 29 [.ref 81, .int x1] [.int (0 : Int32), .ref 81] v c K) : mm_E kX6_isNotOpen 28 [.ref 81, .int x1] [.ref 81] v c K := by
  refine e_run 1 (pc1 := 29) (L1 := [.ref 81, .int x1]) (S1 := [.int (0 : Int32), .ref 81]) (v1 := v) rfl ?_
  exact g
theorem bX6_isNotOpen_29 {x1 : Int32} {y1 : Int32} {v : mmM} {c : Nat} {K : mmO → mmM → Prop} (g1 : y1 ≤ 0 → mm_E kX6_isNotOpen 43 [.ref 81, .int x1] [] (mm_up v 81 26 y1) c K) (g2 : ¬ y1 ≤ 0 → mm_E kX6_isNotOpen 39 [.ref 81, .int x1] [] (mm_up v 81 26 y1) c K) : mm_E kX6_isNotOpen 29 [.ref 81, .int x1] [.int y1, .ref 81] v c K := by
  refine e_run 3 (pc1 := 36) (L1 := [.ref 81, .int x1]) (S1 := [.int y1]) (v1 := mm_up v 81 26 y1) rfl ?_
  exact e_if (p := y1 ≤ 0) rfl g1 g2
theorem bX6_isNotOpen_39 {x1 : Int32} {v : mmM} {c : Nat} {K : mmO → mmM → Prop} (g : mm_E kX6_isNotOpen 44 [.ref 81, .int x1] [.int (1 : Int32)] v c K) : mm_E kX6_isNotOpen 39 [.ref 81, .int x1] [] v c K := by
  refine e_run 2 (pc1 := 44) (L1 := [.ref 81, .int x1]) (S1 := [.int (1 : Int32)]) (v1 := v) rfl ?_
  exact g
theorem bX6_isNotOpen_43 {x1 : Int32} {v : mmM} {c : Nat} {K : mmO → mmM → Prop} (g : mm_E kX6_isNotOpen 44 [.ref 81, .int x1] [.int (0 : Int32)] v c K) : mm_E kX6_isNotOpen 43 [.ref 81, .int x1] [] v c K := by
  refine e_run 1 (pc1 := 44) (L1 := [.ref 81, .int x1]) (S1 := [.int (0 : Int32)]) (v1 := v) rfl ?_
  exact g
theorem bX6_isNotOpen_44 {x1 : Int32} {y0 : Int32} {v : mmM} {c : Nat} {K : mmO → mmM → Prop} (h1 : narrow .boolean (.int y0) = .int y0) (g : K (.inl (some (.int y0))) v) : mm_E kX6_isNotOpen 44 [.ref 81, .int x1] [.int y0] v c K := by
  exact e_iret (ty := .boolean) rfl rfl h1 g
theorem bX6_cancel_0 {x1 : Int32} {l2 : Value} {l3 : Value} {v : mmM} {c : Nat} {K : mmO → mmM → Prop} (hc : c + mm_mc kX6_isNotOpen ≤ mm_mc kX6_cancel) (g : mm_M kX6_isNotOpen [.ref 81, .int x1] v (mm_Kc kX6_cancel 5 [.ref 81, .int x1, l2, l3] [] (c + mm_mc kX6_isNotOpen) K)) : mm_E kX6_cancel 0 [.ref 81, .int x1, l2, l3] [] v c K := by
  refine e_run 2 (pc1 := 2) (L1 := [.ref 81, .int x1, l2, l3]) (S1 := [.int x1, .ref 81]) (v1 := v) rfl ?_
  exact e_cl (j := kX6_isNotOpen) rfl hc g
theorem bX6_cancel_5 {x1 : Int32} {l2 : Value} {l3 : Value} {y0 : Int32} {v : mmM} {c : Nat} {K : mmO → mmM → Prop} (g1 : y0 = 0 → mm_E kX6_cancel 10 [.ref 81, .int x1, l2, l3] [] v c K) (g2 : ¬ y0 = 0 → mm_E kX6_cancel 8 [.ref 81, .int x1, l2, l3] [] v c K) : mm_E kX6_cancel 5 [.ref 81, .int x1, l2, l3] [.int y0] v c K := by
  exact e_if (p := y0 = 0) rfl g1 g2
theorem bX6_cancel_8 {x1 : Int32} {l2 : Value} {l3 : Value} {v : mmM} {c : Nat} {K : mmO → mmM → Prop} (g : K (.inl (some (.int (0 : Int32)))) v) : mm_E kX6_cancel 8 [.ref 81, .int x1, l2, l3] [] v c K := by
  refine e_run 1 (pc1 := 9) (L1 := [.ref 81, .int x1, l2, l3]) (S1 := [.int (0 : Int32)]) (v1 := v) rfl ?_
  exact e_iret (ty := .int) rfl rfl rfl g
theorem bX6_cancel_10 {x1 : Int32} {l2 : Value} {l3 : Value} {v : mmM} {c : Nat} {K : mmO → mmM → Prop} (h1 : mm_in x1 20 = true) (g : mm_E kX6_cancel 22 [.ref 81, .int x1, .int (0 : Int32), .int (0 : Int32)] [] (mm_up v 121 x1.toNatClampNeg (99 : Int32)) c K) : mm_E kX6_cancel 10 [.ref 81, .int x1, l2, l3] [] v c K := by
  refine e_run 4 (pc1 := 17) (L1 := [.ref 81, .int x1, l2, l3]) (S1 := [.int (99 : Int32), .int x1, .ref 121]) (v1 := v) rfl ?_
  refine e_cast rfl rfl (by decide) h1 (by decide) ?_
  refine e_run 4 (pc1 := 22) (L1 := [.ref 81, .int x1, .int (0 : Int32), .int (0 : Int32)]) (S1 := []) (v1 := mm_up v 121 x1.toNatClampNeg (99 : Int32)) rfl ?_
  exact g
theorem bX6_cancel_22 {x1 : Int32} {x2 : Int32} {x3 : Int32} {v : mmM} {c : Nat} {K : mmO → mmM → Prop} (g1 : (6 : Int32) ≤ x3 → mm_E kX6_cancel 45 [.ref 81, .int x1, .int x2, .int x3] [] v c K) (g2 : ¬ (6 : Int32) ≤ x3 → mm_E kX6_cancel 28 [.ref 81, .int x1, .int x2, .int x3] [] v c K) : mm_E kX6_cancel 22 [.ref 81, .int x1, .int x2, .int x3] [] v c K := by
  refine e_run 2 (pc1 := 25) (L1 := [.ref 81, .int x1, .int x2, .int x3]) (S1 := [.int (6 : Int32), .int x3]) (v1 := v) rfl ?_
  exact e_if (p := (6 : Int32) ≤ x3) rfl g1 g2
theorem bX6_cancel_28 {x1 : Int32} {x2 : Int32} {x3 : Int32} {v : mmM} {c : Nat} {K : mmO → mmM → Prop} (h1 : mm_in x1 20 = true) (h2 : mm_in x3 6 = true) (g : mm_E kX6_cancel 22 [.ref 81, .int x1, .int (x2 + (v (123 + x1.toNatClampNeg) x3.toNatClampNeg)), .int (x3 + (1 : Int32))] [] v c K) : mm_E kX6_cancel 28 [.ref 81, .int x1, .int x2, .int x3] [] v c K := by
  refine e_run 4 (pc1 := 34) (L1 := [.ref 81, .int x1, .int x2, .int x3]) (S1 := [.int x1, .ref 122, .int x2]) (v1 := v) rfl ?_
  refine e_aald rfl rfl (by decide) h1 ?_
  refine e_run 1 (pc1 := 36) (L1 := [.ref 81, .int x1, .int x2, .int x3]) (S1 := [.int x3, .ref (123 + x1.toNatClampNeg), .int x2]) (v1 := v) rfl ?_
  refine e_iald rfl (mm_rows (P := fun x => mm_sh (123 + x) = (0, 6, 0, [])) (by decide +kernel) (mm_in_lt h1)) (by have := (mm_in_lt h1); show _ < 244; omega) h2 ?_
  refine e_run 4 (pc1 := 22) (L1 := [.ref 81, .int x1, .int (x2 + (v (123 + x1.toNatClampNeg) x3.toNatClampNeg)), .int (x3 + (1 : Int32))]) (S1 := []) (v1 := v) rfl ?_
  exact g
theorem bX6_cancel_45 {x1 : Int32} {x2 : Int32} {x3 : Int32} {v : mmM} {c : Nat} {K : mmO → mmM → Prop} (g : K (.inl (some (.int x2))) v) : mm_E kX6_cancel 45 [.ref 81, .int x1, .int x2, .int x3] [] v c K := by
  refine e_run 1 (pc1 := 46) (L1 := [.ref 81, .int x1, .int x2, .int x3]) (S1 := [.int x2]) (v1 := v) rfl ?_
  exact e_iret (ty := .int) rfl rfl rfl g
theorem bX6_pick_0 {x1 : Int32} {l2 : Value} {v : mmM} {c : Nat} {K : mmO → mmM → Prop} (hc : c + mm_mc kX6_isNotOpen ≤ mm_mc kX6_pick) (g : mm_M kX6_isNotOpen [.ref 81, .int x1] v (mm_Kc kX6_pick 5 [.ref 81, .int x1, l2] [] (c + mm_mc kX6_isNotOpen) K)) : mm_E kX6_pick 0 [.ref 81, .int x1, l2] [] v c K := by
  refine e_run 2 (pc1 := 2) (L1 := [.ref 81, .int x1, l2]) (S1 := [.int x1, .ref 81]) (v1 := v) rfl ?_
  exact e_cl (j := kX6_isNotOpen) rfl hc g
theorem bX6_pick_5 {x1 : Int32} {l2 : Value} {y0 : Int32} {v : mmM} {c : Nat} {K : mmO → mmM → Prop} (g1 : y0 = 0 → mm_E kX6_pick 10 [.ref 81, .int x1, l2] [] v c K) (g2 : ¬ y0 = 0 → mm_E kX6_pick 8 [.ref 81, .int x1, l2] [] v c K) : mm_E kX6_pick 5 [.ref 81, .int x1, l2] [.int y0] v c K := by
  exact e_if (p := y0 = 0) rfl g1 g2
theorem bX6_pick_8 {x1 : Int32} {l2 : Value} {v : mmM} {c : Nat} {K : mmO → mmM → Prop} (g : K (.inl (some (.int (0 : Int32)))) v) : mm_E kX6_pick 8 [.ref 81, .int x1, l2] [] v c K := by
  refine e_run 1 (pc1 := 9) (L1 := [.ref 81, .int x1, l2]) (S1 := [.int (0 : Int32)]) (v1 := v) rfl ?_
  exact e_iret (ty := .int) rfl rfl rfl g
theorem bX6_pick_10 {x1 : Int32} {l2 : Value} {v : mmM} {c : Nat} {K : mmO → mmM → Prop} (hc : c + mm_mc kX6_findsLines ≤ mm_mc kX6_pick) (g : mm_M kX6_findsLines [.ref 81, .int x1] v (mm_Kc kX6_pick 15 [.ref 81, .int x1, l2] [] (c + mm_mc kX6_findsLines) K)) : mm_E kX6_pick 10 [.ref 81, .int x1, l2] [] v c K := by
  refine e_run 2 (pc1 := 12) (L1 := [.ref 81, .int x1, l2]) (S1 := [.int x1, .ref 81]) (v1 := v) rfl ?_
  exact e_cl (j := kX6_findsLines) rfl hc g
theorem bX6_pick_15 {x1 : Int32} {l2 : Value} {v : mmM} {c : Nat} {K : mmO → mmM → Prop} (g1 : ((v 81 24) + (v 81 31)) ≤ (150 : Int32) → mm_E kX6_pick 36 [.ref 81, .int x1, l2] [] v c K) (g2 : ¬ ((v 81 24) + (v 81 31)) ≤ (150 : Int32) → mm_E kX6_pick 30 [.ref 81, .int x1, l2] [] v c K) : mm_E kX6_pick 15 [.ref 81, .int x1, l2] [] v c K := by
  refine e_run 6 (pc1 := 27) (L1 := [.ref 81, .int x1, l2]) (S1 := [.int (150 : Int32), .int ((v 81 24) + (v 81 31))]) (v1 := v) rfl ?_
  exact e_if (p := ((v 81 24) + (v 81 31)) ≤ (150 : Int32)) rfl g1 g2
theorem bX6_pick_30 {x1 : Int32} {l2 : Value} {v : mmM} {c : Nat} {K : mmO → mmM → Prop} (hc : c + mm_mc kX6_raises ≤ mm_mc kX6_pick) (g : mm_M kX6_raises [.ref 81, .int (2 : Int32)] v (mm_Kc kX6_pick 35 [.ref 81, .int x1, l2] [] (c + mm_mc kX6_raises) K)) : mm_E kX6_pick 30 [.ref 81, .int x1, l2] [] v c K := by
  refine e_run 2 (pc1 := 32) (L1 := [.ref 81, .int x1, l2]) (S1 := [.int (2 : Int32), .ref 81]) (v1 := v) rfl ?_
  exact e_cl (j := kX6_raises) rfl hc g
theorem bX6_pick_35 {x1 : Int32} {l2 : Value} {y0 : Int32} {v : mmM} {c : Nat} {K : mmO → mmM → Prop} (g : K (.inl (some (.int y0))) v) : mm_E kX6_pick 35 [.ref 81, .int x1, l2] [.int y0] v c K := by
  exact e_iret (ty := .int) rfl rfl rfl g
theorem bX6_pick_36 {x1 : Int32} {l2 : Value} {v : mmM} {c : Nat} {K : mmO → mmM → Prop} (h1 : mm_in x1 20 = true) (h2 : mm_in x1 20 = true) (g : mm_E kX6_pick 56 [.ref 81, .int x1, .int (0 : Int32)] [] (mm_up (mm_up v 121 x1.toNatClampNeg (112 : Int32)) 206 x1.toNatClampNeg (v 81 31)) c K) : mm_E kX6_pick 36 [.ref 81, .int x1, l2] [] v c K := by
  refine e_run 4 (pc1 := 43) (L1 := [.ref 81, .int x1, l2]) (S1 := [.int (112 : Int32), .int x1, .ref 121]) (v1 := v) rfl ?_
  refine e_cast rfl rfl (by decide) h1 (by decide) ?_
  refine e_run 5 (pc1 := 53) (L1 := [.ref 81, .int x1, l2]) (S1 := [.int (v 81 31), .int x1, .ref 206]) (v1 := mm_up v 121 x1.toNatClampNeg (112 : Int32)) rfl ?_
  refine e_iast rfl rfl (by decide) h2 ?_
  refine e_run 2 (pc1 := 56) (L1 := [.ref 81, .int x1, .int (0 : Int32)]) (S1 := []) (v1 := mm_up (mm_up v 121 x1.toNatClampNeg (112 : Int32)) 206 x1.toNatClampNeg (v 81 31)) rfl ?_
  exact g
theorem bX6_pick_56 {x1 : Int32} {x2 : Int32} {v : mmM} {c : Nat} {K : mmO → mmM → Prop} (g1 : (v 81 31) ≤ x2 → mm_E kX6_pick 160 [.ref 81, .int x1, .int x2] [] v c K) (g2 : ¬ (v 81 31) ≤ x2 → mm_E kX6_pick 64 [.ref 81, .int x1, .int x2] [] v c K) : mm_E kX6_pick 56 [.ref 81, .int x1, .int x2] [] v c K := by
  refine e_run 3 (pc1 := 61) (L1 := [.ref 81, .int x1, .int x2]) (S1 := [.int (v 81 31), .int x2]) (v1 := v) rfl ?_
  exact e_if (p := (v 81 31) ≤ x2) rfl g1 g2
theorem bX6_pick_64 {x1 : Int32} {x2 : Int32} {v : mmM} {c : Nat} {K : mmO → mmM → Prop} (h1 : mm_in x1 20 = true) (h2 : mm_in x2 60 = true) (h3 : mm_in x2 60 = true) (h4 : mm_in x1 20 = true) (h5 : mm_in x2 60 = true) (h6 : mm_in x2 60 = true) (h7 : mm_in x1 20 = true) (h8 : mm_in x2 60 = true) (h9 : mm_in x2 60 = true) (h10 : mm_in x2 60 = true) (h11 : mm_in x2 60 = true) (h12 : mm_in x2 60 = true) (hc : c + mm_mc kX6_puts ≤ mm_mc kX6_pick) (g : mm_M kX6_puts [.ref 81, .int ((mm_up (mm_up (mm_up v (144 + x1.toNatClampNeg) x2.toNatClampNeg (v 238 x2.toNatClampNeg)) (165 + x1.toNatClampNeg) x2.toNatClampNeg ((mm_up v (144 + x1.toNatClampNeg) x2.toNatClampNeg (v 238 x2.toNatClampNeg)) 239 x2.toNatClampNeg)) (186 + x1.toNatClampNeg) x2.toNatClampNeg ((mm_up (mm_up v (144 + x1.toNatClampNeg) x2.toNatClampNeg (v 238 x2.toNatClampNeg)) (165 + x1.toNatClampNeg) x2.toNatClampNeg ((mm_up v (144 + x1.toNatClampNeg) x2.toNatClampNeg (v 238 x2.toNatClampNeg)) 239 x2.toNatClampNeg)) 240 x2.toNatClampNeg)) 239 x2.toNatClampNeg), .int ((mm_up (mm_up (mm_up v (144 + x1.toNatClampNeg) x2.toNatClampNeg (v 238 x2.toNatClampNeg)) (165 + x1.toNatClampNeg) x2.toNatClampNeg ((mm_up v (144 + x1.toNatClampNeg) x2.toNatClampNeg (v 238 x2.toNatClampNeg)) 239 x2.toNatClampNeg)) (186 + x1.toNatClampNeg) x2.toNatClampNeg ((mm_up (mm_up v (144 + x1.toNatClampNeg) x2.toNatClampNeg (v 238 x2.toNatClampNeg)) (165 + x1.toNatClampNeg) x2.toNatClampNeg ((mm_up v (144 + x1.toNatClampNeg) x2.toNatClampNeg (v 238 x2.toNatClampNeg)) 239 x2.toNatClampNeg)) 240 x2.toNatClampNeg)) 238 x2.toNatClampNeg), .int (-((mm_up (mm_up (mm_up v (144 + x1.toNatClampNeg) x2.toNatClampNeg (v 238 x2.toNatClampNeg)) (165 + x1.toNatClampNeg) x2.toNatClampNeg ((mm_up v (144 + x1.toNatClampNeg) x2.toNatClampNeg (v 238 x2.toNatClampNeg)) 239 x2.toNatClampNeg)) (186 + x1.toNatClampNeg) x2.toNatClampNeg ((mm_up (mm_up v (144 + x1.toNatClampNeg) x2.toNatClampNeg (v 238 x2.toNatClampNeg)) (165 + x1.toNatClampNeg) x2.toNatClampNeg ((mm_up v (144 + x1.toNatClampNeg) x2.toNatClampNeg (v 238 x2.toNatClampNeg)) 239 x2.toNatClampNeg)) 240 x2.toNatClampNeg)) 240 x2.toNatClampNeg))] (mm_up (mm_up (mm_up v (144 + x1.toNatClampNeg) x2.toNatClampNeg (v 238 x2.toNatClampNeg)) (165 + x1.toNatClampNeg) x2.toNatClampNeg ((mm_up v (144 + x1.toNatClampNeg) x2.toNatClampNeg (v 238 x2.toNatClampNeg)) 239 x2.toNatClampNeg)) (186 + x1.toNatClampNeg) x2.toNatClampNeg ((mm_up (mm_up v (144 + x1.toNatClampNeg) x2.toNatClampNeg (v 238 x2.toNatClampNeg)) (165 + x1.toNatClampNeg) x2.toNatClampNeg ((mm_up v (144 + x1.toNatClampNeg) x2.toNatClampNeg (v 238 x2.toNatClampNeg)) 239 x2.toNatClampNeg)) 240 x2.toNatClampNeg)) (mm_Kc kX6_pick 129 [.ref 81, .int x1, .int x2] [] (c + mm_mc kX6_puts) K)) : mm_E kX6_pick 64 [.ref 81, .int x1, .int x2] [] v c K := by
  refine e_run 3 (pc1 := 69) (L1 := [.ref 81, .int x1, .int x2]) (S1 := [.int x1, .ref 143]) (v1 := v) rfl ?_
  refine e_aald rfl rfl (by decide) h1 ?_
  refine e_run 4 (pc1 := 76) (L1 := [.ref 81, .int x1, .int x2]) (S1 := [.int x2, .ref 238, .int x2, .ref (144 + x1.toNatClampNeg)]) (v1 := v) rfl ?_
  refine e_iald rfl rfl (by decide) h2 ?_
  refine e_iast rfl (mm_rows (P := fun x => mm_sh (144 + x) = (0, 60, 0, [])) (by decide +kernel) (mm_in_lt h1)) (by have := (mm_in_lt h1); show _ < 244; omega) h3 ?_
  refine e_run 3 (pc1 := 83) (L1 := [.ref 81, .int x1, .int x2]) (S1 := [.int x1, .ref 164]) (v1 := mm_up v (144 + x1.toNatClampNeg) x2.toNatClampNeg (v 238 x2.toNatClampNeg)) rfl ?_
  refine e_aald rfl rfl (by decide) h4 ?_
  refine e_run 4 (pc1 := 90) (L1 := [.ref 81, .int x1, .int x2]) (S1 := [.int x2, .ref 239, .int x2, .ref (165 + x1.toNatClampNeg)]) (v1 := mm_up v (144 + x1.toNatClampNeg) x2.toNatClampNeg (v 238 x2.toNatClampNeg)) rfl ?_
  refine e_iald rfl rfl (by decide) h5 ?_
  refine e_iast rfl (mm_rows (P := fun x => mm_sh (165 + x) = (0, 60, 0, [])) (by decide +kernel) (mm_in_lt h4)) (by have := (mm_in_lt h4); show _ < 244; omega) h6 ?_
  refine e_run 3 (pc1 := 97) (L1 := [.ref 81, .int x1, .int x2]) (S1 := [.int x1, .ref 185]) (v1 := mm_up (mm_up v (144 + x1.toNatClampNeg) x2.toNatClampNeg (v 238 x2.toNatClampNeg)) (165 + x1.toNatClampNeg) x2.toNatClampNeg ((mm_up v (144 + x1.toNatClampNeg) x2.toNatClampNeg (v 238 x2.toNatClampNeg)) 239 x2.toNatClampNeg)) rfl ?_
  refine e_aald rfl rfl (by decide) h7 ?_
  refine e_run 4 (pc1 := 104) (L1 := [.ref 81, .int x1, .int x2]) (S1 := [.int x2, .ref 240, .int x2, .ref (186 + x1.toNatClampNeg)]) (v1 := mm_up (mm_up v (144 + x1.toNatClampNeg) x2.toNatClampNeg (v 238 x2.toNatClampNeg)) (165 + x1.toNatClampNeg) x2.toNatClampNeg ((mm_up v (144 + x1.toNatClampNeg) x2.toNatClampNeg (v 238 x2.toNatClampNeg)) 239 x2.toNatClampNeg)) rfl ?_
  refine e_iald rfl rfl (by decide) h8 ?_
  refine e_iast rfl (mm_rows (P := fun x => mm_sh (186 + x) = (0, 60, 0, [])) (by decide +kernel) (mm_in_lt h7)) (by have := (mm_in_lt h7); show _ < 244; omega) h9 ?_
  refine e_run 4 (pc1 := 112) (L1 := [.ref 81, .int x1, .int x2]) (S1 := [.int x2, .ref 239, .ref 81]) (v1 := mm_up (mm_up (mm_up v (144 + x1.toNatClampNeg) x2.toNatClampNeg (v 238 x2.toNatClampNeg)) (165 + x1.toNatClampNeg) x2.toNatClampNeg ((mm_up v (144 + x1.toNatClampNeg) x2.toNatClampNeg (v 238 x2.toNatClampNeg)) 239 x2.toNatClampNeg)) (186 + x1.toNatClampNeg) x2.toNatClampNeg ((mm_up (mm_up v (144 + x1.toNatClampNeg) x2.toNatClampNeg (v 238 x2.toNatClampNeg)) (165 + x1.toNatClampNeg) x2.toNatClampNeg ((mm_up v (144 + x1.toNatClampNeg) x2.toNatClampNeg (v 238 x2.toNatClampNeg)) 239 x2.toNatClampNeg)) 240 x2.toNatClampNeg)) rfl ?_
  refine e_iald rfl rfl (by decide) h10 ?_
  refine e_run 3 (pc1 := 118) (L1 := [.ref 81, .int x1, .int x2]) (S1 := [.int x2, .ref 238, .int ((mm_up (mm_up (mm_up v (144 + x1.toNatClampNeg) x2.toNatClampNeg (v 238 x2.toNatClampNeg)) (165 + x1.toNatClampNeg) x2.toNatClampNeg ((mm_up v (144 + x1.toNatClampNeg) x2.toNatClampNeg (v 238 x2.toNatClampNeg)) 239 x2.toNatClampNeg)) (186 + x1.toNatClampNeg) x2.toNatClampNeg ((mm_up (mm_up v (144 + x1.toNatClampNeg) x2.toNatClampNeg (v 238 x2.toNatClampNeg)) (165 + x1.toNatClampNeg) x2.toNatClampNeg ((mm_up v (144 + x1.toNatClampNeg) x2.toNatClampNeg (v 238 x2.toNatClampNeg)) 239 x2.toNatClampNeg)) 240 x2.toNatClampNeg)) 239 x2.toNatClampNeg), .ref 81]) (v1 := mm_up (mm_up (mm_up v (144 + x1.toNatClampNeg) x2.toNatClampNeg (v 238 x2.toNatClampNeg)) (165 + x1.toNatClampNeg) x2.toNatClampNeg ((mm_up v (144 + x1.toNatClampNeg) x2.toNatClampNeg (v 238 x2.toNatClampNeg)) 239 x2.toNatClampNeg)) (186 + x1.toNatClampNeg) x2.toNatClampNeg ((mm_up (mm_up v (144 + x1.toNatClampNeg) x2.toNatClampNeg (v 238 x2.toNatClampNeg)) (165 + x1.toNatClampNeg) x2.toNatClampNeg ((mm_up v (144 + x1.toNatClampNeg) x2.toNatClampNeg (v 238 x2.toNatClampNeg)) 239 x2.toNatClampNeg)) 240 x2.toNatClampNeg)) rfl ?_
  refine e_iald rfl rfl (by decide) h11 ?_
  refine e_run 3 (pc1 := 124) (L1 := [.ref 81, .int x1, .int x2]) (S1 := [.int x2, .ref 240, .int ((mm_up (mm_up (mm_up v (144 + x1.toNatClampNeg) x2.toNatClampNeg (v 238 x2.toNatClampNeg)) (165 + x1.toNatClampNeg) x2.toNatClampNeg ((mm_up v (144 + x1.toNatClampNeg) x2.toNatClampNeg (v 238 x2.toNatClampNeg)) 239 x2.toNatClampNeg)) (186 + x1.toNatClampNeg) x2.toNatClampNeg ((mm_up (mm_up v (144 + x1.toNatClampNeg) x2.toNatClampNeg (v 238 x2.toNatClampNeg)) (165 + x1.toNatClampNeg) x2.toNatClampNeg ((mm_up v (144 + x1.toNatClampNeg) x2.toNatClampNeg (v 238 x2.toNatClampNeg)) 239 x2.toNatClampNeg)) 240 x2.toNatClampNeg)) 238 x2.toNatClampNeg), .int ((mm_up (mm_up (mm_up v (144 + x1.toNatClampNeg) x2.toNatClampNeg (v 238 x2.toNatClampNeg)) (165 + x1.toNatClampNeg) x2.toNatClampNeg ((mm_up v (144 + x1.toNatClampNeg) x2.toNatClampNeg (v 238 x2.toNatClampNeg)) 239 x2.toNatClampNeg)) (186 + x1.toNatClampNeg) x2.toNatClampNeg ((mm_up (mm_up v (144 + x1.toNatClampNeg) x2.toNatClampNeg (v 238 x2.toNatClampNeg)) (165 + x1.toNatClampNeg) x2.toNatClampNeg ((mm_up v (144 + x1.toNatClampNeg) x2.toNatClampNeg (v 238 x2.toNatClampNeg)) 239 x2.toNatClampNeg)) 240 x2.toNatClampNeg)) 239 x2.toNatClampNeg), .ref 81]) (v1 := mm_up (mm_up (mm_up v (144 + x1.toNatClampNeg) x2.toNatClampNeg (v 238 x2.toNatClampNeg)) (165 + x1.toNatClampNeg) x2.toNatClampNeg ((mm_up v (144 + x1.toNatClampNeg) x2.toNatClampNeg (v 238 x2.toNatClampNeg)) 239 x2.toNatClampNeg)) (186 + x1.toNatClampNeg) x2.toNatClampNeg ((mm_up (mm_up v (144 + x1.toNatClampNeg) x2.toNatClampNeg (v 238 x2.toNatClampNeg)) (165 + x1.toNatClampNeg) x2.toNatClampNeg ((mm_up v (144 + x1.toNatClampNeg) x2.toNatClampNeg (v 238 x2.toNatClampNeg)) 239 x2.toNatClampNeg)) 240 x2.toNatClampNeg)) rfl ?_
  refine e_iald rfl rfl (by decide) h12 ?_
  refine e_run 1 (pc1 := 126) (L1 := [.ref 81, .int x1, .int x2]) (S1 := [.int (-((mm_up (mm_up (mm_up v (144 + x1.toNatClampNeg) x2.toNatClampNeg (v 238 x2.toNatClampNeg)) (165 + x1.toNatClampNeg) x2.toNatClampNeg ((mm_up v (144 + x1.toNatClampNeg) x2.toNatClampNeg (v 238 x2.toNatClampNeg)) 239 x2.toNatClampNeg)) (186 + x1.toNatClampNeg) x2.toNatClampNeg ((mm_up (mm_up v (144 + x1.toNatClampNeg) x2.toNatClampNeg (v 238 x2.toNatClampNeg)) (165 + x1.toNatClampNeg) x2.toNatClampNeg ((mm_up v (144 + x1.toNatClampNeg) x2.toNatClampNeg (v 238 x2.toNatClampNeg)) 239 x2.toNatClampNeg)) 240 x2.toNatClampNeg)) 240 x2.toNatClampNeg)), .int ((mm_up (mm_up (mm_up v (144 + x1.toNatClampNeg) x2.toNatClampNeg (v 238 x2.toNatClampNeg)) (165 + x1.toNatClampNeg) x2.toNatClampNeg ((mm_up v (144 + x1.toNatClampNeg) x2.toNatClampNeg (v 238 x2.toNatClampNeg)) 239 x2.toNatClampNeg)) (186 + x1.toNatClampNeg) x2.toNatClampNeg ((mm_up (mm_up v (144 + x1.toNatClampNeg) x2.toNatClampNeg (v 238 x2.toNatClampNeg)) (165 + x1.toNatClampNeg) x2.toNatClampNeg ((mm_up v (144 + x1.toNatClampNeg) x2.toNatClampNeg (v 238 x2.toNatClampNeg)) 239 x2.toNatClampNeg)) 240 x2.toNatClampNeg)) 238 x2.toNatClampNeg), .int ((mm_up (mm_up (mm_up v (144 + x1.toNatClampNeg) x2.toNatClampNeg (v 238 x2.toNatClampNeg)) (165 + x1.toNatClampNeg) x2.toNatClampNeg ((mm_up v (144 + x1.toNatClampNeg) x2.toNatClampNeg (v 238 x2.toNatClampNeg)) 239 x2.toNatClampNeg)) (186 + x1.toNatClampNeg) x2.toNatClampNeg ((mm_up (mm_up v (144 + x1.toNatClampNeg) x2.toNatClampNeg (v 238 x2.toNatClampNeg)) (165 + x1.toNatClampNeg) x2.toNatClampNeg ((mm_up v (144 + x1.toNatClampNeg) x2.toNatClampNeg (v 238 x2.toNatClampNeg)) 239 x2.toNatClampNeg)) 240 x2.toNatClampNeg)) 239 x2.toNatClampNeg), .ref 81]) (v1 := mm_up (mm_up (mm_up v (144 + x1.toNatClampNeg) x2.toNatClampNeg (v 238 x2.toNatClampNeg)) (165 + x1.toNatClampNeg) x2.toNatClampNeg ((mm_up v (144 + x1.toNatClampNeg) x2.toNatClampNeg (v 238 x2.toNatClampNeg)) 239 x2.toNatClampNeg)) (186 + x1.toNatClampNeg) x2.toNatClampNeg ((mm_up (mm_up v (144 + x1.toNatClampNeg) x2.toNatClampNeg (v 238 x2.toNatClampNeg)) (165 + x1.toNatClampNeg) x2.toNatClampNeg ((mm_up v (144 + x1.toNatClampNeg) x2.toNatClampNeg (v 238 x2.toNatClampNeg)) 239 x2.toNatClampNeg)) 240 x2.toNatClampNeg)) rfl ?_
  exact e_cl (j := kX6_puts) rfl hc g
theorem bX6_pick_129 {x1 : Int32} {x2 : Int32} {v : mmM} {c : Nat} {K : mmO → mmM → Prop} (h1 : mm_in x2 60 = true) (h2 : mm_in x2 60 = true) (h3 : mm_in x2 60 = true) (hc : c + mm_mc kX6_writes ≤ mm_mc kX6_pick) (g : mm_M kX6_writes [.ref 81, .int (112 : Int32), .int (v 239 x2.toNatClampNeg), .int (v 238 x2.toNatClampNeg), .int (-1 : Int32), .int (v 240 x2.toNatClampNeg)] v (mm_Kc kX6_pick 154 [.ref 81, .int x1, .int x2] [] (c + mm_mc kX6_writes) K)) : mm_E kX6_pick 129 [.ref 81, .int x1, .int x2] [] v c K := by
  refine e_run 5 (pc1 := 137) (L1 := [.ref 81, .int x1, .int x2]) (S1 := [.int x2, .ref 239, .int (112 : Int32), .ref 81]) (v1 := v) rfl ?_
  refine e_iald rfl rfl (by decide) h1 ?_
  refine e_run 3 (pc1 := 143) (L1 := [.ref 81, .int x1, .int x2]) (S1 := [.int x2, .ref 238, .int (v 239 x2.toNatClampNeg), .int (112 : Int32), .ref 81]) (v1 := v) rfl ?_
  refine e_iald rfl rfl (by decide) h2 ?_
  refine e_run 4 (pc1 := 150) (L1 := [.ref 81, .int x1, .int x2]) (S1 := [.int x2, .ref 240, .int (-1 : Int32), .int (v 238 x2.toNatClampNeg), .int (v 239 x2.toNatClampNeg), .int (112 : Int32), .ref 81]) (v1 := v) rfl ?_
  refine e_iald rfl rfl (by decide) h3 ?_
  exact e_cl (j := kX6_writes) rfl hc g
theorem bX6_pick_154 {x1 : Int32} {x2 : Int32} {v : mmM} {c : Nat} {K : mmO → mmM → Prop} (g : mm_E kX6_pick 56 [.ref 81, .int x1, .int (x2 + (1 : Int32))] [] v c K) : mm_E kX6_pick 154 [.ref 81, .int x1, .int x2] [] v c K := by
  refine e_run 2 (pc1 := 56) (L1 := [.ref 81, .int x1, .int (x2 + (1 : Int32))]) (S1 := []) (v1 := v) rfl ?_
  exact g
theorem bX6_pick_160 {x1 : Int32} {x2 : Int32} {v : mmM} {c : Nat} {K : mmO → mmM → Prop} (g : K (.inl (some (.int (v 81 31)))) v) : mm_E kX6_pick 160 [.ref 81, .int x1, .int x2] [] v c K := by
  refine e_run 2 (pc1 := 164) (L1 := [.ref 81, .int x1, .int x2]) (S1 := [.int (v 81 31)]) (v1 := v) rfl ?_
  exact e_iret (ty := .int) rfl rfl rfl g
theorem bX6_status_0 {x1 : Int32} {v : mmM} {c : Nat} {K : mmO → mmM → Prop} (hc : c + mm_mc kX6_isPromise ≤ mm_mc kX6_status) (g : mm_M kX6_isPromise [.ref 81, .int x1] v (mm_Kc kX6_status 6 [.ref 81, .int x1] [.ref 81] (c + mm_mc kX6_isPromise) K)) : mm_E kX6_status 0 [.ref 81, .int x1] [] v c K := by
  refine e_run 3 (pc1 := 3) (L1 := [.ref 81, .int x1]) (S1 := [.int x1, .ref 81, .ref 81]) (v1 := v) rfl ?_
  exact e_cl (j := kX6_isPromise) rfl hc g
theorem bX6_status_6 {x1 : Int32} {y1 : Int32} {v : mmM} {c : Nat} {K : mmO → mmM → Prop} (g1 : y1 = 0 → mm_E kX6_status 13 [.ref 81, .int x1] [.ref 81] v c K) (g2 : ¬ y1 = 0 → mm_E kX6_status 9 [.ref 81, .int x1] [.ref 81] v c K) : mm_E kX6_status 6 [.ref 81, .int x1] [.int y1, .ref 81] v c K := by
  exact e_if (p := y1 = 0) rfl g1 g2
theorem bX6_status_9 {x1 : Int32} {v : mmM} {c : Nat} {K : mmO → mmM → Prop} (g : mm_E kX6_status 14 [.ref 81, .int x1] [.int (0 : Int32), .ref 81] v c K) : mm_E kX6_status 9 [.ref 81, .int x1] [.ref 81] v c K := by
  refine e_run 2 (pc1 := 14) (L1 := [.ref 81, .int x1]) (S1 := [.int (0 : Int32), .ref 81]) (v1 := v) rfl ?_
  exact g
theorem bX6_status_13 {x1 : Int32} {v : mmM} {c : Nat} {K : mmO → mmM → Prop} (g : mm_E kX6_status 14 [.ref 81, .int x1] [.int (1 : Int32), .ref 81] v c K) : mm_E kX6_status 13 [.ref 81, .int x1] [.ref 81] v c K := by
  refine e_run 1 (pc1 := 14) (L1 := [.ref 81, .int x1]) (S1 := [.int (1 : Int32), .ref 81]) (v1 := v) rfl ?_
  exact g
theorem bX6_status_14 {x1 : Int32} {y1 : Int32} {v : mmM} {c : Nat} {K : mmO → mmM → Prop} (g1 : y1 ≤ 0 → mm_E kX6_status 29 [.ref 81, .int x1] [] (mm_up v 81 26 y1) c K) (g2 : ¬ y1 ≤ 0 → mm_E kX6_status 24 [.ref 81, .int x1] [] (mm_up v 81 26 y1) c K) : mm_E kX6_status 14 [.ref 81, .int x1] [.int y1, .ref 81] v c K := by
  refine e_run 3 (pc1 := 21) (L1 := [.ref 81, .int x1]) (S1 := [.int y1]) (v1 := mm_up v 81 26 y1) rfl ?_
  exact e_if (p := y1 ≤ 0) rfl g1 g2
theorem bX6_status_24 {x1 : Int32} {v : mmM} {c : Nat} {K : mmO → mmM → Prop} (g : mm_E kX6_status 35 [.ref 81, .int x1] [.int (32 : Int32)] v c K) : mm_E kX6_status 24 [.ref 81, .int x1] [] v c K := by
  refine e_run 2 (pc1 := 35) (L1 := [.ref 81, .int x1]) (S1 := [.int (32 : Int32)]) (v1 := v) rfl ?_
  exact g
theorem bX6_status_29 {x1 : Int32} {v : mmM} {c : Nat} {K : mmO → mmM → Prop} (h1 : mm_in x1 20 = true) (g : mm_E kX6_status 35 [.ref 81, .int x1] [.int (v 121 x1.toNatClampNeg)] v c K) : mm_E kX6_status 29 [.ref 81, .int x1] [] v c K := by
  refine e_run 3 (pc1 := 34) (L1 := [.ref 81, .int x1]) (S1 := [.int x1, .ref 121]) (v1 := v) rfl ?_
  refine e_cald rfl rfl (by decide) h1 ?_
  exact g
theorem bX6_status_35 {x1 : Int32} {y0 : Int32} {v : mmM} {c : Nat} {K : mmO → mmM → Prop} (h1 : narrow .char (.int y0) = .int y0) (g : K (.inl (some (.int y0))) v) : mm_E kX6_status 35 [.ref 81, .int x1] [.int y0] v c K := by
  exact e_iret (ty := .char) rfl rfl h1 g
theorem bX6_quantity_0 {x1 : Int32} {x2 : Int32} {v : mmM} {c : Nat} {K : mmO → mmM → Prop} (hc : c + mm_mc kX6_isPromise ≤ mm_mc kX6_quantity) (g : mm_M kX6_isPromise [.ref 81, .int x1] v (mm_Kc kX6_quantity 6 [.ref 81, .int x1, .int x2] [.ref 81] (c + mm_mc kX6_isPromise) K)) : mm_E kX6_quantity 0 [.ref 81, .int x1, .int x2] [] v c K := by
  refine e_run 3 (pc1 := 3) (L1 := [.ref 81, .int x1, .int x2]) (S1 := [.int x1, .ref 81, .ref 81]) (v1 := v) rfl ?_
  exact e_cl (j := kX6_isPromise) rfl hc g
theorem bX6_quantity_6 {x1 : Int32} {x2 : Int32} {y1 : Int32} {v : mmM} {c : Nat} {K : mmO → mmM → Prop} (g1 : y1 = 0 → mm_E kX6_quantity 21 [.ref 81, .int x1, .int x2] [.ref 81] v c K) (g2 : ¬ y1 = 0 → mm_E kX6_quantity 9 [.ref 81, .int x1, .int x2] [.ref 81] v c K) : mm_E kX6_quantity 6 [.ref 81, .int x1, .int x2] [.int y1, .ref 81] v c K := by
  exact e_if (p := y1 = 0) rfl g1 g2
theorem bX6_quantity_9 {x1 : Int32} {x2 : Int32} {v : mmM} {c : Nat} {K : mmO → mmM → Prop} (hc : c + mm_mc kX6_isItem ≤ mm_mc kX6_quantity) (g : mm_M kX6_isItem [.ref 81, .int x2] v (mm_Kc kX6_quantity 14 [.ref 81, .int x1, .int x2] [.ref 81] (c + mm_mc kX6_isItem) K)) : mm_E kX6_quantity 9 [.ref 81, .int x1, .int x2] [.ref 81] v c K := by
  refine e_run 2 (pc1 := 11) (L1 := [.ref 81, .int x1, .int x2]) (S1 := [.int x2, .ref 81, .ref 81]) (v1 := v) rfl ?_
  exact e_cl (j := kX6_isItem) rfl hc g
theorem bX6_quantity_14 {x1 : Int32} {x2 : Int32} {y1 : Int32} {v : mmM} {c : Nat} {K : mmO → mmM → Prop} (g1 : y1 = 0 → mm_E kX6_quantity 21 [.ref 81, .int x1, .int x2] [.ref 81] v c K) (g2 : ¬ y1 = 0 → mm_E kX6_quantity 17 [.ref 81, .int x1, .int x2] [.ref 81] v c K) : mm_E kX6_quantity 14 [.ref 81, .int x1, .int x2] [.int y1, .ref 81] v c K := by
  exact e_if (p := y1 = 0) rfl g1 g2
theorem bX6_quantity_17 {x1 : Int32} {x2 : Int32} {v : mmM} {c : Nat} {K : mmO → mmM → Prop} (g : mm_E kX6_quantity 22 [.ref 81, .int x1, .int x2] [.int (0 : Int32), .ref 81] v c K) : mm_E kX6_quantity 17 [.ref 81, .int x1, .int x2] [.ref 81] v c K := by
  refine e_run 2 (pc1 := 22) (L1 := [.ref 81, .int x1, .int x2]) (S1 := [.int (0 : Int32), .ref 81]) (v1 := v) rfl ?_
  exact g
theorem bX6_quantity_21 {x1 : Int32} {x2 : Int32} {v : mmM} {c : Nat} {K : mmO → mmM → Prop} (g : mm_E kX6_quantity 22 [.ref 81, .int x1, .int x2] [.int (1 : Int32), .ref 81] v c K) : mm_E kX6_quantity 21 [.ref 81, .int x1, .int x2] [.ref 81] v c K := by
  refine e_run 1 (pc1 := 22) (L1 := [.ref 81, .int x1, .int x2]) (S1 := [.int (1 : Int32), .ref 81]) (v1 := v) rfl ?_
  exact g
theorem bX6_quantity_22 {x1 : Int32} {x2 : Int32} {y1 : Int32} {v : mmM} {c : Nat} {K : mmO → mmM → Prop} (g1 : y1 ≤ 0 → mm_E kX6_quantity 36 [.ref 81, .int x1, .int x2] [] (mm_up v 81 26 y1) c K) (g2 : ¬ y1 ≤ 0 → mm_E kX6_quantity 32 [.ref 81, .int x1, .int x2] [] (mm_up v 81 26 y1) c K) : mm_E kX6_quantity 22 [.ref 81, .int x1, .int x2] [.int y1, .ref 81] v c K := by
  refine e_run 3 (pc1 := 29) (L1 := [.ref 81, .int x1, .int x2]) (S1 := [.int y1]) (v1 := mm_up v 81 26 y1) rfl ?_
  exact e_if (p := y1 ≤ 0) rfl g1 g2
theorem bX6_quantity_32 {x1 : Int32} {x2 : Int32} {v : mmM} {c : Nat} {K : mmO → mmM → Prop} (g : mm_E kX6_quantity 44 [.ref 81, .int x1, .int x2] [.int (0 : Int32)] v c K) : mm_E kX6_quantity 32 [.ref 81, .int x1, .int x2] [] v c K := by
  refine e_run 2 (pc1 := 44) (L1 := [.ref 81, .int x1, .int x2]) (S1 := [.int (0 : Int32)]) (v1 := v) rfl ?_
  exact g
theorem bX6_quantity_36 {x1 : Int32} {x2 : Int32} {v : mmM} {c : Nat} {K : mmO → mmM → Prop} (h1 : mm_in x1 20 = true) (h2 : mm_in x2 6 = true) (g : mm_E kX6_quantity 44 [.ref 81, .int x1, .int x2] [.int (v (123 + x1.toNatClampNeg) x2.toNatClampNeg)] v c K) : mm_E kX6_quantity 36 [.ref 81, .int x1, .int x2] [] v c K := by
  refine e_run 3 (pc1 := 41) (L1 := [.ref 81, .int x1, .int x2]) (S1 := [.int x1, .ref 122]) (v1 := v) rfl ?_
  refine e_aald rfl rfl (by decide) h1 ?_
  refine e_run 1 (pc1 := 43) (L1 := [.ref 81, .int x1, .int x2]) (S1 := [.int x2, .ref (123 + x1.toNatClampNeg)]) (v1 := v) rfl ?_
  refine e_iald rfl (mm_rows (P := fun x => mm_sh (123 + x) = (0, 6, 0, [])) (by decide +kernel) (mm_in_lt h1)) (by have := (mm_in_lt h1); show _ < 244; omega) h2 ?_
  exact g
theorem bX6_quantity_44 {x1 : Int32} {x2 : Int32} {y0 : Int32} {v : mmM} {c : Nat} {K : mmO → mmM → Prop} (g : K (.inl (some (.int y0))) v) : mm_E kX6_quantity 44 [.ref 81, .int x1, .int x2] [.int y0] v c K := by
  exact e_iret (ty := .int) rfl rfl rfl g
theorem bX6_available_0 {x1 : Int32} {x2 : Int32} {v : mmM} {c : Nat} {K : mmO → mmM → Prop} (hc : c + mm_mc kX6_isItem ≤ mm_mc kX6_available) (g : mm_M kX6_isItem [.ref 81, .int x1] v (mm_Kc kX6_available 6 [.ref 81, .int x1, .int x2] [.ref 81] (c + mm_mc kX6_isItem) K)) : mm_E kX6_available 0 [.ref 81, .int x1, .int x2] [] v c K := by
  refine e_run 3 (pc1 := 3) (L1 := [.ref 81, .int x1, .int x2]) (S1 := [.int x1, .ref 81, .ref 81]) (v1 := v) rfl ?_
  exact e_cl (j := kX6_isItem) rfl hc g
theorem bX6_available_6 {x1 : Int32} {x2 : Int32} {y1 : Int32} {v : mmM} {c : Nat} {K : mmO → mmM → Prop} (g1 : y1 = 0 → mm_E kX6_available 9 [.ref 81, .int x1, .int x2] [.ref 81] v c K) (g2 : ¬ y1 = 0 → mm_E kX6_available 13 [.ref 81, .int x1, .int x2] [.ref 81] v c K) : mm_E kX6_available 6 [.ref 81, .int x1, .int x2] [.int y1, .ref 81] v c K := by
  exact e_if (p := y1 = 0) rfl g1 g2
theorem bX6_available_9 {x1 : Int32} {x2 : Int32} {v : mmM} {c : Nat} {K : mmO → mmM → Prop} (g : mm_E kX6_available 36 [.ref 81, .int x1, .int x2] [.int (1 : Int32), .ref 81] v c K) : mm_E kX6_available 9 [.ref 81, .int x1, .int x2] [.ref 81] v c K := by
  refine e_run 2 (pc1 := 36) (L1 := [.ref 81, .int x1, .int x2]) (S1 := [.int (1 : Int32), .ref 81]) (v1 := v) rfl ?_
  exact g
theorem bX6_available_13 {x1 : Int32} {x2 : Int32} {v : mmM} {c : Nat} {K : mmO → mmM → Prop} (hc : c + mm_mc kX6_in ≤ mm_mc kX6_available) (g : mm_M kX6_in [.int x2, .int (v 81 25), .int ((v 81 25) + (60 : Int32))] v (mm_Kc kX6_available 28 [.ref 81, .int x1, .int x2] [.ref 81] (c + mm_mc kX6_in) K)) : mm_E kX6_available 13 [.ref 81, .int x1, .int x2] [.ref 81] v c K := by
  refine e_run 7 (pc1 := 25) (L1 := [.ref 81, .int x1, .int x2]) (S1 := [.int ((v 81 25) + (60 : Int32)), .int (v 81 25), .int x2, .ref 81]) (v1 := v) rfl ?_
  exact e_cl (j := kX6_in) rfl hc g
theorem bX6_available_28 {x1 : Int32} {x2 : Int32} {y1 : Int32} {v : mmM} {c : Nat} {K : mmO → mmM → Prop} (g1 : y1 = 0 → mm_E kX6_available 31 [.ref 81, .int x1, .int x2] [.ref 81] v c K) (g2 : ¬ y1 = 0 → mm_E kX6_available 35 [.ref 81, .int x1, .int x2] [.ref 81] v c K) : mm_E kX6_available 28 [.ref 81, .int x1, .int x2] [.int y1, .ref 81] v c K := by
  exact e_if (p := y1 = 0) rfl g1 g2
theorem bX6_available_31 {x1 : Int32} {x2 : Int32} {v : mmM} {c : Nat} {K : mmO → mmM → Prop} (g : mm_E kX6_available 36 [.ref 81, .int x1, .int x2] [.int (2 : Int32), .ref 81] v c K) : mm_E kX6_available 31 [.ref 81, .int x1, .int x2] [.ref 81] v c K := by
  refine e_run 2 (pc1 := 36) (L1 := [.ref 81, .int x1, .int x2]) (S1 := [.int (2 : Int32), .ref 81]) (v1 := v) rfl ?_
  exact g
theorem bX6_available_35 {x1 : Int32} {x2 : Int32} {v : mmM} {c : Nat} {K : mmO → mmM → Prop} (g : mm_E kX6_available 36 [.ref 81, .int x1, .int x2] [.int (0 : Int32), .ref 81] v c K) : mm_E kX6_available 35 [.ref 81, .int x1, .int x2] [.ref 81] v c K := by
  refine e_run 1 (pc1 := 36) (L1 := [.ref 81, .int x1, .int x2]) (S1 := [.int (0 : Int32), .ref 81]) (v1 := v) rfl ?_
  exact g
theorem bX6_available_36 {x1 : Int32} {x2 : Int32} {y1 : Int32} {v : mmM} {c : Nat} {K : mmO → mmM → Prop} (g1 : y1 ≤ 0 → mm_E kX6_available 50 [.ref 81, .int x1, .int x2] [] (mm_up v 81 26 y1) c K) (g2 : ¬ y1 ≤ 0 → mm_E kX6_available 46 [.ref 81, .int x1, .int x2] [] (mm_up v 81 26 y1) c K) : mm_E kX6_available 36 [.ref 81, .int x1, .int x2] [.int y1, .ref 81] v c K := by
  refine e_run 3 (pc1 := 43) (L1 := [.ref 81, .int x1, .int x2]) (S1 := [.int y1]) (v1 := mm_up v 81 26 y1) rfl ?_
  exact e_if (p := y1 ≤ 0) rfl g1 g2
theorem bX6_available_46 {x1 : Int32} {x2 : Int32} {v : mmM} {c : Nat} {K : mmO → mmM → Prop} (g : mm_E kX6_available 56 [.ref 81, .int x1, .int x2] [.int (0 : Int32)] v c K) : mm_E kX6_available 46 [.ref 81, .int x1, .int x2] [] v c K := by
  refine e_run 2 (pc1 := 56) (L1 := [.ref 81, .int x1, .int x2]) (S1 := [.int (0 : Int32)]) (v1 := v) rfl ?_
  exact g
theorem bX6_available_50 {x1 : Int32} {x2 : Int32} {v : mmM} {c : Nat} {K : mmO → mmM → Prop} (hc : c + mm_mc kX6_availableFor ≤ mm_mc kX6_available) (g : mm_M kX6_availableFor [.ref 81, .int x1, .int x2] v (mm_Kc kX6_available 56 [.ref 81, .int x1, .int x2] [] (c + mm_mc kX6_availableFor) K)) : mm_E kX6_available 50 [.ref 81, .int x1, .int x2] [] v c K := by
  refine e_run 3 (pc1 := 53) (L1 := [.ref 81, .int x1, .int x2]) (S1 := [.int x2, .int x1, .ref 81]) (v1 := v) rfl ?_
  exact e_cl (j := kX6_availableFor) rfl hc g
theorem bX6_available_56 {x1 : Int32} {x2 : Int32} {y0 : Int32} {v : mmM} {c : Nat} {K : mmO → mmM → Prop} (g : K (.inl (some (.int y0))) v) : mm_E kX6_available 56 [.ref 81, .int x1, .int x2] [.int y0] v c K := by
  exact e_iret (ty := .int) rfl rfl rfl g
theorem bX6_availableByTrying_0 {x1 : Int32} {x2 : Int32} {v : mmM} {c : Nat} {K : mmO → mmM → Prop} (hc : c + mm_mc kX6_available ≤ mm_mc kX6_availableByTrying) (g : mm_M kX6_available [.ref 81, .int x1, .int x2] v (mm_Kc kX6_availableByTrying 6 [.ref 81, .int x1, .int x2] [] (c + mm_mc kX6_available) K)) : mm_E kX6_availableByTrying 0 [.ref 81, .int x1, .int x2] [] v c K := by
  refine e_run 3 (pc1 := 3) (L1 := [.ref 81, .int x1, .int x2]) (S1 := [.int x2, .int x1, .ref 81]) (v1 := v) rfl ?_
  exact e_cl (j := kX6_available) rfl hc g
theorem bX6_availableByTrying_6 {x1 : Int32} {x2 : Int32} {y0 : Int32} {v : mmM} {c : Nat} {K : mmO → mmM → Prop} (g : K (.inl (some (.int y0))) v) : mm_E kX6_availableByTrying 6 [.ref 81, .int x1, .int x2] [.int y0] v c K := by
  exact e_iret (ty := .int) rfl rfl rfl g
theorem bX6_findsLines_0 {x1 : Int32} {l2 : Value} {l3 : Value} {l4 : Value} {l5 : Value} {l6 : Value} {l7 : Value} {v : mmM} {c : Nat} {K : mmO → mmM → Prop} (g : mm_E kX6_findsLines 2 [.ref 81, .int x1, .int (0 : Int32), l3, l4, l5, l6, l7] [] v c K) : mm_E kX6_findsLines 0 [.ref 81, .int x1, l2, l3, l4, l5, l6, l7] [] v c K := by
  refine e_run 2 (pc1 := 2) (L1 := [.ref 81, .int x1, .int (0 : Int32), l3, l4, l5, l6, l7]) (S1 := []) (v1 := v) rfl ?_
  exact g
theorem bX6_findsLines_2 {x1 : Int32} {x2 : Int32} {l3 : Value} {l4 : Value} {l5 : Value} {l6 : Value} {l7 : Value} {v : mmM} {c : Nat} {K : mmO → mmM → Prop} (g1 : (v 81 8) ≤ x2 → mm_E kX6_findsLines 39 [.ref 81, .int x1, .int x2, l3, l4, l5, l6, l7] [] v c K) (g2 : ¬ (v 81 8) ≤ x2 → mm_E kX6_findsLines 10 [.ref 81, .int x1, .int x2, l3, l4, l5, l6, l7] [] v c K) : mm_E kX6_findsLines 2 [.ref 81, .int x1, .int x2, l3, l4, l5, l6, l7] [] v c K := by
  refine e_run 3 (pc1 := 7) (L1 := [.ref 81, .int x1, .int x2, l3, l4, l5, l6, l7]) (S1 := [.int (v 81 8), .int x2]) (v1 := v) rfl ?_
  exact e_if (p := (v 81 8) ≤ x2) rfl g1 g2
theorem bX6_findsLines_10 {x1 : Int32} {x2 : Int32} {l3 : Value} {l4 : Value} {l5 : Value} {l6 : Value} {l7 : Value} {v : mmM} {c : Nat} {K : mmO → mmM → Prop} (g : mm_E kX6_findsLines 12 [.ref 81, .int x1, .int x2, .int (0 : Int32), l4, l5, l6, l7] [] v c K) : mm_E kX6_findsLines 10 [.ref 81, .int x1, .int x2, l3, l4, l5, l6, l7] [] v c K := by
  refine e_run 2 (pc1 := 12) (L1 := [.ref 81, .int x1, .int x2, .int (0 : Int32), l4, l5, l6, l7]) (S1 := []) (v1 := v) rfl ?_
  exact g
theorem bX6_findsLines_12 {x1 : Int32} {x2 : Int32} {x3 : Int32} {l4 : Value} {l5 : Value} {l6 : Value} {l7 : Value} {v : mmM} {c : Nat} {K : mmO → mmM → Prop} (g1 : (40 : Int32) ≤ x3 → mm_E kX6_findsLines 33 [.ref 81, .int x1, .int x2, .int x3, l4, l5, l6, l7] [] v c K) (g2 : ¬ (40 : Int32) ≤ x3 → mm_E kX6_findsLines 18 [.ref 81, .int x1, .int x2, .int x3, l4, l5, l6, l7] [] v c K) : mm_E kX6_findsLines 12 [.ref 81, .int x1, .int x2, .int x3, l4, l5, l6, l7] [] v c K := by
  refine e_run 2 (pc1 := 15) (L1 := [.ref 81, .int x1, .int x2, .int x3, l4, l5, l6, l7]) (S1 := [.int (40 : Int32), .int x3]) (v1 := v) rfl ?_
  exact e_if (p := (40 : Int32) ≤ x3) rfl g1 g2
theorem bX6_findsLines_18 {x1 : Int32} {x2 : Int32} {x3 : Int32} {l4 : Value} {l5 : Value} {l6 : Value} {l7 : Value} {v : mmM} {c : Nat} {K : mmO → mmM → Prop} (h1 : mm_in x2 24 = true) (h2 : mm_in x3 40 = true) (g : mm_E kX6_findsLines 12 [.ref 81, .int x1, .int x2, .int (x3 + (1 : Int32)), l4, l5, l6, l7] [] (mm_up v (214 + x2.toNatClampNeg) x3.toNatClampNeg (0 : Int32)) c K) : mm_E kX6_findsLines 18 [.ref 81, .int x1, .int x2, .int x3, l4, l5, l6, l7] [] v c K := by
  refine e_run 3 (pc1 := 23) (L1 := [.ref 81, .int x1, .int x2, .int x3, l4, l5, l6, l7]) (S1 := [.int x2, .ref 213]) (v1 := v) rfl ?_
  refine e_aald rfl rfl (by decide) h1 ?_
  refine e_run 2 (pc1 := 26) (L1 := [.ref 81, .int x1, .int x2, .int x3, l4, l5, l6, l7]) (S1 := [.int (0 : Int32), .int x3, .ref (214 + x2.toNatClampNeg)]) (v1 := v) rfl ?_
  refine e_iast rfl (mm_rows (P := fun x => mm_sh (214 + x) = (0, 40, 0, [])) (by decide +kernel) (mm_in_lt h1)) (by have := (mm_in_lt h1); show _ < 244; omega) h2 ?_
  refine e_run 2 (pc1 := 12) (L1 := [.ref 81, .int x1, .int x2, .int (x3 + (1 : Int32)), l4, l5, l6, l7]) (S1 := []) (v1 := mm_up v (214 + x2.toNatClampNeg) x3.toNatClampNeg (0 : Int32)) rfl ?_
  exact g
theorem bX6_findsLines_33 {x1 : Int32} {x2 : Int32} {x3 : Int32} {l4 : Value} {l5 : Value} {l6 : Value} {l7 : Value} {v : mmM} {c : Nat} {K : mmO → mmM → Prop} (g : mm_E kX6_findsLines 2 [.ref 81, .int x1, .int (x2 + (1 : Int32)), .int x3, l4, l5, l6, l7] [] v c K) : mm_E kX6_findsLines 33 [.ref 81, .int x1, .int x2, .int x3, l4, l5, l6, l7] [] v c K := by
  refine e_run 2 (pc1 := 2) (L1 := [.ref 81, .int x1, .int (x2 + (1 : Int32)), .int x3, l4, l5, l6, l7]) (S1 := []) (v1 := v) rfl ?_
  exact g
theorem bX6_findsLines_39 {x1 : Int32} {x2 : Int32} {l3 : Value} {l4 : Value} {l5 : Value} {l6 : Value} {l7 : Value} {v : mmM} {c : Nat} {K : mmO → mmM → Prop} (g : mm_E kX6_findsLines 41 [.ref 81, .int x1, .int (0 : Int32), l3, l4, l5, l6, l7] [] v c K) : mm_E kX6_findsLines 39 [.ref 81, .int x1, .int x2, l3, l4, l5, l6, l7] [] v c K := by
  refine e_run 2 (pc1 := 41) (L1 := [.ref 81, .int x1, .int (0 : Int32), l3, l4, l5, l6, l7]) (S1 := []) (v1 := v) rfl ?_
  exact g
theorem bX6_findsLines_41 {x1 : Int32} {x2 : Int32} {l3 : Value} {l4 : Value} {l5 : Value} {l6 : Value} {l7 : Value} {v : mmM} {c : Nat} {K : mmO → mmM → Prop} (g1 : (v 81 2) ≤ x2 → mm_E kX6_findsLines 178 [.ref 81, .int x1, .int x2, l3, l4, l5, l6, l7] [] v c K) (g2 : ¬ (v 81 2) ≤ x2 → mm_E kX6_findsLines 49 [.ref 81, .int x1, .int x2, l3, l4, l5, l6, l7] [] v c K) : mm_E kX6_findsLines 41 [.ref 81, .int x1, .int x2, l3, l4, l5, l6, l7] [] v c K := by
  refine e_run 3 (pc1 := 46) (L1 := [.ref 81, .int x1, .int x2, l3, l4, l5, l6, l7]) (S1 := [.int (v 81 2), .int x2]) (v1 := v) rfl ?_
  exact e_if (p := (v 81 2) ≤ x2) rfl g1 g2
theorem bX6_findsLines_49 {x1 : Int32} {x2 : Int32} {l3 : Value} {l4 : Value} {l5 : Value} {l6 : Value} {l7 : Value} {v : mmM} {c : Nat} {K : mmO → mmM → Prop} (h1 : mm_in x1 20 = true) (h2 : mm_in x2 6 = true) (g : mm_E kX6_findsLines 61 [.ref 81, .int x1, .int x2, .int (v (123 + x1.toNatClampNeg) x2.toNatClampNeg), .int (0 : Int32), l5, l6, l7] [] v c K) : mm_E kX6_findsLines 49 [.ref 81, .int x1, .int x2, l3, l4, l5, l6, l7] [] v c K := by
  refine e_run 3 (pc1 := 54) (L1 := [.ref 81, .int x1, .int x2, l3, l4, l5, l6, l7]) (S1 := [.int x1, .ref 122]) (v1 := v) rfl ?_
  refine e_aald rfl rfl (by decide) h1 ?_
  refine e_run 1 (pc1 := 56) (L1 := [.ref 81, .int x1, .int x2, l3, l4, l5, l6, l7]) (S1 := [.int x2, .ref (123 + x1.toNatClampNeg)]) (v1 := v) rfl ?_
  refine e_iald rfl (mm_rows (P := fun x => mm_sh (123 + x) = (0, 6, 0, [])) (by decide +kernel) (mm_in_lt h1)) (by have := (mm_in_lt h1); show _ < 244; omega) h2 ?_
  refine e_run 3 (pc1 := 61) (L1 := [.ref 81, .int x1, .int x2, .int (v (123 + x1.toNatClampNeg) x2.toNatClampNeg), .int (0 : Int32), l5, l6, l7]) (S1 := []) (v1 := v) rfl ?_
  exact g
theorem bX6_findsLines_61 {x1 : Int32} {x2 : Int32} {x3 : Int32} {x4 : Int32} {l5 : Value} {l6 : Value} {l7 : Value} {v : mmM} {c : Nat} {K : mmO → mmM → Prop} (g1 : (v 81 8) ≤ x4 → mm_E kX6_findsLines 172 [.ref 81, .int x1, .int x2, .int x3, .int x4, l5, l6, l7] [] v c K) (g2 : ¬ (v 81 8) ≤ x4 → mm_E kX6_findsLines 70 [.ref 81, .int x1, .int x2, .int x3, .int x4, l5, l6, l7] [] v c K) : mm_E kX6_findsLines 61 [.ref 81, .int x1, .int x2, .int x3, .int x4, l5, l6, l7] [] v c K := by
  refine e_run 3 (pc1 := 67) (L1 := [.ref 81, .int x1, .int x2, .int x3, .int x4, l5, l6, l7]) (S1 := [.int (v 81 8), .int x4]) (v1 := v) rfl ?_
  exact e_if (p := (v 81 8) ≤ x4) rfl g1 g2
theorem bX6_findsLines_70 {x1 : Int32} {x2 : Int32} {x3 : Int32} {x4 : Int32} {l5 : Value} {l6 : Value} {l7 : Value} {v : mmM} {c : Nat} {K : mmO → mmM → Prop} (h1 : mm_in x4 24 = true) (g : mm_E kX6_findsLines 82 [.ref 81, .int x1, .int x2, .int x3, .int x4, .int (v 118 x4.toNatClampNeg), .int (0 : Int32), l7] [] v c K) : mm_E kX6_findsLines 70 [.ref 81, .int x1, .int x2, .int x3, .int x4, l5, l6, l7] [] v c K := by
  refine e_run 3 (pc1 := 76) (L1 := [.ref 81, .int x1, .int x2, .int x3, .int x4, l5, l6, l7]) (S1 := [.int x4, .ref 118]) (v1 := v) rfl ?_
  refine e_iald rfl rfl (by decide) h1 ?_
  refine e_run 3 (pc1 := 82) (L1 := [.ref 81, .int x1, .int x2, .int x3, .int x4, .int (v 118 x4.toNatClampNeg), .int (0 : Int32), l7]) (S1 := []) (v1 := v) rfl ?_
  exact g
theorem bX6_findsLines_82 {x1 : Int32} {x2 : Int32} {x3 : Int32} {x4 : Int32} {x5 : Int32} {x6 : Int32} {l7 : Value} {v : mmM} {c : Nat} {K : mmO → mmM → Prop} (g1 : (40 : Int32) ≤ x6 → mm_E kX6_findsLines 166 [.ref 81, .int x1, .int x2, .int x3, .int x4, .int x5, .int x6, l7] [] v c K) (g2 : ¬ (40 : Int32) ≤ x6 → mm_E kX6_findsLines 89 [.ref 81, .int x1, .int x2, .int x3, .int x4, .int x5, .int x6, l7] [] v c K) : mm_E kX6_findsLines 82 [.ref 81, .int x1, .int x2, .int x3, .int x4, .int x5, .int x6, l7] [] v c K := by
  refine e_run 2 (pc1 := 86) (L1 := [.ref 81, .int x1, .int x2, .int x3, .int x4, .int x5, .int x6, l7]) (S1 := [.int (40 : Int32), .int x6]) (v1 := v) rfl ?_
  exact e_if (p := (40 : Int32) ≤ x6) rfl g1 g2
theorem bX6_findsLines_89 {x1 : Int32} {x2 : Int32} {x3 : Int32} {x4 : Int32} {x5 : Int32} {x6 : Int32} {l7 : Value} {v : mmM} {c : Nat} {K : mmO → mmM → Prop} (h1 : mm_in x5 24 = true) (g1 : (v 90 x5.toNatClampNeg) = x2 → mm_E kX6_findsLines 100 [.ref 81, .int x1, .int x2, .int x3, .int x4, .int x5, .int x6, l7] [] v c K) (g2 : ¬ (v 90 x5.toNatClampNeg) = x2 → mm_E kX6_findsLines 166 [.ref 81, .int x1, .int x2, .int x3, .int x4, .int x5, .int x6, l7] [] v c K) : mm_E kX6_findsLines 89 [.ref 81, .int x1, .int x2, .int x3, .int x4, .int x5, .int x6, l7] [] v c K := by
  refine e_run 3 (pc1 := 95) (L1 := [.ref 81, .int x1, .int x2, .int x3, .int x4, .int x5, .int x6, l7]) (S1 := [.int x5, .ref 90]) (v1 := v) rfl ?_
  refine e_iald rfl rfl (by decide) h1 ?_
  refine e_run 1 (pc1 := 97) (L1 := [.ref 81, .int x1, .int x2, .int x3, .int x4, .int x5, .int x6, l7]) (S1 := [.int x2, .int (v 90 x5.toNatClampNeg)]) (v1 := v) rfl ?_
  exact e_if (p := (v 90 x5.toNatClampNeg) = x2) rfl g1 g2
theorem bX6_findsLines_100 {x1 : Int32} {x2 : Int32} {x3 : Int32} {x4 : Int32} {x5 : Int32} {x6 : Int32} {l7 : Value} {v : mmM} {c : Nat} {K : mmO → mmM → Prop} (h1 : mm_in x5 24 = true) (h2 : mm_in x1 20 = true) (g1 : (v 91 x5.toNatClampNeg) < (v 120 x1.toNatClampNeg) → mm_E kX6_findsLines 166 [.ref 81, .int x1, .int x2, .int x3, .int x4, .int x5, .int x6, l7] [] v c K) (g2 : ¬ (v 91 x5.toNatClampNeg) < (v 120 x1.toNatClampNeg) → mm_E kX6_findsLines 116 [.ref 81, .int x1, .int x2, .int x3, .int x4, .int x5, .int x6, l7] [] v c K) : mm_E kX6_findsLines 100 [.ref 81, .int x1, .int x2, .int x3, .int x4, .int x5, .int x6, l7] [] v c K := by
  refine e_run 3 (pc1 := 106) (L1 := [.ref 81, .int x1, .int x2, .int x3, .int x4, .int x5, .int x6, l7]) (S1 := [.int x5, .ref 91]) (v1 := v) rfl ?_
  refine e_iald rfl rfl (by decide) h1 ?_
  refine e_run 3 (pc1 := 112) (L1 := [.ref 81, .int x1, .int x2, .int x3, .int x4, .int x5, .int x6, l7]) (S1 := [.int x1, .ref 120, .int (v 91 x5.toNatClampNeg)]) (v1 := v) rfl ?_
  refine e_iald rfl rfl (by decide) h2 ?_
  exact e_if (p := (v 91 x5.toNatClampNeg) < (v 120 x1.toNatClampNeg)) rfl g1 g2
theorem bX6_findsLines_116 {x1 : Int32} {x2 : Int32} {x3 : Int32} {x4 : Int32} {x5 : Int32} {x6 : Int32} {l7 : Value} {v : mmM} {c : Nat} {K : mmO → mmM → Prop} (hc : c + mm_mc kX6_turned ≤ mm_mc kX6_findsLines) (g : mm_M kX6_turned [.int x6] v (mm_Kc kX6_findsLines 121 [.ref 81, .int x1, .int x2, .int x3, .int x4, .int x5, .int x6, l7] [] (c + mm_mc kX6_turned) K)) : mm_E kX6_findsLines 116 [.ref 81, .int x1, .int x2, .int x3, .int x4, .int x5, .int x6, l7] [] v c K := by
  refine e_run 1 (pc1 := 118) (L1 := [.ref 81, .int x1, .int x2, .int x3, .int x4, .int x5, .int x6, l7]) (S1 := [.int x6]) (v1 := v) rfl ?_
  exact e_cl (j := kX6_turned) rfl hc g
theorem bX6_findsLines_121 {x1 : Int32} {x2 : Int32} {x3 : Int32} {x4 : Int32} {x5 : Int32} {x6 : Int32} {l7 : Value} {y0 : Int32} {v : mmM} {c : Nat} {K : mmO → mmM → Prop} (h1 : mm_in x5 24 = true) (h2 : mm_in x5 24 = true) (h3 : mm_in y0 40 = true) (h4 : mm_in y0 40 = true) (h5 : mm_in x5 24 = true) (h6 : mm_in y0 40 = true) (g : mm_E kX6_findsLines 82 [.ref 81, .int x1, .int x2, .int (x3 - ((mm_up v (214 + x5.toNatClampNeg) y0.toNatClampNeg (if (v (93 + x5.toNatClampNeg) y0.toNatClampNeg) < x3 then (v (93 + x5.toNatClampNeg) y0.toNatClampNeg) else x3)) (214 + x5.toNatClampNeg) y0.toNatClampNeg)), .int x4, .int x5, .int (x6 + (1 : Int32)), .int y0] [] (mm_up v (214 + x5.toNatClampNeg) y0.toNatClampNeg (if (v (93 + x5.toNatClampNeg) y0.toNatClampNeg) < x3 then (v (93 + x5.toNatClampNeg) y0.toNatClampNeg) else x3)) c K) : mm_E kX6_findsLines 121 [.ref 81, .int x1, .int x2, .int x3, .int x4, .int x5, .int x6, l7] [.int y0] v c K := by
  refine e_run 4 (pc1 := 129) (L1 := [.ref 81, .int x1, .int x2, .int x3, .int x4, .int x5, .int x6, .int y0]) (S1 := [.int x5, .ref 213]) (v1 := v) rfl ?_
  refine e_aald rfl rfl (by decide) h1 ?_
  refine e_run 5 (pc1 := 139) (L1 := [.ref 81, .int x1, .int x2, .int x3, .int x4, .int x5, .int x6, .int y0]) (S1 := [.int x5, .ref 92, .int x3, .int y0, .ref (214 + x5.toNatClampNeg)]) (v1 := v) rfl ?_
  refine e_aald rfl rfl (by decide) h2 ?_
  refine e_run 1 (pc1 := 142) (L1 := [.ref 81, .int x1, .int x2, .int x3, .int x4, .int x5, .int x6, .int y0]) (S1 := [.int y0, .ref (93 + x5.toNatClampNeg), .int x3, .int y0, .ref (214 + x5.toNatClampNeg)]) (v1 := v) rfl ?_
  refine e_iald rfl (mm_rows (P := fun x => mm_sh (93 + x) = (0, 40, 0, [])) (by decide +kernel) (mm_in_lt h2)) (by have := (mm_in_lt h2); show _ < 244; omega) h3 ?_
  refine e_run 1 (pc1 := 146) (L1 := [.ref 81, .int x1, .int x2, .int x3, .int x4, .int x5, .int x6, .int y0]) (S1 := [.int (if (v (93 + x5.toNatClampNeg) y0.toNatClampNeg) < x3 then (v (93 + x5.toNatClampNeg) y0.toNatClampNeg) else x3), .int y0, .ref (214 + x5.toNatClampNeg)]) (v1 := v) rfl ?_
  refine e_iast rfl (mm_rows (P := fun x => mm_sh (214 + x) = (0, 40, 0, [])) (by decide +kernel) (mm_in_lt h1)) (by have := (mm_in_lt h1); show _ < 244; omega) h4 ?_
  refine e_run 4 (pc1 := 154) (L1 := [.ref 81, .int x1, .int x2, .int x3, .int x4, .int x5, .int x6, .int y0]) (S1 := [.int x5, .ref 213, .int x3]) (v1 := mm_up v (214 + x5.toNatClampNeg) y0.toNatClampNeg (if (v (93 + x5.toNatClampNeg) y0.toNatClampNeg) < x3 then (v (93 + x5.toNatClampNeg) y0.toNatClampNeg) else x3)) rfl ?_
  refine e_aald rfl rfl (by decide) h5 ?_
  refine e_run 1 (pc1 := 157) (L1 := [.ref 81, .int x1, .int x2, .int x3, .int x4, .int x5, .int x6, .int y0]) (S1 := [.int y0, .ref (214 + x5.toNatClampNeg), .int x3]) (v1 := mm_up v (214 + x5.toNatClampNeg) y0.toNatClampNeg (if (v (93 + x5.toNatClampNeg) y0.toNatClampNeg) < x3 then (v (93 + x5.toNatClampNeg) y0.toNatClampNeg) else x3)) rfl ?_
  refine e_iald rfl (mm_rows (P := fun x => mm_sh (214 + x) = (0, 40, 0, [])) (by decide +kernel) (mm_in_lt h5)) (by have := (mm_in_lt h5); show _ < 244; omega) h6 ?_
  refine e_run 4 (pc1 := 82) (L1 := [.ref 81, .int x1, .int x2, .int (x3 - ((mm_up v (214 + x5.toNatClampNeg) y0.toNatClampNeg (if (v (93 + x5.toNatClampNeg) y0.toNatClampNeg) < x3 then (v (93 + x5.toNatClampNeg) y0.toNatClampNeg) else x3)) (214 + x5.toNatClampNeg) y0.toNatClampNeg)), .int x4, .int x5, .int (x6 + (1 : Int32)), .int y0]) (S1 := []) (v1 := mm_up v (214 + x5.toNatClampNeg) y0.toNatClampNeg (if (v (93 + x5.toNatClampNeg) y0.toNatClampNeg) < x3 then (v (93 + x5.toNatClampNeg) y0.toNatClampNeg) else x3)) rfl ?_
  exact g
theorem bX6_findsLines_166 {x1 : Int32} {x2 : Int32} {x3 : Int32} {x4 : Int32} {x5 : Int32} {x6 : Int32} {l7 : Value} {v : mmM} {c : Nat} {K : mmO → mmM → Prop} (g : mm_E kX6_findsLines 61 [.ref 81, .int x1, .int x2, .int x3, .int (x4 + (1 : Int32)), .int x5, .int x6, l7] [] v c K) : mm_E kX6_findsLines 166 [.ref 81, .int x1, .int x2, .int x3, .int x4, .int x5, .int x6, l7] [] v c K := by
  refine e_run 2 (pc1 := 61) (L1 := [.ref 81, .int x1, .int x2, .int x3, .int (x4 + (1 : Int32)), .int x5, .int x6, l7]) (S1 := []) (v1 := v) rfl ?_
  exact g
theorem bX6_findsLines_172 {x1 : Int32} {x2 : Int32} {x3 : Int32} {x4 : Int32} {l5 : Value} {l6 : Value} {l7 : Value} {v : mmM} {c : Nat} {K : mmO → mmM → Prop} (g : mm_E kX6_findsLines 41 [.ref 81, .int x1, .int (x2 + (1 : Int32)), .int x3, .int x4, l5, l6, l7] [] v c K) : mm_E kX6_findsLines 172 [.ref 81, .int x1, .int x2, .int x3, .int x4, l5, l6, l7] [] v c K := by
  refine e_run 2 (pc1 := 41) (L1 := [.ref 81, .int x1, .int (x2 + (1 : Int32)), .int x3, .int x4, l5, l6, l7]) (S1 := []) (v1 := v) rfl ?_
  exact g
theorem bX6_findsLines_178 {x1 : Int32} {x2 : Int32} {l3 : Value} {l4 : Value} {l5 : Value} {l6 : Value} {l7 : Value} {v : mmM} {c : Nat} {K : mmO → mmM → Prop} (g : mm_E kX6_findsLines 185 [.ref 81, .int x1, .int (0 : Int32), l3, l4, l5, l6, l7] [] (mm_up v 81 31 (0 : Int32)) c K) : mm_E kX6_findsLines 178 [.ref 81, .int x1, .int x2, l3, l4, l5, l6, l7] [] v c K := by
  refine e_run 5 (pc1 := 185) (L1 := [.ref 81, .int x1, .int (0 : Int32), l3, l4, l5, l6, l7]) (S1 := []) (v1 := mm_up v 81 31 (0 : Int32)) rfl ?_
  exact g
theorem bX6_findsLines_185 {x1 : Int32} {x2 : Int32} {l3 : Value} {l4 : Value} {l5 : Value} {l6 : Value} {l7 : Value} {v : mmM} {c : Nat} {K : mmO → mmM → Prop} (g1 : (40 : Int32) ≤ x2 → mm_E kX6_findsLines 281 [.ref 81, .int x1, .int x2, l3, l4, l5, l6, l7] [] v c K) (g2 : ¬ (40 : Int32) ≤ x2 → mm_E kX6_findsLines 191 [.ref 81, .int x1, .int x2, l3, l4, l5, l6, l7] [] v c K) : mm_E kX6_findsLines 185 [.ref 81, .int x1, .int x2, l3, l4, l5, l6, l7] [] v c K := by
  refine e_run 2 (pc1 := 188) (L1 := [.ref 81, .int x1, .int x2, l3, l4, l5, l6, l7]) (S1 := [.int (40 : Int32), .int x2]) (v1 := v) rfl ?_
  exact e_if (p := (40 : Int32) ≤ x2) rfl g1 g2
theorem bX6_findsLines_191 {x1 : Int32} {x2 : Int32} {l3 : Value} {l4 : Value} {l5 : Value} {l6 : Value} {l7 : Value} {v : mmM} {c : Nat} {K : mmO → mmM → Prop} (hc : c + mm_mc kX6_turned ≤ mm_mc kX6_findsLines) (g : mm_M kX6_turned [.int x2] v (mm_Kc kX6_findsLines 195 [.ref 81, .int x1, .int x2, l3, l4, l5, l6, l7] [] (c + mm_mc kX6_turned) K)) : mm_E kX6_findsLines 191 [.ref 81, .int x1, .int x2, l3, l4, l5, l6, l7] [] v c K := by
  refine e_run 1 (pc1 := 192) (L1 := [.ref 81, .int x1, .int x2, l3, l4, l5, l6, l7]) (S1 := [.int x2]) (v1 := v) rfl ?_
  exact e_cl (j := kX6_turned) rfl hc g
theorem bX6_findsLines_195 {x1 : Int32} {x2 : Int32} {l3 : Value} {l4 : Value} {l5 : Value} {l6 : Value} {l7 : Value} {y0 : Int32} {v : mmM} {c : Nat} {K : mmO → mmM → Prop} (g : mm_E kX6_findsLines 199 [.ref 81, .int x1, .int x2, .int y0, .int (0 : Int32), l5, l6, l7] [] v c K) : mm_E kX6_findsLines 195 [.ref 81, .int x1, .int x2, l3, l4, l5, l6, l7] [.int y0] v c K := by
  refine e_run 3 (pc1 := 199) (L1 := [.ref 81, .int x1, .int x2, .int y0, .int (0 : Int32), l5, l6, l7]) (S1 := []) (v1 := v) rfl ?_
  exact g
theorem bX6_findsLines_199 {x1 : Int32} {x2 : Int32} {x3 : Int32} {x4 : Int32} {l5 : Value} {l6 : Value} {l7 : Value} {v : mmM} {c : Nat} {K : mmO → mmM → Prop} (g1 : (v 81 8) ≤ x4 → mm_E kX6_findsLines 275 [.ref 81, .int x1, .int x2, .int x3, .int x4, l5, l6, l7] [] v c K) (g2 : ¬ (v 81 8) ≤ x4 → mm_E kX6_findsLines 208 [.ref 81, .int x1, .int x2, .int x3, .int x4, l5, l6, l7] [] v c K) : mm_E kX6_findsLines 199 [.ref 81, .int x1, .int x2, .int x3, .int x4, l5, l6, l7] [] v c K := by
  refine e_run 3 (pc1 := 205) (L1 := [.ref 81, .int x1, .int x2, .int x3, .int x4, l5, l6, l7]) (S1 := [.int (v 81 8), .int x4]) (v1 := v) rfl ?_
  exact e_if (p := (v 81 8) ≤ x4) rfl g1 g2
theorem bX6_findsLines_208 {x1 : Int32} {x2 : Int32} {x3 : Int32} {x4 : Int32} {l5 : Value} {l6 : Value} {l7 : Value} {v : mmM} {c : Nat} {K : mmO → mmM → Prop} (h1 : mm_in x4 24 = true) (h2 : mm_in x3 40 = true) (g1 : (v (214 + x4.toNatClampNeg) x3.toNatClampNeg) ≤ 0 → mm_E kX6_findsLines 269 [.ref 81, .int x1, .int x2, .int x3, .int x4, l5, l6, l7] [] v c K) (g2 : ¬ (v (214 + x4.toNatClampNeg) x3.toNatClampNeg) ≤ 0 → mm_E kX6_findsLines 220 [.ref 81, .int x1, .int x2, .int x3, .int x4, l5, l6, l7] [] v c K) : mm_E kX6_findsLines 208 [.ref 81, .int x1, .int x2, .int x3, .int x4, l5, l6, l7] [] v c K := by
  refine e_run 3 (pc1 := 214) (L1 := [.ref 81, .int x1, .int x2, .int x3, .int x4, l5, l6, l7]) (S1 := [.int x4, .ref 213]) (v1 := v) rfl ?_
  refine e_aald rfl rfl (by decide) h1 ?_
  refine e_run 1 (pc1 := 216) (L1 := [.ref 81, .int x1, .int x2, .int x3, .int x4, l5, l6, l7]) (S1 := [.int x3, .ref (214 + x4.toNatClampNeg)]) (v1 := v) rfl ?_
  refine e_iald rfl (mm_rows (P := fun x => mm_sh (214 + x) = (0, 40, 0, [])) (by decide +kernel) (mm_in_lt h1)) (by have := (mm_in_lt h1); show _ < 244; omega) h2 ?_
  exact e_if (p := (v (214 + x4.toNatClampNeg) x3.toNatClampNeg) ≤ 0) rfl g1 g2
theorem bX6_findsLines_220 {x1 : Int32} {x2 : Int32} {x3 : Int32} {x4 : Int32} {l5 : Value} {l6 : Value} {l7 : Value} {v : mmM} {c : Nat} {K : mmO → mmM → Prop} (h1 : mm_in (v 81 31) 60 = true) (h2 : mm_in (v 81 31) 60 = true) (h3 : mm_in x4 24 = true) (h4 : mm_in x3 40 = true) (h5 : mm_in (v 81 31) 60 = true) (g : mm_E kX6_findsLines 269 [.ref 81, .int x1, .int x2, .int x3, .int x4, l5, l6, l7] [] (mm_up (mm_up (mm_up (mm_up v 238 (v 81 31).toNatClampNeg x3) 239 (v 81 31).toNatClampNeg x4) 240 (v 81 31).toNatClampNeg ((mm_up (mm_up v 238 (v 81 31).toNatClampNeg x3) 239 (v 81 31).toNatClampNeg x4) (214 + x4.toNatClampNeg) x3.toNatClampNeg)) 81 31 ((v 81 31) + (1 : Int32))) c K) : mm_E kX6_findsLines 220 [.ref 81, .int x1, .int x2, .int x3, .int x4, l5, l6, l7] [] v c K := by
  refine e_run 5 (pc1 := 229) (L1 := [.ref 81, .int x1, .int x2, .int x3, .int x4, l5, l6, l7]) (S1 := [.int x3, .int (v 81 31), .ref 238]) (v1 := v) rfl ?_
  refine e_iast rfl rfl (by decide) h1 ?_
  refine e_run 5 (pc1 := 240) (L1 := [.ref 81, .int x1, .int x2, .int x3, .int x4, l5, l6, l7]) (S1 := [.int x4, .int (v 81 31), .ref 239]) (v1 := mm_up v 238 (v 81 31).toNatClampNeg x3) rfl ?_
  refine e_iast rfl rfl (by decide) h2 ?_
  refine e_run 7 (pc1 := 255) (L1 := [.ref 81, .int x1, .int x2, .int x3, .int x4, l5, l6, l7]) (S1 := [.int x4, .ref 213, .int (v 81 31), .ref 240]) (v1 := mm_up (mm_up v 238 (v 81 31).toNatClampNeg x3) 239 (v 81 31).toNatClampNeg x4) rfl ?_
  refine e_aald rfl rfl (by decide) h3 ?_
  refine e_run 1 (pc1 := 257) (L1 := [.ref 81, .int x1, .int x2, .int x3, .int x4, l5, l6, l7]) (S1 := [.int x3, .ref (214 + x4.toNatClampNeg), .int (v 81 31), .ref 240]) (v1 := mm_up (mm_up v 238 (v 81 31).toNatClampNeg x3) 239 (v 81 31).toNatClampNeg x4) rfl ?_
  refine e_iald rfl (mm_rows (P := fun x => mm_sh (214 + x) = (0, 40, 0, [])) (by decide +kernel) (mm_in_lt h3)) (by have := (mm_in_lt h3); show _ < 244; omega) h4 ?_
  refine e_iast rfl rfl (by decide) h5 ?_
  refine e_run 6 (pc1 := 269) (L1 := [.ref 81, .int x1, .int x2, .int x3, .int x4, l5, l6, l7]) (S1 := []) (v1 := mm_up (mm_up (mm_up (mm_up v 238 (v 81 31).toNatClampNeg x3) 239 (v 81 31).toNatClampNeg x4) 240 (v 81 31).toNatClampNeg ((mm_up (mm_up v 238 (v 81 31).toNatClampNeg x3) 239 (v 81 31).toNatClampNeg x4) (214 + x4.toNatClampNeg) x3.toNatClampNeg)) 81 31 ((v 81 31) + (1 : Int32))) rfl ?_
  exact g
theorem bX6_findsLines_269 {x1 : Int32} {x2 : Int32} {x3 : Int32} {x4 : Int32} {l5 : Value} {l6 : Value} {l7 : Value} {v : mmM} {c : Nat} {K : mmO → mmM → Prop} (g : mm_E kX6_findsLines 199 [.ref 81, .int x1, .int x2, .int x3, .int (x4 + (1 : Int32)), l5, l6, l7] [] v c K) : mm_E kX6_findsLines 269 [.ref 81, .int x1, .int x2, .int x3, .int x4, l5, l6, l7] [] v c K := by
  refine e_run 2 (pc1 := 199) (L1 := [.ref 81, .int x1, .int x2, .int x3, .int (x4 + (1 : Int32)), l5, l6, l7]) (S1 := []) (v1 := v) rfl ?_
  exact g
theorem bX6_findsLines_275 {x1 : Int32} {x2 : Int32} {x3 : Int32} {x4 : Int32} {l5 : Value} {l6 : Value} {l7 : Value} {v : mmM} {c : Nat} {K : mmO → mmM → Prop} (g : mm_E kX6_findsLines 185 [.ref 81, .int x1, .int (x2 + (1 : Int32)), .int x3, .int x4, l5, l6, l7] [] v c K) : mm_E kX6_findsLines 275 [.ref 81, .int x1, .int x2, .int x3, .int x4, l5, l6, l7] [] v c K := by
  refine e_run 2 (pc1 := 185) (L1 := [.ref 81, .int x1, .int (x2 + (1 : Int32)), .int x3, .int x4, l5, l6, l7]) (S1 := []) (v1 := v) rfl ?_
  exact g
theorem bX6_findsLines_281 {x1 : Int32} {x2 : Int32} {l3 : Value} {l4 : Value} {l5 : Value} {l6 : Value} {l7 : Value} {v : mmM} {c : Nat} {K : mmO → mmM → Prop} (g : K (.inl none) v) : mm_E kX6_findsLines 281 [.ref 81, .int x1, .int x2, l3, l4, l5, l6, l7] [] v c K := by
  exact e_rt rfl g
theorem bX6_lacksLines_0 {x1 : Int32} {l2 : Value} {v : mmM} {c : Nat} {K : mmO → mmM → Prop} (hc : c + mm_mc kX6_isPromise ≤ mm_mc kX6_lacksLines) (g : mm_M kX6_isPromise [.ref 81, .int x1] v (mm_Kc kX6_lacksLines 6 [.ref 81, .int x1, l2] [.ref 81] (c + mm_mc kX6_isPromise) K)) : mm_E kX6_lacksLines 0 [.ref 81, .int x1, l2] [] v c K := by
  refine e_run 3 (pc1 := 3) (L1 := [.ref 81, .int x1, l2]) (S1 := [.int x1, .ref 81, .ref 81]) (v1 := v) rfl ?_
  exact e_cl (j := kX6_isPromise) rfl hc g
theorem bX6_lacksLines_6 {x1 : Int32} {l2 : Value} {y1 : Int32} {v : mmM} {c : Nat} {K : mmO → mmM → Prop} (g1 : y1 = 0 → mm_E kX6_lacksLines 9 [.ref 81, .int x1, l2] [.ref 81] v c K) (g2 : ¬ y1 = 0 → mm_E kX6_lacksLines 13 [.ref 81, .int x1, l2] [.ref 81] v c K) : mm_E kX6_lacksLines 6 [.ref 81, .int x1, l2] [.int y1, .ref 81] v c K := by
  exact e_if (p := y1 = 0) rfl g1 g2
theorem bX6_lacksLines_9 {x1 : Int32} {l2 : Value} {v : mmM} {c : Nat} {K : mmO → mmM → Prop} (g : mm_E kX6_lacksLines 40 [.ref 81, .int x1, l2] [.int (1 : Int32), .ref 81] v c K) : mm_E kX6_lacksLines 9 [.ref 81, .int x1, l2] [.ref 81] v c K := by
  refine e_run 2 (pc1 := 40) (L1 := [.ref 81, .int x1, l2]) (S1 := [.int (1 : Int32), .ref 81]) (v1 := v) rfl ?_
  exact g
theorem bX6_lacksLines_13 {x1 : Int32} {l2 : Value} {v : mmM} {c : Nat} {K : mmO → mmM → Prop} (h1 : mm_in x1 20 = true) (g1 : (v 121 x1.toNatClampNeg) = (111 : Int32) → mm_E kX6_lacksLines 39 [.ref 81, .int x1, l2] [.ref 81] v c K) (g2 : ¬ (v 121 x1.toNatClampNeg) = (111 : Int32) → mm_E kX6_lacksLines 24 [.ref 81, .int x1, l2] [.ref 81] v c K) : mm_E kX6_lacksLines 13 [.ref 81, .int x1, l2] [.ref 81] v c K := by
  refine e_run 3 (pc1 := 18) (L1 := [.ref 81, .int x1, l2]) (S1 := [.int x1, .ref 121, .ref 81]) (v1 := v) rfl ?_
  refine e_cald rfl rfl (by decide) h1 ?_
  refine e_run 1 (pc1 := 21) (L1 := [.ref 81, .int x1, l2]) (S1 := [.int (111 : Int32), .int (v 121 x1.toNatClampNeg), .ref 81]) (v1 := v) rfl ?_
  exact e_if (p := (v 121 x1.toNatClampNeg) = (111 : Int32)) rfl g1 g2
theorem bX6_lacksLines_24 {x1 : Int32} {l2 : Value} {v : mmM} {c : Nat} {K : mmO → mmM → Prop} (h1 : mm_in x1 20 = true) (g1 : (v 121 x1.toNatClampNeg) = (112 : Int32) → mm_E kX6_lacksLines 39 [.ref 81, .int x1, l2] [.ref 81] v c K) (g2 : ¬ (v 121 x1.toNatClampNeg) = (112 : Int32) → mm_E kX6_lacksLines 35 [.ref 81, .int x1, l2] [.ref 81] v c K) : mm_E kX6_lacksLines 24 [.ref 81, .int x1, l2] [.ref 81] v c K := by
  refine e_run 3 (pc1 := 29) (L1 := [.ref 81, .int x1, l2]) (S1 := [.int x1, .ref 121, .ref 81]) (v1 := v) rfl ?_
  refine e_cald rfl rfl (by decide) h1 ?_
  refine e_run 1 (pc1 := 32) (L1 := [.ref 81, .int x1, l2]) (S1 := [.int (112 : Int32), .int (v 121 x1.toNatClampNeg), .ref 81]) (v1 := v) rfl ?_
  exact e_if (p := (v 121 x1.toNatClampNeg) = (112 : Int32)) rfl g1 g2
theorem bX6_lacksLines_35 {x1 : Int32} {l2 : Value} {v : mmM} {c : Nat} {K : mmO → mmM → Prop} (g : mm_E kX6_lacksLines 40 [.ref 81, .int x1, l2] [.int (2 : Int32), .ref 81] v c K) : mm_E kX6_lacksLines 35 [.ref 81, .int x1, l2] [.ref 81] v c K := by
  refine e_run 2 (pc1 := 40) (L1 := [.ref 81, .int x1, l2]) (S1 := [.int (2 : Int32), .ref 81]) (v1 := v) rfl ?_
  exact g
theorem bX6_lacksLines_39 {x1 : Int32} {l2 : Value} {v : mmM} {c : Nat} {K : mmO → mmM → Prop} (g : mm_E kX6_lacksLines 40 [.ref 81, .int x1, l2] [.int (0 : Int32), .ref 81] v c K) : mm_E kX6_lacksLines 39 [.ref 81, .int x1, l2] [.ref 81] v c K := by
  refine e_run 1 (pc1 := 40) (L1 := [.ref 81, .int x1, l2]) (S1 := [.int (0 : Int32), .ref 81]) (v1 := v) rfl ?_
  exact g
theorem bX6_lacksLines_40 {x1 : Int32} {l2 : Value} {y1 : Int32} {v : mmM} {c : Nat} {K : mmO → mmM → Prop} (g1 : y1 ≤ 0 → mm_E kX6_lacksLines 52 [.ref 81, .int x1, l2] [] (mm_up v 81 26 y1) c K) (g2 : ¬ y1 ≤ 0 → mm_E kX6_lacksLines 50 [.ref 81, .int x1, l2] [] (mm_up v 81 26 y1) c K) : mm_E kX6_lacksLines 40 [.ref 81, .int x1, l2] [.int y1, .ref 81] v c K := by
  refine e_run 3 (pc1 := 47) (L1 := [.ref 81, .int x1, l2]) (S1 := [.int y1]) (v1 := mm_up v 81 26 y1) rfl ?_
  exact e_if (p := y1 ≤ 0) rfl g1 g2
theorem bX6_lacksLines_50 {x1 : Int32} {l2 : Value} {v : mmM} {c : Nat} {K : mmO → mmM → Prop} (g : K (.inl (some (.int (1 : Int32)))) v) : mm_E kX6_lacksLines 50 [.ref 81, .int x1, l2] [] v c K := by
  refine e_run 1 (pc1 := 51) (L1 := [.ref 81, .int x1, l2]) (S1 := [.int (1 : Int32)]) (v1 := v) rfl ?_
  exact e_iret (ty := .boolean) rfl rfl (by decide) g
theorem bX6_lacksLines_52 {x1 : Int32} {l2 : Value} {v : mmM} {c : Nat} {K : mmO → mmM → Prop} (h1 : mm_in x1 20 = true) (g1 : (v 121 x1.toNatClampNeg) = (111 : Int32) → mm_E kX6_lacksLines 63 [.ref 81, .int x1, l2] [] v c K) (g2 : ¬ (v 121 x1.toNatClampNeg) = (111 : Int32) → mm_E kX6_lacksLines 70 [.ref 81, .int x1, l2] [] v c K) : mm_E kX6_lacksLines 52 [.ref 81, .int x1, l2] [] v c K := by
  refine e_run 3 (pc1 := 57) (L1 := [.ref 81, .int x1, l2]) (S1 := [.int x1, .ref 121]) (v1 := v) rfl ?_
  refine e_cald rfl rfl (by decide) h1 ?_
  refine e_run 1 (pc1 := 60) (L1 := [.ref 81, .int x1, l2]) (S1 := [.int (111 : Int32), .int (v 121 x1.toNatClampNeg)]) (v1 := v) rfl ?_
  exact e_if (p := (v 121 x1.toNatClampNeg) = (111 : Int32)) rfl g1 g2
theorem bX6_lacksLines_63 {x1 : Int32} {l2 : Value} {v : mmM} {c : Nat} {K : mmO → mmM → Prop} (hc : c + mm_mc kX6_findsLines ≤ mm_mc kX6_lacksLines) (g : mm_M kX6_findsLines [.ref 81, .int x1] v (mm_Kc kX6_lacksLines 68 [.ref 81, .int x1, l2] [] (c + mm_mc kX6_findsLines) K)) : mm_E kX6_lacksLines 63 [.ref 81, .int x1, l2] [] v c K := by
  refine e_run 2 (pc1 := 65) (L1 := [.ref 81, .int x1, l2]) (S1 := [.int x1, .ref 81]) (v1 := v) rfl ?_
  exact e_cl (j := kX6_findsLines) rfl hc g
theorem bX6_lacksLines_68 {x1 : Int32} {l2 : Value} {v : mmM} {c : Nat} {K : mmO → mmM → Prop} (g : K (.inl (some (.int (0 : Int32)))) v) : mm_E kX6_lacksLines 68 [.ref 81, .int x1, l2] [] v c K := by
  refine e_run 1 (pc1 := 69) (L1 := [.ref 81, .int x1, l2]) (S1 := [.int (0 : Int32)]) (v1 := v) rfl ?_
  exact e_iret (ty := .boolean) rfl rfl (by decide) g
theorem bX6_lacksLines_70 {x1 : Int32} {l2 : Value} {v : mmM} {c : Nat} {K : mmO → mmM → Prop} (h1 : mm_in x1 20 = true) (g : mm_E kX6_lacksLines 82 [.ref 81, .int x1, .int (0 : Int32)] [] (mm_up v 81 31 (v 206 x1.toNatClampNeg)) c K) : mm_E kX6_lacksLines 70 [.ref 81, .int x1, l2] [] v c K := by
  refine e_run 4 (pc1 := 76) (L1 := [.ref 81, .int x1, l2]) (S1 := [.int x1, .ref 206, .ref 81]) (v1 := v) rfl ?_
  refine e_iald rfl rfl (by decide) h1 ?_
  refine e_run 3 (pc1 := 82) (L1 := [.ref 81, .int x1, .int (0 : Int32)]) (S1 := []) (v1 := mm_up v 81 31 (v 206 x1.toNatClampNeg)) rfl ?_
  exact g
theorem bX6_lacksLines_82 {x1 : Int32} {x2 : Int32} {v : mmM} {c : Nat} {K : mmO → mmM → Prop} (g1 : (v 81 31) ≤ x2 → mm_E kX6_lacksLines 138 [.ref 81, .int x1, .int x2] [] v c K) (g2 : ¬ (v 81 31) ≤ x2 → mm_E kX6_lacksLines 90 [.ref 81, .int x1, .int x2] [] v c K) : mm_E kX6_lacksLines 82 [.ref 81, .int x1, .int x2] [] v c K := by
  refine e_run 3 (pc1 := 87) (L1 := [.ref 81, .int x1, .int x2]) (S1 := [.int (v 81 31), .int x2]) (v1 := v) rfl ?_
  exact e_if (p := (v 81 31) ≤ x2) rfl g1 g2
theorem bX6_lacksLines_90 {x1 : Int32} {x2 : Int32} {v : mmM} {c : Nat} {K : mmO → mmM → Prop} (h1 : mm_in x1 20 = true) (h2 : mm_in x2 60 = true) (h3 : mm_in x2 60 = true) (h4 : mm_in x1 20 = true) (h5 : mm_in x2 60 = true) (h6 : mm_in x2 60 = true) (h7 : mm_in x1 20 = true) (h8 : mm_in x2 60 = true) (h9 : mm_in x2 60 = true) (g : mm_E kX6_lacksLines 82 [.ref 81, .int x1, .int (x2 + (1 : Int32))] [] (mm_up (mm_up (mm_up v 238 x2.toNatClampNeg (v (144 + x1.toNatClampNeg) x2.toNatClampNeg)) 239 x2.toNatClampNeg ((mm_up v 238 x2.toNatClampNeg (v (144 + x1.toNatClampNeg) x2.toNatClampNeg)) (165 + x1.toNatClampNeg) x2.toNatClampNeg)) 240 x2.toNatClampNeg ((mm_up (mm_up v 238 x2.toNatClampNeg (v (144 + x1.toNatClampNeg) x2.toNatClampNeg)) 239 x2.toNatClampNeg ((mm_up v 238 x2.toNatClampNeg (v (144 + x1.toNatClampNeg) x2.toNatClampNeg)) (165 + x1.toNatClampNeg) x2.toNatClampNeg)) (186 + x1.toNatClampNeg) x2.toNatClampNeg)) c K) : mm_E kX6_lacksLines 90 [.ref 81, .int x1, .int x2] [] v c K := by
  refine e_run 6 (pc1 := 100) (L1 := [.ref 81, .int x1, .int x2]) (S1 := [.int x1, .ref 143, .int x2, .ref 238]) (v1 := v) rfl ?_
  refine e_aald rfl rfl (by decide) h1 ?_
  refine e_run 1 (pc1 := 102) (L1 := [.ref 81, .int x1, .int x2]) (S1 := [.int x2, .ref (144 + x1.toNatClampNeg), .int x2, .ref 238]) (v1 := v) rfl ?_
  refine e_iald rfl (mm_rows (P := fun x => mm_sh (144 + x) = (0, 60, 0, [])) (by decide +kernel) (mm_in_lt h1)) (by have := (mm_in_lt h1); show _ < 244; omega) h2 ?_
  refine e_iast rfl rfl (by decide) h3 ?_
  refine e_run 6 (pc1 := 114) (L1 := [.ref 81, .int x1, .int x2]) (S1 := [.int x1, .ref 164, .int x2, .ref 239]) (v1 := mm_up v 238 x2.toNatClampNeg (v (144 + x1.toNatClampNeg) x2.toNatClampNeg)) rfl ?_
  refine e_aald rfl rfl (by decide) h4 ?_
  refine e_run 1 (pc1 := 116) (L1 := [.ref 81, .int x1, .int x2]) (S1 := [.int x2, .ref (165 + x1.toNatClampNeg), .int x2, .ref 239]) (v1 := mm_up v 238 x2.toNatClampNeg (v (144 + x1.toNatClampNeg) x2.toNatClampNeg)) rfl ?_
  refine e_iald rfl (mm_rows (P := fun x => mm_sh (165 + x) = (0, 60, 0, [])) (by decide +kernel) (mm_in_lt h4)) (by have := (mm_in_lt h4); show _ < 244; omega) h5 ?_
  refine e_iast rfl rfl (by decide) h6 ?_
  refine e_run 6 (pc1 := 128) (L1 := [.ref 81, .int x1, .int x2]) (S1 := [.int x1, .ref 185, .int x2, .ref 240]) (v1 := mm_up (mm_up v 238 x2.toNatClampNeg (v (144 + x1.toNatClampNeg) x2.toNatClampNeg)) 239 x2.toNatClampNeg ((mm_up v 238 x2.toNatClampNeg (v (144 + x1.toNatClampNeg) x2.toNatClampNeg)) (165 + x1.toNatClampNeg) x2.toNatClampNeg)) rfl ?_
  refine e_aald rfl rfl (by decide) h7 ?_
  refine e_run 1 (pc1 := 130) (L1 := [.ref 81, .int x1, .int x2]) (S1 := [.int x2, .ref (186 + x1.toNatClampNeg), .int x2, .ref 240]) (v1 := mm_up (mm_up v 238 x2.toNatClampNeg (v (144 + x1.toNatClampNeg) x2.toNatClampNeg)) 239 x2.toNatClampNeg ((mm_up v 238 x2.toNatClampNeg (v (144 + x1.toNatClampNeg) x2.toNatClampNeg)) (165 + x1.toNatClampNeg) x2.toNatClampNeg)) rfl ?_
  refine e_iald rfl (mm_rows (P := fun x => mm_sh (186 + x) = (0, 60, 0, [])) (by decide +kernel) (mm_in_lt h7)) (by have := (mm_in_lt h7); show _ < 244; omega) h8 ?_
  refine e_iast rfl rfl (by decide) h9 ?_
  refine e_run 2 (pc1 := 82) (L1 := [.ref 81, .int x1, .int (x2 + (1 : Int32))]) (S1 := []) (v1 := mm_up (mm_up (mm_up v 238 x2.toNatClampNeg (v (144 + x1.toNatClampNeg) x2.toNatClampNeg)) 239 x2.toNatClampNeg ((mm_up v 238 x2.toNatClampNeg (v (144 + x1.toNatClampNeg) x2.toNatClampNeg)) (165 + x1.toNatClampNeg) x2.toNatClampNeg)) 240 x2.toNatClampNeg ((mm_up (mm_up v 238 x2.toNatClampNeg (v (144 + x1.toNatClampNeg) x2.toNatClampNeg)) 239 x2.toNatClampNeg ((mm_up v 238 x2.toNatClampNeg (v (144 + x1.toNatClampNeg) x2.toNatClampNeg)) (165 + x1.toNatClampNeg) x2.toNatClampNeg)) (186 + x1.toNatClampNeg) x2.toNatClampNeg)) rfl ?_
  exact g
theorem bX6_lacksLines_138 {x1 : Int32} {x2 : Int32} {v : mmM} {c : Nat} {K : mmO → mmM → Prop} (g : K (.inl (some (.int (0 : Int32)))) v) : mm_E kX6_lacksLines 138 [.ref 81, .int x1, .int x2] [] v c K := by
  refine e_run 1 (pc1 := 139) (L1 := [.ref 81, .int x1, .int x2]) (S1 := [.int (0 : Int32)]) (v1 := v) rfl ?_
  exact e_iret (ty := .boolean) rfl rfl (by decide) g
theorem bX6_lacksLine_0 {x1 : Int32} {x2 : Int32} {v : mmM} {c : Nat} {K : mmO → mmM → Prop} (hc : c + mm_mc kX6_lacksLines ≤ mm_mc kX6_lacksLine) (g : mm_M kX6_lacksLines [.ref 81, .int x1] v (mm_Kc kX6_lacksLine 5 [.ref 81, .int x1, .int x2] [] (c + mm_mc kX6_lacksLines) K)) : mm_E kX6_lacksLine 0 [.ref 81, .int x1, .int x2] [] v c K := by
  refine e_run 2 (pc1 := 2) (L1 := [.ref 81, .int x1, .int x2]) (S1 := [.int x1, .ref 81]) (v1 := v) rfl ?_
  exact e_cl (j := kX6_lacksLines) rfl hc g
theorem bX6_lacksLine_5 {x1 : Int32} {x2 : Int32} {y0 : Int32} {v : mmM} {c : Nat} {K : mmO → mmM → Prop} (g1 : y0 = 0 → mm_E kX6_lacksLine 8 [.ref 81, .int x1, .int x2] [] v c K) (g2 : ¬ y0 = 0 → mm_E kX6_lacksLine 31 [.ref 81, .int x1, .int x2] [] v c K) : mm_E kX6_lacksLine 5 [.ref 81, .int x1, .int x2] [.int y0] v c K := by
  exact e_if (p := y0 = 0) rfl g1 g2
theorem bX6_lacksLine_8 {x1 : Int32} {x2 : Int32} {v : mmM} {c : Nat} {K : mmO → mmM → Prop} (hc : c + mm_mc kX6_in ≤ mm_mc kX6_lacksLine) (g : mm_M kX6_in [.int x2, .int (0 : Int32), .int ((v 81 31) - (1 : Int32))] v (mm_Kc kX6_lacksLine 20 [.ref 81, .int x1, .int x2] [.ref 81] (c + mm_mc kX6_in) K)) : mm_E kX6_lacksLine 8 [.ref 81, .int x1, .int x2] [] v c K := by
  refine e_run 7 (pc1 := 17) (L1 := [.ref 81, .int x1, .int x2]) (S1 := [.int ((v 81 31) - (1 : Int32)), .int (0 : Int32), .int x2, .ref 81]) (v1 := v) rfl ?_
  exact e_cl (j := kX6_in) rfl hc g
theorem bX6_lacksLine_20 {x1 : Int32} {x2 : Int32} {y1 : Int32} {v : mmM} {c : Nat} {K : mmO → mmM → Prop} (g1 : y1 = 0 → mm_E kX6_lacksLine 27 [.ref 81, .int x1, .int x2] [.ref 81] v c K) (g2 : ¬ y1 = 0 → mm_E kX6_lacksLine 23 [.ref 81, .int x1, .int x2] [.ref 81] v c K) : mm_E kX6_lacksLine 20 [.ref 81, .int x1, .int x2] [.int y1, .ref 81] v c K := by
  exact e_if (p := y1 = 0) rfl g1 g2
theorem bX6_lacksLine_23 {x1 : Int32} {x2 : Int32} {v : mmM} {c : Nat} {K : mmO → mmM → Prop} (g : mm_E kX6_lacksLine 28 [.ref 81, .int x1, .int x2] [.int (0 : Int32), .ref 81] v c K) : mm_E kX6_lacksLine 23 [.ref 81, .int x1, .int x2] [.ref 81] v c K := by
  refine e_run 2 (pc1 := 28) (L1 := [.ref 81, .int x1, .int x2]) (S1 := [.int (0 : Int32), .ref 81]) (v1 := v) rfl ?_
  exact g
theorem bX6_lacksLine_27 {x1 : Int32} {x2 : Int32} {v : mmM} {c : Nat} {K : mmO → mmM → Prop} (g : mm_E kX6_lacksLine 28 [.ref 81, .int x1, .int x2] [.int (3 : Int32), .ref 81] v c K) : mm_E kX6_lacksLine 27 [.ref 81, .int x1, .int x2] [.ref 81] v c K := by
  refine e_run 1 (pc1 := 28) (L1 := [.ref 81, .int x1, .int x2]) (S1 := [.int (3 : Int32), .ref 81]) (v1 := v) rfl ?_
  exact g
theorem bX6_lacksLine_28 {x1 : Int32} {x2 : Int32} {y1 : Int32} {v : mmM} {c : Nat} {K : mmO → mmM → Prop} (g : mm_E kX6_lacksLine 31 [.ref 81, .int x1, .int x2] [] (mm_up v 81 26 y1) c K) : mm_E kX6_lacksLine 28 [.ref 81, .int x1, .int x2] [.int y1, .ref 81] v c K := by
  refine e_run 1 (pc1 := 31) (L1 := [.ref 81, .int x1, .int x2]) (S1 := []) (v1 := mm_up v 81 26 y1) rfl ?_
  exact g
theorem bX6_lacksLine_31 {x1 : Int32} {x2 : Int32} {v : mmM} {c : Nat} {K : mmO → mmM → Prop} (g1 : (v 81 26) ≤ 0 → mm_E kX6_lacksLine 42 [.ref 81, .int x1, .int x2] [] v c K) (g2 : ¬ (v 81 26) ≤ 0 → mm_E kX6_lacksLine 38 [.ref 81, .int x1, .int x2] [] v c K) : mm_E kX6_lacksLine 31 [.ref 81, .int x1, .int x2] [] v c K := by
  refine e_run 2 (pc1 := 35) (L1 := [.ref 81, .int x1, .int x2]) (S1 := [.int (v 81 26)]) (v1 := v) rfl ?_
  exact e_if (p := (v 81 26) ≤ 0) rfl g1 g2
theorem bX6_lacksLine_38 {x1 : Int32} {x2 : Int32} {v : mmM} {c : Nat} {K : mmO → mmM → Prop} (g : mm_E kX6_lacksLine 43 [.ref 81, .int x1, .int x2] [.int (1 : Int32)] v c K) : mm_E kX6_lacksLine 38 [.ref 81, .int x1, .int x2] [] v c K := by
  refine e_run 2 (pc1 := 43) (L1 := [.ref 81, .int x1, .int x2]) (S1 := [.int (1 : Int32)]) (v1 := v) rfl ?_
  exact g
theorem bX6_lacksLine_42 {x1 : Int32} {x2 : Int32} {v : mmM} {c : Nat} {K : mmO → mmM → Prop} (g : mm_E kX6_lacksLine 43 [.ref 81, .int x1, .int x2] [.int (0 : Int32)] v c K) : mm_E kX6_lacksLine 42 [.ref 81, .int x1, .int x2] [] v c K := by
  refine e_run 1 (pc1 := 43) (L1 := [.ref 81, .int x1, .int x2]) (S1 := [.int (0 : Int32)]) (v1 := v) rfl ?_
  exact g
theorem bX6_lacksLine_43 {x1 : Int32} {x2 : Int32} {y0 : Int32} {v : mmM} {c : Nat} {K : mmO → mmM → Prop} (h1 : narrow .boolean (.int y0) = .int y0) (g : K (.inl (some (.int y0))) v) : mm_E kX6_lacksLine 43 [.ref 81, .int x1, .int x2] [.int y0] v c K := by
  exact e_iret (ty := .boolean) rfl rfl h1 g
theorem bX6_pickLines_0 {x1 : Int32} {v : mmM} {c : Nat} {K : mmO → mmM → Prop} (hc : c + mm_mc kX6_lacksLines ≤ mm_mc kX6_pickLines) (g : mm_M kX6_lacksLines [.ref 81, .int x1] v (mm_Kc kX6_pickLines 5 [.ref 81, .int x1] [] (c + mm_mc kX6_lacksLines) K)) : mm_E kX6_pickLines 0 [.ref 81, .int x1] [] v c K := by
  refine e_run 2 (pc1 := 2) (L1 := [.ref 81, .int x1]) (S1 := [.int x1, .ref 81]) (v1 := v) rfl ?_
  exact e_cl (j := kX6_lacksLines) rfl hc g
theorem bX6_pickLines_5 {x1 : Int32} {y0 : Int32} {v : mmM} {c : Nat} {K : mmO → mmM → Prop} (g1 : y0 = 0 → mm_E kX6_pickLines 12 [.ref 81, .int x1] [] v c K) (g2 : ¬ y0 = 0 → mm_E kX6_pickLines 8 [.ref 81, .int x1] [] v c K) : mm_E kX6_pickLines 5 [.ref 81, .int x1] [.int y0] v c K := by
  exact e_if (p := y0 = 0) rfl g1 g2
theorem bX6_pickLines_8 {x1 : Int32} {v : mmM} {c : Nat} {K : mmO → mmM → Prop} (g : mm_E kX6_pickLines 16 [.ref 81, .int x1] [.int (0 : Int32)] v c K) : mm_E kX6_pickLines 8 [.ref 81, .int x1] [] v c K := by
  refine e_run 2 (pc1 := 16) (L1 := [.ref 81, .int x1]) (S1 := [.int (0 : Int32)]) (v1 := v) rfl ?_
  exact g
theorem bX6_pickLines_12 {x1 : Int32} {v : mmM} {c : Nat} {K : mmO → mmM → Prop} (g : mm_E kX6_pickLines 16 [.ref 81, .int x1] [.int (v 81 31)] v c K) : mm_E kX6_pickLines 12 [.ref 81, .int x1] [] v c K := by
  refine e_run 2 (pc1 := 16) (L1 := [.ref 81, .int x1]) (S1 := [.int (v 81 31)]) (v1 := v) rfl ?_
  exact g
theorem bX6_pickLines_16 {x1 : Int32} {y0 : Int32} {v : mmM} {c : Nat} {K : mmO → mmM → Prop} (g : K (.inl (some (.int y0))) v) : mm_E kX6_pickLines 16 [.ref 81, .int x1] [.int y0] v c K := by
  exact e_iret (ty := .int) rfl rfl rfl g
theorem bX6_pickBin_0 {x1 : Int32} {x2 : Int32} {v : mmM} {c : Nat} {K : mmO → mmM → Prop} (hc : c + mm_mc kX6_lacksLine ≤ mm_mc kX6_pickBin) (g : mm_M kX6_lacksLine [.ref 81, .int x1, .int x2] v (mm_Kc kX6_pickBin 6 [.ref 81, .int x1, .int x2] [] (c + mm_mc kX6_lacksLine) K)) : mm_E kX6_pickBin 0 [.ref 81, .int x1, .int x2] [] v c K := by
  refine e_run 3 (pc1 := 3) (L1 := [.ref 81, .int x1, .int x2]) (S1 := [.int x2, .int x1, .ref 81]) (v1 := v) rfl ?_
  exact e_cl (j := kX6_lacksLine) rfl hc g
theorem bX6_pickBin_6 {x1 : Int32} {x2 : Int32} {y0 : Int32} {v : mmM} {c : Nat} {K : mmO → mmM → Prop} (g1 : y0 = 0 → mm_E kX6_pickBin 13 [.ref 81, .int x1, .int x2] [] v c K) (g2 : ¬ y0 = 0 → mm_E kX6_pickBin 9 [.ref 81, .int x1, .int x2] [] v c K) : mm_E kX6_pickBin 6 [.ref 81, .int x1, .int x2] [.int y0] v c K := by
  exact e_if (p := y0 = 0) rfl g1 g2
theorem bX6_pickBin_9 {x1 : Int32} {x2 : Int32} {v : mmM} {c : Nat} {K : mmO → mmM → Prop} (g : mm_E kX6_pickBin 19 [.ref 81, .int x1, .int x2] [.int (0 : Int32)] v c K) : mm_E kX6_pickBin 9 [.ref 81, .int x1, .int x2] [] v c K := by
  refine e_run 2 (pc1 := 19) (L1 := [.ref 81, .int x1, .int x2]) (S1 := [.int (0 : Int32)]) (v1 := v) rfl ?_
  exact g
theorem bX6_pickBin_13 {x1 : Int32} {x2 : Int32} {v : mmM} {c : Nat} {K : mmO → mmM → Prop} (h1 : mm_in x2 60 = true) (g : mm_E kX6_pickBin 19 [.ref 81, .int x1, .int x2] [.int (v 238 x2.toNatClampNeg)] v c K) : mm_E kX6_pickBin 13 [.ref 81, .int x1, .int x2] [] v c K := by
  refine e_run 3 (pc1 := 18) (L1 := [.ref 81, .int x1, .int x2]) (S1 := [.int x2, .ref 238]) (v1 := v) rfl ?_
  refine e_iald rfl rfl (by decide) h1 ?_
  exact g
theorem bX6_pickBin_19 {x1 : Int32} {x2 : Int32} {y0 : Int32} {v : mmM} {c : Nat} {K : mmO → mmM → Prop} (g : K (.inl (some (.int y0))) v) : mm_E kX6_pickBin 19 [.ref 81, .int x1, .int x2] [.int y0] v c K := by
  exact e_iret (ty := .int) rfl rfl rfl g
theorem bX6_pickLot_0 {x1 : Int32} {x2 : Int32} {v : mmM} {c : Nat} {K : mmO → mmM → Prop} (hc : c + mm_mc kX6_lacksLine ≤ mm_mc kX6_pickLot) (g : mm_M kX6_lacksLine [.ref 81, .int x1, .int x2] v (mm_Kc kX6_pickLot 6 [.ref 81, .int x1, .int x2] [] (c + mm_mc kX6_lacksLine) K)) : mm_E kX6_pickLot 0 [.ref 81, .int x1, .int x2] [] v c K := by
  refine e_run 3 (pc1 := 3) (L1 := [.ref 81, .int x1, .int x2]) (S1 := [.int x2, .int x1, .ref 81]) (v1 := v) rfl ?_
  exact e_cl (j := kX6_lacksLine) rfl hc g
theorem bX6_pickLot_6 {x1 : Int32} {x2 : Int32} {y0 : Int32} {v : mmM} {c : Nat} {K : mmO → mmM → Prop} (g1 : y0 = 0 → mm_E kX6_pickLot 13 [.ref 81, .int x1, .int x2] [] v c K) (g2 : ¬ y0 = 0 → mm_E kX6_pickLot 9 [.ref 81, .int x1, .int x2] [] v c K) : mm_E kX6_pickLot 6 [.ref 81, .int x1, .int x2] [.int y0] v c K := by
  exact e_if (p := y0 = 0) rfl g1 g2
theorem bX6_pickLot_9 {x1 : Int32} {x2 : Int32} {v : mmM} {c : Nat} {K : mmO → mmM → Prop} (g : mm_E kX6_pickLot 19 [.ref 81, .int x1, .int x2] [.int (0 : Int32)] v c K) : mm_E kX6_pickLot 9 [.ref 81, .int x1, .int x2] [] v c K := by
  refine e_run 2 (pc1 := 19) (L1 := [.ref 81, .int x1, .int x2]) (S1 := [.int (0 : Int32)]) (v1 := v) rfl ?_
  exact g
theorem bX6_pickLot_13 {x1 : Int32} {x2 : Int32} {v : mmM} {c : Nat} {K : mmO → mmM → Prop} (h1 : mm_in x2 60 = true) (g : mm_E kX6_pickLot 19 [.ref 81, .int x1, .int x2] [.int (v 239 x2.toNatClampNeg)] v c K) : mm_E kX6_pickLot 13 [.ref 81, .int x1, .int x2] [] v c K := by
  refine e_run 3 (pc1 := 18) (L1 := [.ref 81, .int x1, .int x2]) (S1 := [.int x2, .ref 239]) (v1 := v) rfl ?_
  refine e_iald rfl rfl (by decide) h1 ?_
  exact g
theorem bX6_pickLot_19 {x1 : Int32} {x2 : Int32} {y0 : Int32} {v : mmM} {c : Nat} {K : mmO → mmM → Prop} (g : K (.inl (some (.int y0))) v) : mm_E kX6_pickLot 19 [.ref 81, .int x1, .int x2] [.int y0] v c K := by
  exact e_iret (ty := .int) rfl rfl rfl g
theorem bX6_pickQuantity_0 {x1 : Int32} {x2 : Int32} {v : mmM} {c : Nat} {K : mmO → mmM → Prop} (hc : c + mm_mc kX6_lacksLine ≤ mm_mc kX6_pickQuantity) (g : mm_M kX6_lacksLine [.ref 81, .int x1, .int x2] v (mm_Kc kX6_pickQuantity 6 [.ref 81, .int x1, .int x2] [] (c + mm_mc kX6_lacksLine) K)) : mm_E kX6_pickQuantity 0 [.ref 81, .int x1, .int x2] [] v c K := by
  refine e_run 3 (pc1 := 3) (L1 := [.ref 81, .int x1, .int x2]) (S1 := [.int x2, .int x1, .ref 81]) (v1 := v) rfl ?_
  exact e_cl (j := kX6_lacksLine) rfl hc g
theorem bX6_pickQuantity_6 {x1 : Int32} {x2 : Int32} {y0 : Int32} {v : mmM} {c : Nat} {K : mmO → mmM → Prop} (g1 : y0 = 0 → mm_E kX6_pickQuantity 13 [.ref 81, .int x1, .int x2] [] v c K) (g2 : ¬ y0 = 0 → mm_E kX6_pickQuantity 9 [.ref 81, .int x1, .int x2] [] v c K) : mm_E kX6_pickQuantity 6 [.ref 81, .int x1, .int x2] [.int y0] v c K := by
  exact e_if (p := y0 = 0) rfl g1 g2
theorem bX6_pickQuantity_9 {x1 : Int32} {x2 : Int32} {v : mmM} {c : Nat} {K : mmO → mmM → Prop} (g : mm_E kX6_pickQuantity 19 [.ref 81, .int x1, .int x2] [.int (0 : Int32)] v c K) : mm_E kX6_pickQuantity 9 [.ref 81, .int x1, .int x2] [] v c K := by
  refine e_run 2 (pc1 := 19) (L1 := [.ref 81, .int x1, .int x2]) (S1 := [.int (0 : Int32)]) (v1 := v) rfl ?_
  exact g
theorem bX6_pickQuantity_13 {x1 : Int32} {x2 : Int32} {v : mmM} {c : Nat} {K : mmO → mmM → Prop} (h1 : mm_in x2 60 = true) (g : mm_E kX6_pickQuantity 19 [.ref 81, .int x1, .int x2] [.int (v 240 x2.toNatClampNeg)] v c K) : mm_E kX6_pickQuantity 13 [.ref 81, .int x1, .int x2] [] v c K := by
  refine e_run 3 (pc1 := 18) (L1 := [.ref 81, .int x1, .int x2]) (S1 := [.int x2, .ref 240]) (v1 := v) rfl ?_
  refine e_iald rfl rfl (by decide) h1 ?_
  exact g
theorem bX6_pickQuantity_19 {x1 : Int32} {x2 : Int32} {y0 : Int32} {v : mmM} {c : Nat} {K : mmO → mmM → Prop} (g : K (.inl (some (.int y0))) v) : mm_E kX6_pickQuantity 19 [.ref 81, .int x1, .int x2] [.int y0] v c K := by
  exact e_iret (ty := .int) rfl rfl rfl g
theorem bX6_walk_0 {x1 : Int32} {l2 : Value} {l3 : Value} {l4 : Value} {l5 : Value} {l6 : Value} {l7 : Value} {l8 : Value} {l9 : Value} {v : mmM} {c : Nat} {K : mmO → mmM → Prop} (hc : c + mm_mc kX6_lacksLines ≤ mm_mc kX6_walk) (g : mm_M kX6_lacksLines [.ref 81, .int x1] v (mm_Kc kX6_walk 5 [.ref 81, .int x1, l2, l3, l4, l5, l6, l7, l8, l9] [] (c + mm_mc kX6_lacksLines) K)) : mm_E kX6_walk 0 [.ref 81, .int x1, l2, l3, l4, l5, l6, l7, l8, l9] [] v c K := by
  refine e_run 2 (pc1 := 2) (L1 := [.ref 81, .int x1, l2, l3, l4, l5, l6, l7, l8, l9]) (S1 := [.int x1, .ref 81]) (v1 := v) rfl ?_
  exact e_cl (j := kX6_lacksLines) rfl hc g
theorem bX6_walk_5 {x1 : Int32} {l2 : Value} {l3 : Value} {l4 : Value} {l5 : Value} {l6 : Value} {l7 : Value} {l8 : Value} {l9 : Value} {y0 : Int32} {v : mmM} {c : Nat} {K : mmO → mmM → Prop} (g1 : y0 = 0 → mm_E kX6_walk 10 [.ref 81, .int x1, l2, l3, l4, l5, l6, l7, l8, l9] [] v c K) (g2 : ¬ y0 = 0 → mm_E kX6_walk 8 [.ref 81, .int x1, l2, l3, l4, l5, l6, l7, l8, l9] [] v c K) : mm_E kX6_walk 5 [.ref 81, .int x1, l2, l3, l4, l5, l6, l7, l8, l9] [.int y0] v c K := by
  exact e_if (p := y0 = 0) rfl g1 g2
theorem bX6_walk_8 {x1 : Int32} {l2 : Value} {l3 : Value} {l4 : Value} {l5 : Value} {l6 : Value} {l7 : Value} {l8 : Value} {l9 : Value} {v : mmM} {c : Nat} {K : mmO → mmM → Prop} (g : K (.inl (some (.int (0 : Int32)))) v) : mm_E kX6_walk 8 [.ref 81, .int x1, l2, l3, l4, l5, l6, l7, l8, l9] [] v c K := by
  refine e_run 1 (pc1 := 9) (L1 := [.ref 81, .int x1, l2, l3, l4, l5, l6, l7, l8, l9]) (S1 := [.int (0 : Int32)]) (v1 := v) rfl ?_
  exact e_iret (ty := .int) rfl rfl rfl g
theorem bX6_walk_10 {x1 : Int32} {l2 : Value} {l3 : Value} {l4 : Value} {l5 : Value} {l6 : Value} {l7 : Value} {l8 : Value} {l9 : Value} {v : mmM} {c : Nat} {K : mmO → mmM → Prop} (g : mm_E kX6_walk 14 [.ref 81, .int x1, .int (0 : Int32), .int (0 : Int32), l4, l5, l6, l7, l8, l9] [] v c K) : mm_E kX6_walk 10 [.ref 81, .int x1, l2, l3, l4, l5, l6, l7, l8, l9] [] v c K := by
  refine e_run 4 (pc1 := 14) (L1 := [.ref 81, .int x1, .int (0 : Int32), .int (0 : Int32), l4, l5, l6, l7, l8, l9]) (S1 := []) (v1 := v) rfl ?_
  exact g
theorem bX6_walk_14 {x1 : Int32} {x2 : Int32} {x3 : Int32} {l4 : Value} {l5 : Value} {l6 : Value} {l7 : Value} {l8 : Value} {l9 : Value} {v : mmM} {c : Nat} {K : mmO → mmM → Prop} (g1 : (v 81 31) ≤ x3 → mm_E kX6_walk 42 [.ref 81, .int x1, .int x2, .int x3, l4, l5, l6, l7, l8, l9] [] v c K) (g2 : ¬ (v 81 31) ≤ x3 → mm_E kX6_walk 22 [.ref 81, .int x1, .int x2, .int x3, l4, l5, l6, l7, l8, l9] [] v c K) : mm_E kX6_walk 14 [.ref 81, .int x1, .int x2, .int x3, l4, l5, l6, l7, l8, l9] [] v c K := by
  refine e_run 3 (pc1 := 19) (L1 := [.ref 81, .int x1, .int x2, .int x3, l4, l5, l6, l7, l8, l9]) (S1 := [.int (v 81 31), .int x3]) (v1 := v) rfl ?_
  exact e_if (p := (v 81 31) ≤ x3) rfl g1 g2
theorem bX6_walk_22 {x1 : Int32} {x2 : Int32} {x3 : Int32} {l4 : Value} {l5 : Value} {l6 : Value} {l7 : Value} {l8 : Value} {l9 : Value} {v : mmM} {c : Nat} {K : mmO → mmM → Prop} (h1 : mm_in x3 60 = true) (g : mm_E kX6_walk 14 [.ref 81, .int x1, .int (if x2 < ((v 238 x3.toNatClampNeg) / (10 : Int32)) then ((v 238 x3.toNatClampNeg) / (10 : Int32)) else x2), .int (x3 + (1 : Int32)), l4, l5, l6, l7, l8, l9] [] v c K) : mm_E kX6_walk 22 [.ref 81, .int x1, .int x2, .int x3, l4, l5, l6, l7, l8, l9] [] v c K := by
  refine e_run 4 (pc1 := 28) (L1 := [.ref 81, .int x1, .int x2, .int x3, l4, l5, l6, l7, l8, l9]) (S1 := [.int x3, .ref 238, .int x2]) (v1 := v) rfl ?_
  refine e_iald rfl rfl (by decide) h1 ?_
  refine e_run 1 (pc1 := 31) (L1 := [.ref 81, .int x1, .int x2, .int x3, l4, l5, l6, l7, l8, l9]) (S1 := [.int (10 : Int32), .int (v 238 x3.toNatClampNeg), .int x2]) (v1 := v) rfl ?_
  refine e_idiv rfl (by decide) ?_
  refine e_run 4 (pc1 := 14) (L1 := [.ref 81, .int x1, .int (if x2 < ((v 238 x3.toNatClampNeg) / (10 : Int32)) then ((v 238 x3.toNatClampNeg) / (10 : Int32)) else x2), .int (x3 + (1 : Int32)), l4, l5, l6, l7, l8, l9]) (S1 := []) (v1 := v) rfl ?_
  exact g
theorem bX6_walk_42 {x1 : Int32} {x2 : Int32} {x3 : Int32} {l4 : Value} {l5 : Value} {l6 : Value} {l7 : Value} {l8 : Value} {l9 : Value} {v : mmM} {c : Nat} {K : mmO → mmM → Prop} (g : mm_E kX6_walk 51 [.ref 81, .int x1, .int x2, .int (0 : Int32), .int (100000 : Int32), .int (0 : Int32), l6, l7, l8, l9] [] v c K) : mm_E kX6_walk 42 [.ref 81, .int x1, .int x2, .int x3, l4, l5, l6, l7, l8, l9] [] v c K := by
  refine e_run 6 (pc1 := 51) (L1 := [.ref 81, .int x1, .int x2, .int (0 : Int32), .int (100000 : Int32), .int (0 : Int32), l6, l7, l8, l9]) (S1 := []) (v1 := v) rfl ?_
  exact g
theorem bX6_walk_51 {x1 : Int32} {x2 : Int32} {x3 : Int32} {x4 : Int32} {x5 : Int32} {l6 : Value} {l7 : Value} {l8 : Value} {l9 : Value} {v : mmM} {c : Nat} {K : mmO → mmM → Prop} (g1 : x2 < x5 → mm_E kX6_walk 205 [.ref 81, .int x1, .int x2, .int x3, .int x4, .int x5, l6, l7, l8, l9] [] v c K) (g2 : ¬ x2 < x5 → mm_E kX6_walk 57 [.ref 81, .int x1, .int x2, .int x3, .int x4, .int x5, l6, l7, l8, l9] [] v c K) : mm_E kX6_walk 51 [.ref 81, .int x1, .int x2, .int x3, .int x4, .int x5, l6, l7, l8, l9] [] v c K := by
  refine e_run 2 (pc1 := 54) (L1 := [.ref 81, .int x1, .int x2, .int x3, .int x4, .int x5, l6, l7, l8, l9]) (S1 := [.int x2, .int x5]) (v1 := v) rfl ?_
  exact e_if (p := x2 < x5) rfl g1 g2
theorem bX6_walk_57 {x1 : Int32} {x2 : Int32} {x3 : Int32} {x4 : Int32} {x5 : Int32} {l6 : Value} {l7 : Value} {l8 : Value} {l9 : Value} {v : mmM} {c : Nat} {K : mmO → mmM → Prop} (g : mm_E kX6_walk 67 [.ref 81, .int x1, .int x2, .int x3, .int x4, .int x5, .int (-1 : Int32), .int (10 : Int32), .int (0 : Int32), l9] [] v c K) : mm_E kX6_walk 57 [.ref 81, .int x1, .int x2, .int x3, .int x4, .int x5, l6, l7, l8, l9] [] v c K := by
  refine e_run 6 (pc1 := 67) (L1 := [.ref 81, .int x1, .int x2, .int x3, .int x4, .int x5, .int (-1 : Int32), .int (10 : Int32), .int (0 : Int32), l9]) (S1 := []) (v1 := v) rfl ?_
  exact g
theorem bX6_walk_67 {x1 : Int32} {x2 : Int32} {x3 : Int32} {x4 : Int32} {x5 : Int32} {x6 : Int32} {x7 : Int32} {x8 : Int32} {l9 : Value} {v : mmM} {c : Nat} {K : mmO → mmM → Prop} (g1 : (v 81 31) ≤ x8 → mm_E kX6_walk 131 [.ref 81, .int x1, .int x2, .int x3, .int x4, .int x5, .int x6, .int x7, .int x8, l9] [] v c K) (g2 : ¬ (v 81 31) ≤ x8 → mm_E kX6_walk 76 [.ref 81, .int x1, .int x2, .int x3, .int x4, .int x5, .int x6, .int x7, .int x8, l9] [] v c K) : mm_E kX6_walk 67 [.ref 81, .int x1, .int x2, .int x3, .int x4, .int x5, .int x6, .int x7, .int x8, l9] [] v c K := by
  refine e_run 3 (pc1 := 73) (L1 := [.ref 81, .int x1, .int x2, .int x3, .int x4, .int x5, .int x6, .int x7, .int x8, l9]) (S1 := [.int (v 81 31), .int x8]) (v1 := v) rfl ?_
  exact e_if (p := (v 81 31) ≤ x8) rfl g1 g2
theorem bX6_walk_76 {x1 : Int32} {x2 : Int32} {x3 : Int32} {x4 : Int32} {x5 : Int32} {x6 : Int32} {x7 : Int32} {x8 : Int32} {l9 : Value} {v : mmM} {c : Nat} {K : mmO → mmM → Prop} (h1 : mm_in x8 60 = true) (g1 : ((v 238 x8.toNatClampNeg) / (10 : Int32)) = x5 → mm_E kX6_walk 91 [.ref 81, .int x1, .int x2, .int x3, .int x4, .int x5, .int x6, .int x7, .int x8, l9] [] v c K) (g2 : ¬ ((v 238 x8.toNatClampNeg) / (10 : Int32)) = x5 → mm_E kX6_walk 125 [.ref 81, .int x1, .int x2, .int x3, .int x4, .int x5, .int x6, .int x7, .int x8, l9] [] v c K) : mm_E kX6_walk 76 [.ref 81, .int x1, .int x2, .int x3, .int x4, .int x5, .int x6, .int x7, .int x8, l9] [] v c K := by
  refine e_run 3 (pc1 := 82) (L1 := [.ref 81, .int x1, .int x2, .int x3, .int x4, .int x5, .int x6, .int x7, .int x8, l9]) (S1 := [.int x8, .ref 238]) (v1 := v) rfl ?_
  refine e_iald rfl rfl (by decide) h1 ?_
  refine e_run 1 (pc1 := 85) (L1 := [.ref 81, .int x1, .int x2, .int x3, .int x4, .int x5, .int x6, .int x7, .int x8, l9]) (S1 := [.int (10 : Int32), .int (v 238 x8.toNatClampNeg)]) (v1 := v) rfl ?_
  refine e_idiv rfl (by decide) ?_
  refine e_run 1 (pc1 := 88) (L1 := [.ref 81, .int x1, .int x2, .int x3, .int x4, .int x5, .int x6, .int x7, .int x8, l9]) (S1 := [.int x5, .int ((v 238 x8.toNatClampNeg) / (10 : Int32))]) (v1 := v) rfl ?_
  exact e_if (p := ((v 238 x8.toNatClampNeg) / (10 : Int32)) = x5) rfl g1 g2
theorem bX6_walk_91 {x1 : Int32} {x2 : Int32} {x3 : Int32} {x4 : Int32} {x5 : Int32} {x6 : Int32} {x7 : Int32} {x8 : Int32} {l9 : Value} {v : mmM} {c : Nat} {K : mmO → mmM → Prop} (h1 : mm_in x8 60 = true) (h2 : mm_in x8 60 = true) (g : mm_E kX6_walk 125 [.ref 81, .int x1, .int x2, .int x3, .int x4, .int x5, .int (if x6 < ((v 238 x8.toNatClampNeg) - (v 238 x8.toNatClampNeg) / (10 : Int32) * (10 : Int32)) then ((v 238 x8.toNatClampNeg) - (v 238 x8.toNatClampNeg) / (10 : Int32) * (10 : Int32)) else x6), .int (if ((v 238 x8.toNatClampNeg) - (v 238 x8.toNatClampNeg) / (10 : Int32) * (10 : Int32)) < x7 then ((v 238 x8.toNatClampNeg) - (v 238 x8.toNatClampNeg) / (10 : Int32) * (10 : Int32)) else x7), .int x8, l9] [] v c K) : mm_E kX6_walk 91 [.ref 81, .int x1, .int x2, .int x3, .int x4, .int x5, .int x6, .int x7, .int x8, l9] [] v c K := by
  refine e_run 4 (pc1 := 99) (L1 := [.ref 81, .int x1, .int x2, .int x3, .int x4, .int x5, .int x6, .int x7, .int x8, l9]) (S1 := [.int x8, .ref 238, .int x6]) (v1 := v) rfl ?_
  refine e_iald rfl rfl (by decide) h1 ?_
  refine e_run 1 (pc1 := 102) (L1 := [.ref 81, .int x1, .int x2, .int x3, .int x4, .int x5, .int x6, .int x7, .int x8, l9]) (S1 := [.int (10 : Int32), .int (v 238 x8.toNatClampNeg), .int x6]) (v1 := v) rfl ?_
  refine e_irem rfl (by decide) ?_
  refine e_run 6 (pc1 := 116) (L1 := [.ref 81, .int x1, .int x2, .int x3, .int x4, .int x5, .int (if x6 < ((v 238 x8.toNatClampNeg) - (v 238 x8.toNatClampNeg) / (10 : Int32) * (10 : Int32)) then ((v 238 x8.toNatClampNeg) - (v 238 x8.toNatClampNeg) / (10 : Int32) * (10 : Int32)) else x6), .int x7, .int x8, l9]) (S1 := [.int x8, .ref 238, .int x7]) (v1 := v) rfl ?_
  refine e_iald rfl rfl (by decide) h2 ?_
  refine e_run 1 (pc1 := 119) (L1 := [.ref 81, .int x1, .int x2, .int x3, .int x4, .int x5, .int (if x6 < ((v 238 x8.toNatClampNeg) - (v 238 x8.toNatClampNeg) / (10 : Int32) * (10 : Int32)) then ((v 238 x8.toNatClampNeg) - (v 238 x8.toNatClampNeg) / (10 : Int32) * (10 : Int32)) else x6), .int x7, .int x8, l9]) (S1 := [.int (10 : Int32), .int (v 238 x8.toNatClampNeg), .int x7]) (v1 := v) rfl ?_
  refine e_irem rfl (by decide) ?_
  refine e_run 2 (pc1 := 125) (L1 := [.ref 81, .int x1, .int x2, .int x3, .int x4, .int x5, .int (if x6 < ((v 238 x8.toNatClampNeg) - (v 238 x8.toNatClampNeg) / (10 : Int32) * (10 : Int32)) then ((v 238 x8.toNatClampNeg) - (v 238 x8.toNatClampNeg) / (10 : Int32) * (10 : Int32)) else x6), .int (if ((v 238 x8.toNatClampNeg) - (v 238 x8.toNatClampNeg) / (10 : Int32) * (10 : Int32)) < x7 then ((v 238 x8.toNatClampNeg) - (v 238 x8.toNatClampNeg) / (10 : Int32) * (10 : Int32)) else x7), .int x8, l9]) (S1 := []) (v1 := v) rfl ?_
  exact g
theorem bX6_walk_125 {x1 : Int32} {x2 : Int32} {x3 : Int32} {x4 : Int32} {x5 : Int32} {x6 : Int32} {x7 : Int32} {x8 : Int32} {l9 : Value} {v : mmM} {c : Nat} {K : mmO → mmM → Prop} (g : mm_E kX6_walk 67 [.ref 81, .int x1, .int x2, .int x3, .int x4, .int x5, .int x6, .int x7, .int (x8 + (1 : Int32)), l9] [] v c K) : mm_E kX6_walk 125 [.ref 81, .int x1, .int x2, .int x3, .int x4, .int x5, .int x6, .int x7, .int x8, l9] [] v c K := by
  refine e_run 2 (pc1 := 67) (L1 := [.ref 81, .int x1, .int x2, .int x3, .int x4, .int x5, .int x6, .int x7, .int (x8 + (1 : Int32)), l9]) (S1 := []) (v1 := v) rfl ?_
  exact g
theorem bX6_walk_131 {x1 : Int32} {x2 : Int32} {x3 : Int32} {x4 : Int32} {x5 : Int32} {x6 : Int32} {x7 : Int32} {x8 : Int32} {l9 : Value} {v : mmM} {c : Nat} {K : mmO → mmM → Prop} (g1 : x2 ≤ x5 → mm_E kX6_walk 180 [.ref 81, .int x1, .int x2, .int x3, .int x4, .int x5, .int x6, .int x7, .int (if (x4 + (11 : Int32)) < (x3 + ((2 : Int32) * (x6 + (1 : Int32)))) then (x4 + (11 : Int32)) else (x3 + ((2 : Int32) * (x6 + (1 : Int32))))), .int (if (x3 + (11 : Int32)) < (x4 + ((2 : Int32) * ((10 : Int32) - x7))) then (x3 + (11 : Int32)) else (x4 + ((2 : Int32) * ((10 : Int32) - x7))))] [.int (if (x4 + (11 : Int32)) < (x3 + ((2 : Int32) * (x6 + (1 : Int32)))) then (x4 + (11 : Int32)) else (x3 + ((2 : Int32) * (x6 + (1 : Int32)))))] v c K) (g2 : ¬ x2 ≤ x5 → mm_E kX6_walk 176 [.ref 81, .int x1, .int x2, .int x3, .int x4, .int x5, .int x6, .int x7, .int (if (x4 + (11 : Int32)) < (x3 + ((2 : Int32) * (x6 + (1 : Int32)))) then (x4 + (11 : Int32)) else (x3 + ((2 : Int32) * (x6 + (1 : Int32))))), .int (if (x3 + (11 : Int32)) < (x4 + ((2 : Int32) * ((10 : Int32) - x7))) then (x3 + (11 : Int32)) else (x4 + ((2 : Int32) * ((10 : Int32) - x7))))] [.int (if (x4 + (11 : Int32)) < (x3 + ((2 : Int32) * (x6 + (1 : Int32)))) then (x4 + (11 : Int32)) else (x3 + ((2 : Int32) * (x6 + (1 : Int32)))))] v c K) : mm_E kX6_walk 131 [.ref 81, .int x1, .int x2, .int x3, .int x4, .int x5, .int x6, .int x7, .int x8, l9] [] v c K := by
  refine e_run 27 (pc1 := 173) (L1 := [.ref 81, .int x1, .int x2, .int x3, .int x4, .int x5, .int x6, .int x7, .int (if (x4 + (11 : Int32)) < (x3 + ((2 : Int32) * (x6 + (1 : Int32)))) then (x4 + (11 : Int32)) else (x3 + ((2 : Int32) * (x6 + (1 : Int32))))), .int (if (x3 + (11 : Int32)) < (x4 + ((2 : Int32) * ((10 : Int32) - x7))) then (x3 + (11 : Int32)) else (x4 + ((2 : Int32) * ((10 : Int32) - x7))))]) (S1 := [.int x2, .int x5, .int (if (x4 + (11 : Int32)) < (x3 + ((2 : Int32) * (x6 + (1 : Int32)))) then (x4 + (11 : Int32)) else (x3 + ((2 : Int32) * (x6 + (1 : Int32)))))]) (v1 := v) rfl ?_
  exact e_if (p := x2 ≤ x5) rfl g1 g2
theorem bX6_walk_176 {x1 : Int32} {x2 : Int32} {x3 : Int32} {x4 : Int32} {x5 : Int32} {x6 : Int32} {x7 : Int32} {x8 : Int32} {x9 : Int32} {y0 : Int32} {v : mmM} {c : Nat} {K : mmO → mmM → Prop} (g : mm_E kX6_walk 181 [.ref 81, .int x1, .int x2, .int x3, .int x4, .int x5, .int x6, .int x7, .int x8, .int x9] [.int (4 : Int32), .int y0] v c K) : mm_E kX6_walk 176 [.ref 81, .int x1, .int x2, .int x3, .int x4, .int x5, .int x6, .int x7, .int x8, .int x9] [.int y0] v c K := by
  refine e_run 2 (pc1 := 181) (L1 := [.ref 81, .int x1, .int x2, .int x3, .int x4, .int x5, .int x6, .int x7, .int x8, .int x9]) (S1 := [.int (4 : Int32), .int y0]) (v1 := v) rfl ?_
  exact g
theorem bX6_walk_180 {x1 : Int32} {x2 : Int32} {x3 : Int32} {x4 : Int32} {x5 : Int32} {x6 : Int32} {x7 : Int32} {x8 : Int32} {x9 : Int32} {y0 : Int32} {v : mmM} {c : Nat} {K : mmO → mmM → Prop} (g : mm_E kX6_walk 181 [.ref 81, .int x1, .int x2, .int x3, .int x4, .int x5, .int x6, .int x7, .int x8, .int x9] [.int (0 : Int32), .int y0] v c K) : mm_E kX6_walk 180 [.ref 81, .int x1, .int x2, .int x3, .int x4, .int x5, .int x6, .int x7, .int x8, .int x9] [.int y0] v c K := by
  refine e_run 1 (pc1 := 181) (L1 := [.ref 81, .int x1, .int x2, .int x3, .int x4, .int x5, .int x6, .int x7, .int x8, .int x9]) (S1 := [.int (0 : Int32), .int y0]) (v1 := v) rfl ?_
  exact g
theorem bX6_walk_181 {x1 : Int32} {x2 : Int32} {x3 : Int32} {x4 : Int32} {x5 : Int32} {x6 : Int32} {x7 : Int32} {x8 : Int32} {x9 : Int32} {y0 : Int32} {y1 : Int32} {v : mmM} {c : Nat} {K : mmO → mmM → Prop} (g1 : x2 ≤ x5 → mm_E kX6_walk 195 [.ref 81, .int x1, .int x2, .int (y0 + y1), .int x4, .int x5, .int x6, .int x7, .int x8, .int x9] [.int x9] v c K) (g2 : ¬ x2 ≤ x5 → mm_E kX6_walk 191 [.ref 81, .int x1, .int x2, .int (y0 + y1), .int x4, .int x5, .int x6, .int x7, .int x8, .int x9] [.int x9] v c K) : mm_E kX6_walk 181 [.ref 81, .int x1, .int x2, .int x3, .int x4, .int x5, .int x6, .int x7, .int x8, .int x9] [.int y1, .int y0] v c K := by
  refine e_run 5 (pc1 := 188) (L1 := [.ref 81, .int x1, .int x2, .int (y0 + y1), .int x4, .int x5, .int x6, .int x7, .int x8, .int x9]) (S1 := [.int x2, .int x5, .int x9]) (v1 := v) rfl ?_
  exact e_if (p := x2 ≤ x5) rfl g1 g2
theorem bX6_walk_191 {x1 : Int32} {x2 : Int32} {x3 : Int32} {x4 : Int32} {x5 : Int32} {x6 : Int32} {x7 : Int32} {x8 : Int32} {x9 : Int32} {y0 : Int32} {v : mmM} {c : Nat} {K : mmO → mmM → Prop} (g : mm_E kX6_walk 196 [.ref 81, .int x1, .int x2, .int x3, .int x4, .int x5, .int x6, .int x7, .int x8, .int x9] [.int (4 : Int32), .int y0] v c K) : mm_E kX6_walk 191 [.ref 81, .int x1, .int x2, .int x3, .int x4, .int x5, .int x6, .int x7, .int x8, .int x9] [.int y0] v c K := by
  refine e_run 2 (pc1 := 196) (L1 := [.ref 81, .int x1, .int x2, .int x3, .int x4, .int x5, .int x6, .int x7, .int x8, .int x9]) (S1 := [.int (4 : Int32), .int y0]) (v1 := v) rfl ?_
  exact g
theorem bX6_walk_195 {x1 : Int32} {x2 : Int32} {x3 : Int32} {x4 : Int32} {x5 : Int32} {x6 : Int32} {x7 : Int32} {x8 : Int32} {x9 : Int32} {y0 : Int32} {v : mmM} {c : Nat} {K : mmO → mmM → Prop} (g : mm_E kX6_walk 196 [.ref 81, .int x1, .int x2, .int x3, .int x4, .int x5, .int x6, .int x7, .int x8, .int x9] [.int (0 : Int32), .int y0] v c K) : mm_E kX6_walk 195 [.ref 81, .int x1, .int x2, .int x3, .int x4, .int x5, .int x6, .int x7, .int x8, .int x9] [.int y0] v c K := by
  refine e_run 1 (pc1 := 196) (L1 := [.ref 81, .int x1, .int x2, .int x3, .int x4, .int x5, .int x6, .int x7, .int x8, .int x9]) (S1 := [.int (0 : Int32), .int y0]) (v1 := v) rfl ?_
  exact g
theorem bX6_walk_196 {x1 : Int32} {x2 : Int32} {x3 : Int32} {x4 : Int32} {x5 : Int32} {x6 : Int32} {x7 : Int32} {x8 : Int32} {x9 : Int32} {y0 : Int32} {y1 : Int32} {v : mmM} {c : Nat} {K : mmO → mmM → Prop} (g : mm_E kX6_walk 51 [.ref 81, .int x1, .int x2, .int x3, .int (y0 + y1), .int (x5 + (1 : Int32)), .int x6, .int x7, .int x8, .int x9] [] v c K) : mm_E kX6_walk 196 [.ref 81, .int x1, .int x2, .int x3, .int x4, .int x5, .int x6, .int x7, .int x8, .int x9] [.int y1, .int y0] v c K := by
  refine e_run 4 (pc1 := 51) (L1 := [.ref 81, .int x1, .int x2, .int x3, .int (y0 + y1), .int (x5 + (1 : Int32)), .int x6, .int x7, .int x8, .int x9]) (S1 := []) (v1 := v) rfl ?_
  exact g
theorem bX6_walk_205 {x1 : Int32} {x2 : Int32} {x3 : Int32} {x4 : Int32} {x5 : Int32} {l6 : Value} {l7 : Value} {l8 : Value} {l9 : Value} {v : mmM} {c : Nat} {K : mmO → mmM → Prop} (g : K (.inl (some (.int (x3 + ((4 : Int32) * x2))))) v) : mm_E kX6_walk 205 [.ref 81, .int x1, .int x2, .int x3, .int x4, .int x5, l6, l7, l8, l9] [] v c K := by
  refine e_run 5 (pc1 := 210) (L1 := [.ref 81, .int x1, .int x2, .int x3, .int x4, .int x5, l6, l7, l8, l9]) (S1 := [.int (x3 + ((4 : Int32) * x2))]) (v1 := v) rfl ?_
  exact e_iret (ty := .int) rfl rfl rfl g
theorem bX6_walkByTrying_0 {x1 : Int32} {v : mmM} {c : Nat} {K : mmO → mmM → Prop} (hc : c + mm_mc kX6_walk ≤ mm_mc kX6_walkByTrying) (g : mm_M kX6_walk [.ref 81, .int x1] v (mm_Kc kX6_walkByTrying 5 [.ref 81, .int x1] [] (c + mm_mc kX6_walk) K)) : mm_E kX6_walkByTrying 0 [.ref 81, .int x1] [] v c K := by
  refine e_run 2 (pc1 := 2) (L1 := [.ref 81, .int x1]) (S1 := [.int x1, .ref 81]) (v1 := v) rfl ?_
  exact e_cl (j := kX6_walk) rfl hc g
theorem bX6_walkByTrying_5 {x1 : Int32} {y0 : Int32} {v : mmM} {c : Nat} {K : mmO → mmM → Prop} (g : K (.inl (some (.int y0))) v) : mm_E kX6_walkByTrying 5 [.ref 81, .int x1] [.int y0] v c K := by
  exact e_iret (ty := .int) rfl rfl rfl g
theorem bX6_pass_0 {x1 : Int32} {l2 : Value} {l3 : Value} {v : mmM} {c : Nat} {K : mmO → mmM → Prop} (hc : c + mm_mc kX6_in ≤ mm_mc kX6_pass) (g : mm_M kX6_in [.int x1, .int (1 : Int32), .int (30 : Int32)] v (mm_Kc kX6_pass 8 [.ref 81, .int x1, l2, l3] [.ref 81] (c + mm_mc kX6_in) K)) : mm_E kX6_pass 0 [.ref 81, .int x1, l2, l3] [] v c K := by
  refine e_run 4 (pc1 := 5) (L1 := [.ref 81, .int x1, l2, l3]) (S1 := [.int (30 : Int32), .int (1 : Int32), .int x1, .ref 81]) (v1 := v) rfl ?_
  exact e_cl (j := kX6_in) rfl hc g
theorem bX6_pass_8 {x1 : Int32} {l2 : Value} {l3 : Value} {y1 : Int32} {v : mmM} {c : Nat} {K : mmO → mmM → Prop} (g1 : y1 = 0 → mm_E kX6_pass 15 [.ref 81, .int x1, l2, l3] [.ref 81] v c K) (g2 : ¬ y1 = 0 → mm_E kX6_pass 11 [.ref 81, .int x1, l2, l3] [.ref 81] v c K) : mm_E kX6_pass 8 [.ref 81, .int x1, l2, l3] [.int y1, .ref 81] v c K := by
  exact e_if (p := y1 = 0) rfl g1 g2
theorem bX6_pass_11 {x1 : Int32} {l2 : Value} {l3 : Value} {v : mmM} {c : Nat} {K : mmO → mmM → Prop} (g : mm_E kX6_pass 16 [.ref 81, .int x1, l2, l3] [.int (0 : Int32), .ref 81] v c K) : mm_E kX6_pass 11 [.ref 81, .int x1, l2, l3] [.ref 81] v c K := by
  refine e_run 2 (pc1 := 16) (L1 := [.ref 81, .int x1, l2, l3]) (S1 := [.int (0 : Int32), .ref 81]) (v1 := v) rfl ?_
  exact g
theorem bX6_pass_15 {x1 : Int32} {l2 : Value} {l3 : Value} {v : mmM} {c : Nat} {K : mmO → mmM → Prop} (g : mm_E kX6_pass 16 [.ref 81, .int x1, l2, l3] [.int (1 : Int32), .ref 81] v c K) : mm_E kX6_pass 15 [.ref 81, .int x1, l2, l3] [.ref 81] v c K := by
  refine e_run 1 (pc1 := 16) (L1 := [.ref 81, .int x1, l2, l3]) (S1 := [.int (1 : Int32), .ref 81]) (v1 := v) rfl ?_
  exact g
theorem bX6_pass_16 {x1 : Int32} {l2 : Value} {l3 : Value} {y1 : Int32} {v : mmM} {c : Nat} {K : mmO → mmM → Prop} (g1 : y1 ≤ 0 → mm_E kX6_pass 28 [.ref 81, .int x1, l2, l3] [] (mm_up v 81 26 y1) c K) (g2 : ¬ y1 ≤ 0 → mm_E kX6_pass 26 [.ref 81, .int x1, l2, l3] [] (mm_up v 81 26 y1) c K) : mm_E kX6_pass 16 [.ref 81, .int x1, l2, l3] [.int y1, .ref 81] v c K := by
  refine e_run 3 (pc1 := 23) (L1 := [.ref 81, .int x1, l2, l3]) (S1 := [.int y1]) (v1 := mm_up v 81 26 y1) rfl ?_
  exact e_if (p := y1 ≤ 0) rfl g1 g2
theorem bX6_pass_26 {x1 : Int32} {l2 : Value} {l3 : Value} {v : mmM} {c : Nat} {K : mmO → mmM → Prop} (g : K (.inl (some (.int (0 : Int32)))) v) : mm_E kX6_pass 26 [.ref 81, .int x1, l2, l3] [] v c K := by
  refine e_run 1 (pc1 := 27) (L1 := [.ref 81, .int x1, l2, l3]) (S1 := [.int (0 : Int32)]) (v1 := v) rfl ?_
  exact e_iret (ty := .int) rfl rfl rfl g
theorem bX6_pass_28 {x1 : Int32} {l2 : Value} {l3 : Value} {v : mmM} {c : Nat} {K : mmO → mmM → Prop} (g : mm_E kX6_pass 42 [.ref 81, .int x1, .int (0 : Int32), .int (0 : Int32)] [] (mm_up v 81 25 ((v 81 25) + x1)) c K) : mm_E kX6_pass 28 [.ref 81, .int x1, l2, l3] [] v c K := by
  refine e_run 10 (pc1 := 42) (L1 := [.ref 81, .int x1, .int (0 : Int32), .int (0 : Int32)]) (S1 := []) (v1 := mm_up v 81 25 ((v 81 25) + x1)) rfl ?_
  exact g
theorem bX6_pass_42 {x1 : Int32} {x2 : Int32} {x3 : Int32} {v : mmM} {c : Nat} {K : mmO → mmM → Prop} (g1 : (v 81 17) ≤ x3 → mm_E kX6_pass 91 [.ref 81, .int x1, .int x2, .int x3] [] v c K) (g2 : ¬ (v 81 17) ≤ x3 → mm_E kX6_pass 50 [.ref 81, .int x1, .int x2, .int x3] [] v c K) : mm_E kX6_pass 42 [.ref 81, .int x1, .int x2, .int x3] [] v c K := by
  refine e_run 3 (pc1 := 47) (L1 := [.ref 81, .int x1, .int x2, .int x3]) (S1 := [.int (v 81 17), .int x3]) (v1 := v) rfl ?_
  exact e_if (p := (v 81 17) ≤ x3) rfl g1 g2
theorem bX6_pass_50 {x1 : Int32} {x2 : Int32} {x3 : Int32} {v : mmM} {c : Nat} {K : mmO → mmM → Prop} (h1 : mm_in x3 20 = true) (g1 : (v 121 x3.toNatClampNeg) = (111 : Int32) → mm_E kX6_pass 61 [.ref 81, .int x1, .int x2, .int x3] [] v c K) (g2 : ¬ (v 121 x3.toNatClampNeg) = (111 : Int32) → mm_E kX6_pass 85 [.ref 81, .int x1, .int x2, .int x3] [] v c K) : mm_E kX6_pass 50 [.ref 81, .int x1, .int x2, .int x3] [] v c K := by
  refine e_run 3 (pc1 := 55) (L1 := [.ref 81, .int x1, .int x2, .int x3]) (S1 := [.int x3, .ref 121]) (v1 := v) rfl ?_
  refine e_cald rfl rfl (by decide) h1 ?_
  refine e_run 1 (pc1 := 58) (L1 := [.ref 81, .int x1, .int x2, .int x3]) (S1 := [.int (111 : Int32), .int (v 121 x3.toNatClampNeg)]) (v1 := v) rfl ?_
  exact e_if (p := (v 121 x3.toNatClampNeg) = (111 : Int32)) rfl g1 g2
theorem bX6_pass_61 {x1 : Int32} {x2 : Int32} {x3 : Int32} {v : mmM} {c : Nat} {K : mmO → mmM → Prop} (h1 : mm_in x3 20 = true) (g1 : (v 81 25) ≤ (v 120 x3.toNatClampNeg) → mm_E kX6_pass 85 [.ref 81, .int x1, .int x2, .int x3] [] v c K) (g2 : ¬ (v 81 25) ≤ (v 120 x3.toNatClampNeg) → mm_E kX6_pass 74 [.ref 81, .int x1, .int x2, .int x3] [] v c K) : mm_E kX6_pass 61 [.ref 81, .int x1, .int x2, .int x3] [] v c K := by
  refine e_run 3 (pc1 := 66) (L1 := [.ref 81, .int x1, .int x2, .int x3]) (S1 := [.int x3, .ref 120]) (v1 := v) rfl ?_
  refine e_iald rfl rfl (by decide) h1 ?_
  refine e_run 2 (pc1 := 71) (L1 := [.ref 81, .int x1, .int x2, .int x3]) (S1 := [.int (v 81 25), .int (v 120 x3.toNatClampNeg)]) (v1 := v) rfl ?_
  exact e_if (p := (v 81 25) ≤ (v 120 x3.toNatClampNeg)) rfl g1 g2
theorem bX6_pass_74 {x1 : Int32} {x2 : Int32} {x3 : Int32} {v : mmM} {c : Nat} {K : mmO → mmM → Prop} (h1 : mm_in x3 20 = true) (g : mm_E kX6_pass 85 [.ref 81, .int x1, .int (x2 + (1 : Int32)), .int x3] [] (mm_up v 121 x3.toNatClampNeg (108 : Int32)) c K) : mm_E kX6_pass 74 [.ref 81, .int x1, .int x2, .int x3] [] v c K := by
  refine e_run 4 (pc1 := 81) (L1 := [.ref 81, .int x1, .int x2, .int x3]) (S1 := [.int (108 : Int32), .int x3, .ref 121]) (v1 := v) rfl ?_
  refine e_cast rfl rfl (by decide) h1 (by decide) ?_
  refine e_run 1 (pc1 := 85) (L1 := [.ref 81, .int x1, .int (x2 + (1 : Int32)), .int x3]) (S1 := []) (v1 := mm_up v 121 x3.toNatClampNeg (108 : Int32)) rfl ?_
  exact g
theorem bX6_pass_85 {x1 : Int32} {x2 : Int32} {x3 : Int32} {v : mmM} {c : Nat} {K : mmO → mmM → Prop} (g : mm_E kX6_pass 42 [.ref 81, .int x1, .int x2, .int (x3 + (1 : Int32))] [] v c K) : mm_E kX6_pass 85 [.ref 81, .int x1, .int x2, .int x3] [] v c K := by
  refine e_run 2 (pc1 := 42) (L1 := [.ref 81, .int x1, .int x2, .int (x3 + (1 : Int32))]) (S1 := []) (v1 := v) rfl ?_
  exact g
theorem bX6_pass_91 {x1 : Int32} {x2 : Int32} {x3 : Int32} {v : mmM} {c : Nat} {K : mmO → mmM → Prop} (g : K (.inl (some (.int x2))) v) : mm_E kX6_pass 91 [.ref 81, .int x1, .int x2, .int x3] [] v c K := by
  refine e_run 1 (pc1 := 92) (L1 := [.ref 81, .int x1, .int x2, .int x3]) (S1 := [.int x2]) (v1 := v) rfl ?_
  exact e_iret (ty := .int) rfl rfl rfl g
theorem bX6_day_0  {v : mmM} {c : Nat} {K : mmO → mmM → Prop} (g : K (.inl (some (.int ((mm_up v 81 26 (0 : Int32)) 81 25)))) (mm_up v 81 26 (0 : Int32))) : mm_E kX6_day 0 [.ref 81] [] v c K := by
  refine e_run 5 (pc1 := 9) (L1 := [.ref 81]) (S1 := [.int ((mm_up v 81 26 (0 : Int32)) 81 25)]) (v1 := mm_up v 81 26 (0 : Int32)) rfl ?_
  exact e_iret (ty := .int) rfl rfl rfl g
theorem bX6_dueDay_0 {x1 : Int32} {l2 : Value} {l3 : Value} {l4 : Value} {v : mmM} {c : Nat} {K : mmO → mmM → Prop} (g : mm_E kX6_dueDay 5 [.ref 81, .int x1, .int (100000 : Int32), .int (0 : Int32), l4] [] v c K) : mm_E kX6_dueDay 0 [.ref 81, .int x1, l2, l3, l4] [] v c K := by
  refine e_run 4 (pc1 := 5) (L1 := [.ref 81, .int x1, .int (100000 : Int32), .int (0 : Int32), l4]) (S1 := []) (v1 := v) rfl ?_
  exact g
theorem bX6_dueDay_5 {x1 : Int32} {x2 : Int32} {x3 : Int32} {l4 : Value} {v : mmM} {c : Nat} {K : mmO → mmM → Prop} (g1 : (v 81 8) ≤ x3 → mm_E kX6_dueDay 73 [.ref 81, .int x1, .int x2, .int x3, l4] [] v c K) (g2 : ¬ (v 81 8) ≤ x3 → mm_E kX6_dueDay 13 [.ref 81, .int x1, .int x2, .int x3, l4] [] v c K) : mm_E kX6_dueDay 5 [.ref 81, .int x1, .int x2, .int x3, l4] [] v c K := by
  refine e_run 3 (pc1 := 10) (L1 := [.ref 81, .int x1, .int x2, .int x3, l4]) (S1 := [.int (v 81 8), .int x3]) (v1 := v) rfl ?_
  exact e_if (p := (v 81 8) ≤ x3) rfl g1 g2
theorem bX6_dueDay_13 {x1 : Int32} {x2 : Int32} {x3 : Int32} {l4 : Value} {v : mmM} {c : Nat} {K : mmO → mmM → Prop} (h1 : mm_in x3 24 = true) (h2 : mm_in x1 40 = true) (g1 : (v (93 + x3.toNatClampNeg) x1.toNatClampNeg) ≤ 0 → mm_E kX6_dueDay 67 [.ref 81, .int x1, .int x2, .int x3, l4] [] v c K) (g2 : ¬ (v (93 + x3.toNatClampNeg) x1.toNatClampNeg) ≤ 0 → mm_E kX6_dueDay 24 [.ref 81, .int x1, .int x2, .int x3, l4] [] v c K) : mm_E kX6_dueDay 13 [.ref 81, .int x1, .int x2, .int x3, l4] [] v c K := by
  refine e_run 3 (pc1 := 18) (L1 := [.ref 81, .int x1, .int x2, .int x3, l4]) (S1 := [.int x3, .ref 92]) (v1 := v) rfl ?_
  refine e_aald rfl rfl (by decide) h1 ?_
  refine e_run 1 (pc1 := 20) (L1 := [.ref 81, .int x1, .int x2, .int x3, l4]) (S1 := [.int x1, .ref (93 + x3.toNatClampNeg)]) (v1 := v) rfl ?_
  refine e_iald rfl (mm_rows (P := fun x => mm_sh (93 + x) = (0, 40, 0, [])) (by decide +kernel) (mm_in_lt h1)) (by have := (mm_in_lt h1); show _ < 244; omega) h2 ?_
  exact e_if (p := (v (93 + x3.toNatClampNeg) x1.toNatClampNeg) ≤ 0) rfl g1 g2
theorem bX6_dueDay_24 {x1 : Int32} {x2 : Int32} {x3 : Int32} {l4 : Value} {v : mmM} {c : Nat} {K : mmO → mmM → Prop} (h1 : mm_in x3 24 = true) (h2 : mm_in (v 90 x3.toNatClampNeg) 6 = true) (g1 : (v 82 (v 90 x3.toNatClampNeg).toNatClampNeg) = (65 : Int32) → mm_E kX6_dueDay 45 [.ref 81, .int x1, .int x2, .int x3, .int (v 82 (v 90 x3.toNatClampNeg).toNatClampNeg)] [.int x2] v c K) (g2 : ¬ (v 82 (v 90 x3.toNatClampNeg).toNatClampNeg) = (65 : Int32) → mm_E kX6_dueDay 49 [.ref 81, .int x1, .int x2, .int x3, .int (v 82 (v 90 x3.toNatClampNeg).toNatClampNeg)] [.int x2] v c K) : mm_E kX6_dueDay 24 [.ref 81, .int x1, .int x2, .int x3, l4] [] v c K := by
  refine e_run 5 (pc1 := 33) (L1 := [.ref 81, .int x1, .int x2, .int x3, l4]) (S1 := [.int x3, .ref 90, .ref 82]) (v1 := v) rfl ?_
  refine e_iald rfl rfl (by decide) h1 ?_
  refine e_cald rfl rfl (by decide) h2 ?_
  refine e_run 4 (pc1 := 42) (L1 := [.ref 81, .int x1, .int x2, .int x3, .int (v 82 (v 90 x3.toNatClampNeg).toNatClampNeg)]) (S1 := [.int (65 : Int32), .int (v 82 (v 90 x3.toNatClampNeg).toNatClampNeg), .int x2]) (v1 := v) rfl ?_
  exact e_if (p := (v 82 (v 90 x3.toNatClampNeg).toNatClampNeg) = (65 : Int32)) rfl g1 g2
theorem bX6_dueDay_45 {x1 : Int32} {x2 : Int32} {x3 : Int32} {x4 : Int32} {y0 : Int32} {v : mmM} {c : Nat} {K : mmO → mmM → Prop} (g : mm_E kX6_dueDay 63 [.ref 81, .int x1, .int x2, .int x3, .int x4] [.int (5 : Int32), .int y0] v c K) : mm_E kX6_dueDay 45 [.ref 81, .int x1, .int x2, .int x3, .int x4] [.int y0] v c K := by
  refine e_run 2 (pc1 := 63) (L1 := [.ref 81, .int x1, .int x2, .int x3, .int x4]) (S1 := [.int (5 : Int32), .int y0]) (v1 := v) rfl ?_
  exact g
theorem bX6_dueDay_49 {x1 : Int32} {x2 : Int32} {x3 : Int32} {x4 : Int32} {y0 : Int32} {v : mmM} {c : Nat} {K : mmO → mmM → Prop} (g1 : x4 = (66 : Int32) → mm_E kX6_dueDay 56 [.ref 81, .int x1, .int x2, .int x3, .int x4] [.int y0] v c K) (g2 : ¬ x4 = (66 : Int32) → mm_E kX6_dueDay 61 [.ref 81, .int x1, .int x2, .int x3, .int x4] [.int y0] v c K) : mm_E kX6_dueDay 49 [.ref 81, .int x1, .int x2, .int x3, .int x4] [.int y0] v c K := by
  refine e_run 2 (pc1 := 53) (L1 := [.ref 81, .int x1, .int x2, .int x3, .int x4]) (S1 := [.int (66 : Int32), .int x4, .int y0]) (v1 := v) rfl ?_
  exact e_if (p := x4 = (66 : Int32)) rfl g1 g2
theorem bX6_dueDay_56 {x1 : Int32} {x2 : Int32} {x3 : Int32} {x4 : Int32} {y0 : Int32} {v : mmM} {c : Nat} {K : mmO → mmM → Prop} (g : mm_E kX6_dueDay 63 [.ref 81, .int x1, .int x2, .int x3, .int x4] [.int (10 : Int32), .int y0] v c K) : mm_E kX6_dueDay 56 [.ref 81, .int x1, .int x2, .int x3, .int x4] [.int y0] v c K := by
  refine e_run 2 (pc1 := 63) (L1 := [.ref 81, .int x1, .int x2, .int x3, .int x4]) (S1 := [.int (10 : Int32), .int y0]) (v1 := v) rfl ?_
  exact g
theorem bX6_dueDay_61 {x1 : Int32} {x2 : Int32} {x3 : Int32} {x4 : Int32} {y0 : Int32} {v : mmM} {c : Nat} {K : mmO → mmM → Prop} (g : mm_E kX6_dueDay 63 [.ref 81, .int x1, .int x2, .int x3, .int x4] [.int (20 : Int32), .int y0] v c K) : mm_E kX6_dueDay 61 [.ref 81, .int x1, .int x2, .int x3, .int x4] [.int y0] v c K := by
  refine e_run 1 (pc1 := 63) (L1 := [.ref 81, .int x1, .int x2, .int x3, .int x4]) (S1 := [.int (20 : Int32), .int y0]) (v1 := v) rfl ?_
  exact g
theorem bX6_dueDay_63 {x1 : Int32} {x2 : Int32} {x3 : Int32} {x4 : Int32} {y0 : Int32} {y1 : Int32} {v : mmM} {c : Nat} {K : mmO → mmM → Prop} (g : mm_E kX6_dueDay 67 [.ref 81, .int x1, .int (if y1 < y0 then y1 else y0), .int x3, .int x4] [] v c K) : mm_E kX6_dueDay 63 [.ref 81, .int x1, .int x2, .int x3, .int x4] [.int y1, .int y0] v c K := by
  refine e_run 2 (pc1 := 67) (L1 := [.ref 81, .int x1, .int (if y1 < y0 then y1 else y0), .int x3, .int x4]) (S1 := []) (v1 := v) rfl ?_
  exact g
theorem bX6_dueDay_67 {x1 : Int32} {x2 : Int32} {x3 : Int32} {l4 : Value} {v : mmM} {c : Nat} {K : mmO → mmM → Prop} (g : mm_E kX6_dueDay 5 [.ref 81, .int x1, .int x2, .int (x3 + (1 : Int32)), l4] [] v c K) : mm_E kX6_dueDay 67 [.ref 81, .int x1, .int x2, .int x3, l4] [] v c K := by
  refine e_run 2 (pc1 := 5) (L1 := [.ref 81, .int x1, .int x2, .int (x3 + (1 : Int32)), l4]) (S1 := []) (v1 := v) rfl ?_
  exact g
theorem bX6_dueDay_73 {x1 : Int32} {x2 : Int32} {x3 : Int32} {l4 : Value} {v : mmM} {c : Nat} {K : mmO → mmM → Prop} (g1 : x2 = (100000 : Int32) → mm_E kX6_dueDay 79 [.ref 81, .int x1, .int x2, .int x3, l4] [] v c K) (g2 : ¬ x2 = (100000 : Int32) → mm_E kX6_dueDay 84 [.ref 81, .int x1, .int x2, .int x3, l4] [] v c K) : mm_E kX6_dueDay 73 [.ref 81, .int x1, .int x2, .int x3, l4] [] v c K := by
  refine e_run 2 (pc1 := 76) (L1 := [.ref 81, .int x1, .int x2, .int x3, l4]) (S1 := [.int (100000 : Int32), .int x2]) (v1 := v) rfl ?_
  exact e_if (p := x2 = (100000 : Int32)) rfl g1 g2
theorem bX6_dueDay_79 {x1 : Int32} {x2 : Int32} {x3 : Int32} {l4 : Value} {v : mmM} {c : Nat} {K : mmO → mmM → Prop} (g : mm_E kX6_dueDay 92 [.ref 81, .int x1, .int x2, .int x3, l4] [.int (2147483647 : Int32)] v c K) : mm_E kX6_dueDay 79 [.ref 81, .int x1, .int x2, .int x3, l4] [] v c K := by
  refine e_run 2 (pc1 := 92) (L1 := [.ref 81, .int x1, .int x2, .int x3, l4]) (S1 := [.int (2147483647 : Int32)]) (v1 := v) rfl ?_
  exact g
theorem bX6_dueDay_84 {x1 : Int32} {x2 : Int32} {x3 : Int32} {l4 : Value} {v : mmM} {c : Nat} {K : mmO → mmM → Prop} (h1 : mm_in x1 40 = true) (g : mm_E kX6_dueDay 92 [.ref 81, .int x1, .int x2, .int x3, l4] [.int ((v 119 x1.toNatClampNeg) + x2)] v c K) : mm_E kX6_dueDay 84 [.ref 81, .int x1, .int x2, .int x3, l4] [] v c K := by
  refine e_run 3 (pc1 := 89) (L1 := [.ref 81, .int x1, .int x2, .int x3, l4]) (S1 := [.int x1, .ref 119]) (v1 := v) rfl ?_
  refine e_iald rfl rfl (by decide) h1 ?_
  refine e_run 2 (pc1 := 92) (L1 := [.ref 81, .int x1, .int x2, .int x3, l4]) (S1 := [.int ((v 119 x1.toNatClampNeg) + x2)]) (v1 := v) rfl ?_
  exact g
theorem bX6_dueDay_92 {x1 : Int32} {x2 : Int32} {x3 : Int32} {l4 : Value} {y0 : Int32} {v : mmM} {c : Nat} {K : mmO → mmM → Prop} (g : K (.inl (some (.int y0))) v) : mm_E kX6_dueDay 92 [.ref 81, .int x1, .int x2, .int x3, l4] [.int y0] v c K := by
  exact e_iret (ty := .int) rfl rfl rfl g
theorem bX6_countsDue_0 {l1 : Value} {l2 : Value} {v : mmM} {c : Nat} {K : mmO → mmM → Prop} (g : mm_E kX6_countsDue 9 [.ref 81, .int (0 : Int32), .int (0 : Int32)] [] (mm_up v 81 26 (0 : Int32)) c K) : mm_E kX6_countsDue 0 [.ref 81, l1, l2] [] v c K := by
  refine e_run 7 (pc1 := 9) (L1 := [.ref 81, .int (0 : Int32), .int (0 : Int32)]) (S1 := []) (v1 := mm_up v 81 26 (0 : Int32)) rfl ?_
  exact g
theorem bX6_countsDue_9 {x1 : Int32} {x2 : Int32} {v : mmM} {c : Nat} {K : mmO → mmM → Prop} (g1 : (40 : Int32) ≤ x2 → mm_E kX6_countsDue 41 [.ref 81, .int x1, .int x2] [] v c K) (g2 : ¬ (40 : Int32) ≤ x2 → mm_E kX6_countsDue 15 [.ref 81, .int x1, .int x2] [] v c K) : mm_E kX6_countsDue 9 [.ref 81, .int x1, .int x2] [] v c K := by
  refine e_run 2 (pc1 := 12) (L1 := [.ref 81, .int x1, .int x2]) (S1 := [.int (40 : Int32), .int x2]) (v1 := v) rfl ?_
  exact e_if (p := (40 : Int32) ≤ x2) rfl g1 g2
theorem bX6_countsDue_15 {x1 : Int32} {x2 : Int32} {v : mmM} {c : Nat} {K : mmO → mmM → Prop} (hc : c + mm_mc kX6_dueDay ≤ mm_mc kX6_countsDue) (g : mm_M kX6_dueDay [.ref 81, .int x2] v (mm_Kc kX6_countsDue 21 [.ref 81, .int x1, .int x2] [.int x1] (c + mm_mc kX6_dueDay) K)) : mm_E kX6_countsDue 15 [.ref 81, .int x1, .int x2] [] v c K := by
  refine e_run 3 (pc1 := 18) (L1 := [.ref 81, .int x1, .int x2]) (S1 := [.int x2, .ref 81, .int x1]) (v1 := v) rfl ?_
  exact e_cl (j := kX6_dueDay) rfl hc g
theorem bX6_countsDue_21 {x1 : Int32} {x2 : Int32} {y0 : Int32} {y1 : Int32} {v : mmM} {c : Nat} {K : mmO → mmM → Prop} (g1 : (v 81 25) < y1 → mm_E kX6_countsDue 32 [.ref 81, .int x1, .int x2] [.int y0] v c K) (g2 : ¬ (v 81 25) < y1 → mm_E kX6_countsDue 28 [.ref 81, .int x1, .int x2] [.int y0] v c K) : mm_E kX6_countsDue 21 [.ref 81, .int x1, .int x2] [.int y1, .int y0] v c K := by
  refine e_run 2 (pc1 := 25) (L1 := [.ref 81, .int x1, .int x2]) (S1 := [.int (v 81 25), .int y1, .int y0]) (v1 := v) rfl ?_
  exact e_if (p := (v 81 25) < y1) rfl g1 g2
theorem bX6_countsDue_28 {x1 : Int32} {x2 : Int32} {y0 : Int32} {v : mmM} {c : Nat} {K : mmO → mmM → Prop} (g : mm_E kX6_countsDue 33 [.ref 81, .int x1, .int x2] [.int (1 : Int32), .int y0] v c K) : mm_E kX6_countsDue 28 [.ref 81, .int x1, .int x2] [.int y0] v c K := by
  refine e_run 2 (pc1 := 33) (L1 := [.ref 81, .int x1, .int x2]) (S1 := [.int (1 : Int32), .int y0]) (v1 := v) rfl ?_
  exact g
theorem bX6_countsDue_32 {x1 : Int32} {x2 : Int32} {y0 : Int32} {v : mmM} {c : Nat} {K : mmO → mmM → Prop} (g : mm_E kX6_countsDue 33 [.ref 81, .int x1, .int x2] [.int (0 : Int32), .int y0] v c K) : mm_E kX6_countsDue 32 [.ref 81, .int x1, .int x2] [.int y0] v c K := by
  refine e_run 1 (pc1 := 33) (L1 := [.ref 81, .int x1, .int x2]) (S1 := [.int (0 : Int32), .int y0]) (v1 := v) rfl ?_
  exact g
theorem bX6_countsDue_33 {x1 : Int32} {x2 : Int32} {y0 : Int32} {y1 : Int32} {v : mmM} {c : Nat} {K : mmO → mmM → Prop} (g : mm_E kX6_countsDue 9 [.ref 81, .int (y0 + y1), .int (x2 + (1 : Int32))] [] v c K) : mm_E kX6_countsDue 33 [.ref 81, .int x1, .int x2] [.int y1, .int y0] v c K := by
  refine e_run 4 (pc1 := 9) (L1 := [.ref 81, .int (y0 + y1), .int (x2 + (1 : Int32))]) (S1 := []) (v1 := v) rfl ?_
  exact g
theorem bX6_countsDue_41 {x1 : Int32} {x2 : Int32} {v : mmM} {c : Nat} {K : mmO → mmM → Prop} (g : K (.inl (some (.int x1))) v) : mm_E kX6_countsDue 41 [.ref 81, .int x1, .int x2] [] v c K := by
  refine e_run 1 (pc1 := 42) (L1 := [.ref 81, .int x1, .int x2]) (S1 := [.int x1]) (v1 := v) rfl ?_
  exact e_iret (ty := .int) rfl rfl rfl g
theorem bX6_nextCount_0 {l1 : Value} {l2 : Value} {l3 : Value} {l4 : Value} {v : mmM} {c : Nat} {K : mmO → mmM → Prop} (g : mm_E kX6_nextCount 4 [.ref 81, .int (-1 : Int32), .int (0 : Int32), l3, l4] [] v c K) : mm_E kX6_nextCount 0 [.ref 81, l1, l2, l3, l4] [] v c K := by
  refine e_run 4 (pc1 := 4) (L1 := [.ref 81, .int (-1 : Int32), .int (0 : Int32), l3, l4]) (S1 := []) (v1 := v) rfl ?_
  exact g
theorem bX6_nextCount_4 {x1 : Int32} {x2 : Int32} {l3 : Value} {l4 : Value} {v : mmM} {c : Nat} {K : mmO → mmM → Prop} (g1 : (40 : Int32) ≤ x2 → mm_E kX6_nextCount 63 [.ref 81, .int x1, .int x2, l3, l4] [] v c K) (g2 : ¬ (40 : Int32) ≤ x2 → mm_E kX6_nextCount 10 [.ref 81, .int x1, .int x2, l3, l4] [] v c K) : mm_E kX6_nextCount 4 [.ref 81, .int x1, .int x2, l3, l4] [] v c K := by
  refine e_run 2 (pc1 := 7) (L1 := [.ref 81, .int x1, .int x2, l3, l4]) (S1 := [.int (40 : Int32), .int x2]) (v1 := v) rfl ?_
  exact e_if (p := (40 : Int32) ≤ x2) rfl g1 g2
theorem bX6_nextCount_10 {x1 : Int32} {x2 : Int32} {l3 : Value} {l4 : Value} {v : mmM} {c : Nat} {K : mmO → mmM → Prop} (hc : c + mm_mc kX6_turned ≤ mm_mc kX6_nextCount) (g : mm_M kX6_turned [.int x2] v (mm_Kc kX6_nextCount 14 [.ref 81, .int x1, .int x2, l3, l4] [] (c + mm_mc kX6_turned) K)) : mm_E kX6_nextCount 10 [.ref 81, .int x1, .int x2, l3, l4] [] v c K := by
  refine e_run 1 (pc1 := 11) (L1 := [.ref 81, .int x1, .int x2, l3, l4]) (S1 := [.int x2]) (v1 := v) rfl ?_
  exact e_cl (j := kX6_turned) rfl hc g
theorem bX6_nextCount_14 {x1 : Int32} {x2 : Int32} {l3 : Value} {l4 : Value} {y0 : Int32} {v : mmM} {c : Nat} {K : mmO → mmM → Prop} (hc : c + mm_mc kX6_dueDay ≤ mm_mc kX6_nextCount) (g : mm_M kX6_dueDay [.ref 81, .int y0] v (mm_Kc kX6_nextCount 20 [.ref 81, .int x1, .int x2, .int y0, l4] [] (c + mm_mc kX6_dueDay) K)) : mm_E kX6_nextCount 14 [.ref 81, .int x1, .int x2, l3, l4] [.int y0] v c K := by
  refine e_run 3 (pc1 := 17) (L1 := [.ref 81, .int x1, .int x2, .int y0, l4]) (S1 := [.int y0, .ref 81]) (v1 := v) rfl ?_
  exact e_cl (j := kX6_dueDay) rfl hc g
theorem bX6_nextCount_20 {x1 : Int32} {x2 : Int32} {x3 : Int32} {l4 : Value} {y0 : Int32} {v : mmM} {c : Nat} {K : mmO → mmM → Prop} (g1 : (2147483647 : Int32) ≤ y0 → mm_E kX6_nextCount 29 [.ref 81, .int x1, .int x2, .int x3, l4] [] v c K) (g2 : ¬ (2147483647 : Int32) ≤ y0 → mm_E kX6_nextCount 25 [.ref 81, .int x1, .int x2, .int x3, l4] [] v c K) : mm_E kX6_nextCount 20 [.ref 81, .int x1, .int x2, .int x3, l4] [.int y0] v c K := by
  refine e_run 1 (pc1 := 22) (L1 := [.ref 81, .int x1, .int x2, .int x3, l4]) (S1 := [.int (2147483647 : Int32), .int y0]) (v1 := v) rfl ?_
  exact e_if (p := (2147483647 : Int32) ≤ y0) rfl g1 g2
theorem bX6_nextCount_25 {x1 : Int32} {x2 : Int32} {x3 : Int32} {l4 : Value} {v : mmM} {c : Nat} {K : mmO → mmM → Prop} (g : mm_E kX6_nextCount 30 [.ref 81, .int x1, .int x2, .int x3, l4] [.int (1 : Int32)] v c K) : mm_E kX6_nextCount 25 [.ref 81, .int x1, .int x2, .int x3, l4] [] v c K := by
  refine e_run 2 (pc1 := 30) (L1 := [.ref 81, .int x1, .int x2, .int x3, l4]) (S1 := [.int (1 : Int32)]) (v1 := v) rfl ?_
  exact g
theorem bX6_nextCount_29 {x1 : Int32} {x2 : Int32} {x3 : Int32} {l4 : Value} {v : mmM} {c : Nat} {K : mmO → mmM → Prop} (g : mm_E kX6_nextCount 30 [.ref 81, .int x1, .int x2, .int x3, l4] [.int (0 : Int32)] v c K) : mm_E kX6_nextCount 29 [.ref 81, .int x1, .int x2, .int x3, l4] [] v c K := by
  refine e_run 1 (pc1 := 30) (L1 := [.ref 81, .int x1, .int x2, .int x3, l4]) (S1 := [.int (0 : Int32)]) (v1 := v) rfl ?_
  exact g
theorem bX6_nextCount_30 {x1 : Int32} {x2 : Int32} {x3 : Int32} {l4 : Value} {y0 : Int32} {v : mmM} {c : Nat} {K : mmO → mmM → Prop} (g1 : y0 = 0 → mm_E kX6_nextCount 57 [.ref 81, .int x1, .int x2, .int x3, .int y0] [] v c K) (g2 : ¬ y0 = 0 → mm_E kX6_nextCount 37 [.ref 81, .int x1, .int x2, .int x3, .int y0] [] v c K) : mm_E kX6_nextCount 30 [.ref 81, .int x1, .int x2, .int x3, l4] [.int y0] v c K := by
  refine e_run 2 (pc1 := 34) (L1 := [.ref 81, .int x1, .int x2, .int x3, .int y0]) (S1 := [.int y0]) (v1 := v) rfl ?_
  exact e_if (p := y0 = 0) rfl g1 g2
theorem bX6_nextCount_37 {x1 : Int32} {x2 : Int32} {x3 : Int32} {x4 : Int32} {v : mmM} {c : Nat} {K : mmO → mmM → Prop} (g1 : x1 = (-1 : Int32) → mm_E kX6_nextCount 55 [.ref 81, .int x1, .int x2, .int x3, .int x4] [] v c K) (g2 : ¬ x1 = (-1 : Int32) → mm_E kX6_nextCount 42 [.ref 81, .int x1, .int x2, .int x3, .int x4] [] v c K) : mm_E kX6_nextCount 37 [.ref 81, .int x1, .int x2, .int x3, .int x4] [] v c K := by
  refine e_run 2 (pc1 := 39) (L1 := [.ref 81, .int x1, .int x2, .int x3, .int x4]) (S1 := [.int (-1 : Int32), .int x1]) (v1 := v) rfl ?_
  exact e_if (p := x1 = (-1 : Int32)) rfl g1 g2
theorem bX6_nextCount_42 {x1 : Int32} {x2 : Int32} {x3 : Int32} {x4 : Int32} {v : mmM} {c : Nat} {K : mmO → mmM → Prop} (hc : c + mm_mc kX6_dueDay ≤ mm_mc kX6_nextCount) (g : mm_M kX6_dueDay [.ref 81, .int x3] v (mm_Kc kX6_nextCount 47 [.ref 81, .int x1, .int x2, .int x3, .int x4] [] (c + mm_mc kX6_dueDay) K)) : mm_E kX6_nextCount 42 [.ref 81, .int x1, .int x2, .int x3, .int x4] [] v c K := by
  refine e_run 2 (pc1 := 44) (L1 := [.ref 81, .int x1, .int x2, .int x3, .int x4]) (S1 := [.int x3, .ref 81]) (v1 := v) rfl ?_
  exact e_cl (j := kX6_dueDay) rfl hc g
theorem bX6_nextCount_47 {x1 : Int32} {x2 : Int32} {x3 : Int32} {x4 : Int32} {y0 : Int32} {v : mmM} {c : Nat} {K : mmO → mmM → Prop} (hc : c + mm_mc kX6_dueDay ≤ mm_mc kX6_nextCount) (g : mm_M kX6_dueDay [.ref 81, .int x1] v (mm_Kc kX6_nextCount 52 [.ref 81, .int x1, .int x2, .int x3, .int x4] [.int y0] (c + mm_mc kX6_dueDay) K)) : mm_E kX6_nextCount 47 [.ref 81, .int x1, .int x2, .int x3, .int x4] [.int y0] v c K := by
  refine e_run 2 (pc1 := 49) (L1 := [.ref 81, .int x1, .int x2, .int x3, .int x4]) (S1 := [.int x1, .ref 81, .int y0]) (v1 := v) rfl ?_
  exact e_cl (j := kX6_dueDay) rfl hc g
theorem bX6_nextCount_52 {x1 : Int32} {x2 : Int32} {x3 : Int32} {x4 : Int32} {y0 : Int32} {y1 : Int32} {v : mmM} {c : Nat} {K : mmO → mmM → Prop} (g1 : y1 ≤ y0 → mm_E kX6_nextCount 57 [.ref 81, .int x1, .int x2, .int x3, .int x4] [] v c K) (g2 : ¬ y1 ≤ y0 → mm_E kX6_nextCount 55 [.ref 81, .int x1, .int x2, .int x3, .int x4] [] v c K) : mm_E kX6_nextCount 52 [.ref 81, .int x1, .int x2, .int x3, .int x4] [.int y1, .int y0] v c K := by
  exact e_if (p := y1 ≤ y0) rfl g1 g2
theorem bX6_nextCount_55 {x1 : Int32} {x2 : Int32} {x3 : Int32} {x4 : Int32} {v : mmM} {c : Nat} {K : mmO → mmM → Prop} (g : mm_E kX6_nextCount 57 [.ref 81, .int x3, .int x2, .int x3, .int x4] [] v c K) : mm_E kX6_nextCount 55 [.ref 81, .int x1, .int x2, .int x3, .int x4] [] v c K := by
  refine e_run 2 (pc1 := 57) (L1 := [.ref 81, .int x3, .int x2, .int x3, .int x4]) (S1 := []) (v1 := v) rfl ?_
  exact g
theorem bX6_nextCount_57 {x1 : Int32} {x2 : Int32} {x3 : Int32} {x4 : Int32} {v : mmM} {c : Nat} {K : mmO → mmM → Prop} (g : mm_E kX6_nextCount 4 [.ref 81, .int x1, .int (x2 + (1 : Int32)), .int x3, .int x4] [] v c K) : mm_E kX6_nextCount 57 [.ref 81, .int x1, .int x2, .int x3, .int x4] [] v c K := by
  refine e_run 2 (pc1 := 4) (L1 := [.ref 81, .int x1, .int (x2 + (1 : Int32)), .int x3, .int x4]) (S1 := []) (v1 := v) rfl ?_
  exact g
theorem bX6_nextCount_63 {x1 : Int32} {x2 : Int32} {l3 : Value} {l4 : Value} {v : mmM} {c : Nat} {K : mmO → mmM → Prop} (g1 : x1 = (-1 : Int32) → mm_E kX6_nextCount 69 [.ref 81, .int x1, .int x2, l3, l4] [.ref 81] v c K) (g2 : ¬ x1 = (-1 : Int32) → mm_E kX6_nextCount 73 [.ref 81, .int x1, .int x2, l3, l4] [.ref 81] v c K) : mm_E kX6_nextCount 63 [.ref 81, .int x1, .int x2, l3, l4] [] v c K := by
  refine e_run 3 (pc1 := 66) (L1 := [.ref 81, .int x1, .int x2, l3, l4]) (S1 := [.int (-1 : Int32), .int x1, .ref 81]) (v1 := v) rfl ?_
  exact e_if (p := x1 = (-1 : Int32)) rfl g1 g2
theorem bX6_nextCount_69 {x1 : Int32} {x2 : Int32} {l3 : Value} {l4 : Value} {v : mmM} {c : Nat} {K : mmO → mmM → Prop} (g : mm_E kX6_nextCount 74 [.ref 81, .int x1, .int x2, l3, l4] [.int (1 : Int32), .ref 81] v c K) : mm_E kX6_nextCount 69 [.ref 81, .int x1, .int x2, l3, l4] [.ref 81] v c K := by
  refine e_run 2 (pc1 := 74) (L1 := [.ref 81, .int x1, .int x2, l3, l4]) (S1 := [.int (1 : Int32), .ref 81]) (v1 := v) rfl ?_
  exact g
theorem bX6_nextCount_73 {x1 : Int32} {x2 : Int32} {l3 : Value} {l4 : Value} {v : mmM} {c : Nat} {K : mmO → mmM → Prop} (g : mm_E kX6_nextCount 74 [.ref 81, .int x1, .int x2, l3, l4] [.int (0 : Int32), .ref 81] v c K) : mm_E kX6_nextCount 73 [.ref 81, .int x1, .int x2, l3, l4] [.ref 81] v c K := by
  refine e_run 1 (pc1 := 74) (L1 := [.ref 81, .int x1, .int x2, l3, l4]) (S1 := [.int (0 : Int32), .ref 81]) (v1 := v) rfl ?_
  exact g
theorem bX6_nextCount_74 {x1 : Int32} {x2 : Int32} {l3 : Value} {l4 : Value} {y1 : Int32} {v : mmM} {c : Nat} {K : mmO → mmM → Prop} (g1 : x1 = (-1 : Int32) → mm_E kX6_nextCount 82 [.ref 81, .int x1, .int x2, l3, l4] [] (mm_up v 81 26 y1) c K) (g2 : ¬ x1 = (-1 : Int32) → mm_E kX6_nextCount 86 [.ref 81, .int x1, .int x2, l3, l4] [] (mm_up v 81 26 y1) c K) : mm_E kX6_nextCount 74 [.ref 81, .int x1, .int x2, l3, l4] [.int y1, .ref 81] v c K := by
  refine e_run 3 (pc1 := 79) (L1 := [.ref 81, .int x1, .int x2, l3, l4]) (S1 := [.int (-1 : Int32), .int x1]) (v1 := mm_up v 81 26 y1) rfl ?_
  exact e_if (p := x1 = (-1 : Int32)) rfl g1 g2
theorem bX6_nextCount_82 {x1 : Int32} {x2 : Int32} {l3 : Value} {l4 : Value} {v : mmM} {c : Nat} {K : mmO → mmM → Prop} (g : mm_E kX6_nextCount 87 [.ref 81, .int x1, .int x2, l3, l4] [.int (0 : Int32)] v c K) : mm_E kX6_nextCount 82 [.ref 81, .int x1, .int x2, l3, l4] [] v c K := by
  refine e_run 2 (pc1 := 87) (L1 := [.ref 81, .int x1, .int x2, l3, l4]) (S1 := [.int (0 : Int32)]) (v1 := v) rfl ?_
  exact g
theorem bX6_nextCount_86 {x1 : Int32} {x2 : Int32} {l3 : Value} {l4 : Value} {v : mmM} {c : Nat} {K : mmO → mmM → Prop} (g : mm_E kX6_nextCount 87 [.ref 81, .int x1, .int x2, l3, l4] [.int x1] v c K) : mm_E kX6_nextCount 86 [.ref 81, .int x1, .int x2, l3, l4] [] v c K := by
  refine e_run 1 (pc1 := 87) (L1 := [.ref 81, .int x1, .int x2, l3, l4]) (S1 := [.int x1]) (v1 := v) rfl ?_
  exact g
theorem bX6_nextCount_87 {x1 : Int32} {x2 : Int32} {l3 : Value} {l4 : Value} {y0 : Int32} {v : mmM} {c : Nat} {K : mmO → mmM → Prop} (g : K (.inl (some (.int y0))) v) : mm_E kX6_nextCount 87 [.ref 81, .int x1, .int x2, l3, l4] [.int y0] v c K := by
  exact e_iret (ty := .int) rfl rfl rfl g
theorem bX6_countDay_0 {x1 : Int32} {v : mmM} {c : Nat} {K : mmO → mmM → Prop} (hc : c + mm_mc kX6_isBin ≤ mm_mc kX6_countDay) (g : mm_M kX6_isBin [.int x1] v (mm_Kc kX6_countDay 5 [.ref 81, .int x1] [.ref 81] (c + mm_mc kX6_isBin) K)) : mm_E kX6_countDay 0 [.ref 81, .int x1] [] v c K := by
  refine e_run 2 (pc1 := 2) (L1 := [.ref 81, .int x1]) (S1 := [.int x1, .ref 81]) (v1 := v) rfl ?_
  exact e_cl (j := kX6_isBin) rfl hc g
theorem bX6_countDay_5 {x1 : Int32} {y1 : Int32} {v : mmM} {c : Nat} {K : mmO → mmM → Prop} (g1 : y1 = 0 → mm_E kX6_countDay 8 [.ref 81, .int x1] [.ref 81] v c K) (g2 : ¬ y1 = 0 → mm_E kX6_countDay 12 [.ref 81, .int x1] [.ref 81] v c K) : mm_E kX6_countDay 5 [.ref 81, .int x1] [.int y1, .ref 81] v c K := by
  exact e_if (p := y1 = 0) rfl g1 g2
theorem bX6_countDay_8 {x1 : Int32} {v : mmM} {c : Nat} {K : mmO → mmM → Prop} (g : mm_E kX6_countDay 27 [.ref 81, .int x1] [.int (1 : Int32), .ref 81] v c K) : mm_E kX6_countDay 8 [.ref 81, .int x1] [.ref 81] v c K := by
  refine e_run 2 (pc1 := 27) (L1 := [.ref 81, .int x1]) (S1 := [.int (1 : Int32), .ref 81]) (v1 := v) rfl ?_
  exact g
theorem bX6_countDay_12 {x1 : Int32} {v : mmM} {c : Nat} {K : mmO → mmM → Prop} (hc : c + mm_mc kX6_dueDay ≤ mm_mc kX6_countDay) (g : mm_M kX6_dueDay [.ref 81, .int x1] v (mm_Kc kX6_countDay 17 [.ref 81, .int x1] [.ref 81] (c + mm_mc kX6_dueDay) K)) : mm_E kX6_countDay 12 [.ref 81, .int x1] [.ref 81] v c K := by
  refine e_run 2 (pc1 := 14) (L1 := [.ref 81, .int x1]) (S1 := [.int x1, .ref 81, .ref 81]) (v1 := v) rfl ?_
  exact e_cl (j := kX6_dueDay) rfl hc g
theorem bX6_countDay_17 {x1 : Int32} {y1 : Int32} {v : mmM} {c : Nat} {K : mmO → mmM → Prop} (g1 : y1 = (2147483647 : Int32) → mm_E kX6_countDay 22 [.ref 81, .int x1] [.ref 81] v c K) (g2 : ¬ y1 = (2147483647 : Int32) → mm_E kX6_countDay 26 [.ref 81, .int x1] [.ref 81] v c K) : mm_E kX6_countDay 17 [.ref 81, .int x1] [.int y1, .ref 81] v c K := by
  refine e_run 1 (pc1 := 19) (L1 := [.ref 81, .int x1]) (S1 := [.int (2147483647 : Int32), .int y1, .ref 81]) (v1 := v) rfl ?_
  exact e_if (p := y1 = (2147483647 : Int32)) rfl g1 g2
theorem bX6_countDay_22 {x1 : Int32} {v : mmM} {c : Nat} {K : mmO → mmM → Prop} (g : mm_E kX6_countDay 27 [.ref 81, .int x1] [.int (2 : Int32), .ref 81] v c K) : mm_E kX6_countDay 22 [.ref 81, .int x1] [.ref 81] v c K := by
  refine e_run 2 (pc1 := 27) (L1 := [.ref 81, .int x1]) (S1 := [.int (2 : Int32), .ref 81]) (v1 := v) rfl ?_
  exact g
theorem bX6_countDay_26 {x1 : Int32} {v : mmM} {c : Nat} {K : mmO → mmM → Prop} (g : mm_E kX6_countDay 27 [.ref 81, .int x1] [.int (0 : Int32), .ref 81] v c K) : mm_E kX6_countDay 26 [.ref 81, .int x1] [.ref 81] v c K := by
  refine e_run 1 (pc1 := 27) (L1 := [.ref 81, .int x1]) (S1 := [.int (0 : Int32), .ref 81]) (v1 := v) rfl ?_
  exact g
theorem bX6_countDay_27 {x1 : Int32} {y1 : Int32} {v : mmM} {c : Nat} {K : mmO → mmM → Prop} (g1 : y1 ≤ 0 → mm_E kX6_countDay 41 [.ref 81, .int x1] [] (mm_up v 81 26 y1) c K) (g2 : ¬ y1 ≤ 0 → mm_E kX6_countDay 37 [.ref 81, .int x1] [] (mm_up v 81 26 y1) c K) : mm_E kX6_countDay 27 [.ref 81, .int x1] [.int y1, .ref 81] v c K := by
  refine e_run 3 (pc1 := 34) (L1 := [.ref 81, .int x1]) (S1 := [.int y1]) (v1 := mm_up v 81 26 y1) rfl ?_
  exact e_if (p := y1 ≤ 0) rfl g1 g2
theorem bX6_countDay_37 {x1 : Int32} {v : mmM} {c : Nat} {K : mmO → mmM → Prop} (g : mm_E kX6_countDay 46 [.ref 81, .int x1] [.int (0 : Int32)] v c K) : mm_E kX6_countDay 37 [.ref 81, .int x1] [] v c K := by
  refine e_run 2 (pc1 := 46) (L1 := [.ref 81, .int x1]) (S1 := [.int (0 : Int32)]) (v1 := v) rfl ?_
  exact g
theorem bX6_countDay_41 {x1 : Int32} {v : mmM} {c : Nat} {K : mmO → mmM → Prop} (hc : c + mm_mc kX6_dueDay ≤ mm_mc kX6_countDay) (g : mm_M kX6_dueDay [.ref 81, .int x1] v (mm_Kc kX6_countDay 46 [.ref 81, .int x1] [] (c + mm_mc kX6_dueDay) K)) : mm_E kX6_countDay 41 [.ref 81, .int x1] [] v c K := by
  refine e_run 2 (pc1 := 43) (L1 := [.ref 81, .int x1]) (S1 := [.int x1, .ref 81]) (v1 := v) rfl ?_
  exact e_cl (j := kX6_dueDay) rfl hc g
theorem bX6_countDay_46 {x1 : Int32} {y0 : Int32} {v : mmM} {c : Nat} {K : mmO → mmM → Prop} (g : K (.inl (some (.int y0))) v) : mm_E kX6_countDay 46 [.ref 81, .int x1] [.int y0] v c K := by
  exact e_iret (ty := .int) rfl rfl rfl g
theorem bX6_stock_0 {x1 : Int32} {x2 : Int32} {v : mmM} {c : Nat} {K : mmO → mmM → Prop} (hc : c + mm_mc kX6_isLot ≤ mm_mc kX6_stock) (g : mm_M kX6_isLot [.ref 81, .int x1] v (mm_Kc kX6_stock 6 [.ref 81, .int x1, .int x2] [.ref 81] (c + mm_mc kX6_isLot) K)) : mm_E kX6_stock 0 [.ref 81, .int x1, .int x2] [] v c K := by
  refine e_run 3 (pc1 := 3) (L1 := [.ref 81, .int x1, .int x2]) (S1 := [.int x1, .ref 81, .ref 81]) (v1 := v) rfl ?_
  exact e_cl (j := kX6_isLot) rfl hc g
theorem bX6_stock_6 {x1 : Int32} {x2 : Int32} {y1 : Int32} {v : mmM} {c : Nat} {K : mmO → mmM → Prop} (g1 : y1 = 0 → mm_E kX6_stock 20 [.ref 81, .int x1, .int x2] [.ref 81] v c K) (g2 : ¬ y1 = 0 → mm_E kX6_stock 9 [.ref 81, .int x1, .int x2] [.ref 81] v c K) : mm_E kX6_stock 6 [.ref 81, .int x1, .int x2] [.int y1, .ref 81] v c K := by
  exact e_if (p := y1 = 0) rfl g1 g2
theorem bX6_stock_9 {x1 : Int32} {x2 : Int32} {v : mmM} {c : Nat} {K : mmO → mmM → Prop} (hc : c + mm_mc kX6_isBin ≤ mm_mc kX6_stock) (g : mm_M kX6_isBin [.int x2] v (mm_Kc kX6_stock 13 [.ref 81, .int x1, .int x2] [.ref 81] (c + mm_mc kX6_isBin) K)) : mm_E kX6_stock 9 [.ref 81, .int x1, .int x2] [.ref 81] v c K := by
  refine e_run 1 (pc1 := 10) (L1 := [.ref 81, .int x1, .int x2]) (S1 := [.int x2, .ref 81]) (v1 := v) rfl ?_
  exact e_cl (j := kX6_isBin) rfl hc g
theorem bX6_stock_13 {x1 : Int32} {x2 : Int32} {y1 : Int32} {v : mmM} {c : Nat} {K : mmO → mmM → Prop} (g1 : y1 = 0 → mm_E kX6_stock 20 [.ref 81, .int x1, .int x2] [.ref 81] v c K) (g2 : ¬ y1 = 0 → mm_E kX6_stock 16 [.ref 81, .int x1, .int x2] [.ref 81] v c K) : mm_E kX6_stock 13 [.ref 81, .int x1, .int x2] [.int y1, .ref 81] v c K := by
  exact e_if (p := y1 = 0) rfl g1 g2
theorem bX6_stock_16 {x1 : Int32} {x2 : Int32} {v : mmM} {c : Nat} {K : mmO → mmM → Prop} (g : mm_E kX6_stock 21 [.ref 81, .int x1, .int x2] [.int (0 : Int32), .ref 81] v c K) : mm_E kX6_stock 16 [.ref 81, .int x1, .int x2] [.ref 81] v c K := by
  refine e_run 2 (pc1 := 21) (L1 := [.ref 81, .int x1, .int x2]) (S1 := [.int (0 : Int32), .ref 81]) (v1 := v) rfl ?_
  exact g
theorem bX6_stock_20 {x1 : Int32} {x2 : Int32} {v : mmM} {c : Nat} {K : mmO → mmM → Prop} (g : mm_E kX6_stock 21 [.ref 81, .int x1, .int x2] [.int (1 : Int32), .ref 81] v c K) : mm_E kX6_stock 20 [.ref 81, .int x1, .int x2] [.ref 81] v c K := by
  refine e_run 1 (pc1 := 21) (L1 := [.ref 81, .int x1, .int x2]) (S1 := [.int (1 : Int32), .ref 81]) (v1 := v) rfl ?_
  exact g
theorem bX6_stock_21 {x1 : Int32} {x2 : Int32} {y1 : Int32} {v : mmM} {c : Nat} {K : mmO → mmM → Prop} (g1 : y1 ≤ 0 → mm_E kX6_stock 35 [.ref 81, .int x1, .int x2] [] (mm_up v 81 26 y1) c K) (g2 : ¬ y1 ≤ 0 → mm_E kX6_stock 31 [.ref 81, .int x1, .int x2] [] (mm_up v 81 26 y1) c K) : mm_E kX6_stock 21 [.ref 81, .int x1, .int x2] [.int y1, .ref 81] v c K := by
  refine e_run 3 (pc1 := 28) (L1 := [.ref 81, .int x1, .int x2]) (S1 := [.int y1]) (v1 := mm_up v 81 26 y1) rfl ?_
  exact e_if (p := y1 ≤ 0) rfl g1 g2
theorem bX6_stock_31 {x1 : Int32} {x2 : Int32} {v : mmM} {c : Nat} {K : mmO → mmM → Prop} (g : mm_E kX6_stock 43 [.ref 81, .int x1, .int x2] [.int (0 : Int32)] v c K) : mm_E kX6_stock 31 [.ref 81, .int x1, .int x2] [] v c K := by
  refine e_run 2 (pc1 := 43) (L1 := [.ref 81, .int x1, .int x2]) (S1 := [.int (0 : Int32)]) (v1 := v) rfl ?_
  exact g
theorem bX6_stock_35 {x1 : Int32} {x2 : Int32} {v : mmM} {c : Nat} {K : mmO → mmM → Prop} (h1 : mm_in x1 24 = true) (h2 : mm_in x2 40 = true) (g : mm_E kX6_stock 43 [.ref 81, .int x1, .int x2] [.int (v (93 + x1.toNatClampNeg) x2.toNatClampNeg)] v c K) : mm_E kX6_stock 35 [.ref 81, .int x1, .int x2] [] v c K := by
  refine e_run 3 (pc1 := 40) (L1 := [.ref 81, .int x1, .int x2]) (S1 := [.int x1, .ref 92]) (v1 := v) rfl ?_
  refine e_aald rfl rfl (by decide) h1 ?_
  refine e_run 1 (pc1 := 42) (L1 := [.ref 81, .int x1, .int x2]) (S1 := [.int x2, .ref (93 + x1.toNatClampNeg)]) (v1 := v) rfl ?_
  refine e_iald rfl (mm_rows (P := fun x => mm_sh (93 + x) = (0, 40, 0, [])) (by decide +kernel) (mm_in_lt h1)) (by have := (mm_in_lt h1); show _ < 244; omega) h2 ?_
  exact g
theorem bX6_stock_43 {x1 : Int32} {x2 : Int32} {y0 : Int32} {v : mmM} {c : Nat} {K : mmO → mmM → Prop} (g : K (.inl (some (.int y0))) v) : mm_E kX6_stock 43 [.ref 81, .int x1, .int x2] [.int y0] v c K := by
  exact e_iret (ty := .int) rfl rfl rfl g
theorem bX6_stockByJournal_0 {x1 : Int32} {x2 : Int32} {v : mmM} {c : Nat} {K : mmO → mmM → Prop} (hc : c + mm_mc kX6_stock ≤ mm_mc kX6_stockByJournal) (g : mm_M kX6_stock [.ref 81, .int x1, .int x2] v (mm_Kc kX6_stockByJournal 6 [.ref 81, .int x1, .int x2] [] (c + mm_mc kX6_stock) K)) : mm_E kX6_stockByJournal 0 [.ref 81, .int x1, .int x2] [] v c K := by
  refine e_run 3 (pc1 := 3) (L1 := [.ref 81, .int x1, .int x2]) (S1 := [.int x2, .int x1, .ref 81]) (v1 := v) rfl ?_
  exact e_cl (j := kX6_stock) rfl hc g
theorem bX6_stockByJournal_6 {x1 : Int32} {x2 : Int32} {y0 : Int32} {v : mmM} {c : Nat} {K : mmO → mmM → Prop} (g : K (.inl (some (.int y0))) v) : mm_E kX6_stockByJournal 6 [.ref 81, .int x1, .int x2] [.int y0] v c K := by
  exact e_iret (ty := .int) rfl rfl rfl g
theorem bX6_load_0 {x1 : Int32} {v : mmM} {c : Nat} {K : mmO → mmM → Prop} (hc : c + mm_mc kX6_isBin ≤ mm_mc kX6_load) (g : mm_M kX6_isBin [.int x1] v (mm_Kc kX6_load 5 [.ref 81, .int x1] [.ref 81] (c + mm_mc kX6_isBin) K)) : mm_E kX6_load 0 [.ref 81, .int x1] [] v c K := by
  refine e_run 2 (pc1 := 2) (L1 := [.ref 81, .int x1]) (S1 := [.int x1, .ref 81]) (v1 := v) rfl ?_
  exact e_cl (j := kX6_isBin) rfl hc g
theorem bX6_load_5 {x1 : Int32} {y1 : Int32} {v : mmM} {c : Nat} {K : mmO → mmM → Prop} (g1 : y1 = 0 → mm_E kX6_load 12 [.ref 81, .int x1] [.ref 81] v c K) (g2 : ¬ y1 = 0 → mm_E kX6_load 8 [.ref 81, .int x1] [.ref 81] v c K) : mm_E kX6_load 5 [.ref 81, .int x1] [.int y1, .ref 81] v c K := by
  exact e_if (p := y1 = 0) rfl g1 g2
theorem bX6_load_8 {x1 : Int32} {v : mmM} {c : Nat} {K : mmO → mmM → Prop} (g : mm_E kX6_load 13 [.ref 81, .int x1] [.int (0 : Int32), .ref 81] v c K) : mm_E kX6_load 8 [.ref 81, .int x1] [.ref 81] v c K := by
  refine e_run 2 (pc1 := 13) (L1 := [.ref 81, .int x1]) (S1 := [.int (0 : Int32), .ref 81]) (v1 := v) rfl ?_
  exact g
theorem bX6_load_12 {x1 : Int32} {v : mmM} {c : Nat} {K : mmO → mmM → Prop} (g : mm_E kX6_load 13 [.ref 81, .int x1] [.int (1 : Int32), .ref 81] v c K) : mm_E kX6_load 12 [.ref 81, .int x1] [.ref 81] v c K := by
  refine e_run 1 (pc1 := 13) (L1 := [.ref 81, .int x1]) (S1 := [.int (1 : Int32), .ref 81]) (v1 := v) rfl ?_
  exact g
theorem bX6_load_13 {x1 : Int32} {y1 : Int32} {v : mmM} {c : Nat} {K : mmO → mmM → Prop} (g1 : y1 ≤ 0 → mm_E kX6_load 27 [.ref 81, .int x1] [] (mm_up v 81 26 y1) c K) (g2 : ¬ y1 ≤ 0 → mm_E kX6_load 23 [.ref 81, .int x1] [] (mm_up v 81 26 y1) c K) : mm_E kX6_load 13 [.ref 81, .int x1] [.int y1, .ref 81] v c K := by
  refine e_run 3 (pc1 := 20) (L1 := [.ref 81, .int x1]) (S1 := [.int y1]) (v1 := mm_up v 81 26 y1) rfl ?_
  exact e_if (p := y1 ≤ 0) rfl g1 g2
theorem bX6_load_23 {x1 : Int32} {v : mmM} {c : Nat} {K : mmO → mmM → Prop} (g : mm_E kX6_load 32 [.ref 81, .int x1] [.int (0 : Int32)] v c K) : mm_E kX6_load 23 [.ref 81, .int x1] [] v c K := by
  refine e_run 2 (pc1 := 32) (L1 := [.ref 81, .int x1]) (S1 := [.int (0 : Int32)]) (v1 := v) rfl ?_
  exact g
theorem bX6_load_27 {x1 : Int32} {v : mmM} {c : Nat} {K : mmO → mmM → Prop} (hc : c + mm_mc kX6_load0 ≤ mm_mc kX6_load) (g : mm_M kX6_load0 [.ref 81, .int x1] v (mm_Kc kX6_load 32 [.ref 81, .int x1] [] (c + mm_mc kX6_load0) K)) : mm_E kX6_load 27 [.ref 81, .int x1] [] v c K := by
  refine e_run 2 (pc1 := 29) (L1 := [.ref 81, .int x1]) (S1 := [.int x1, .ref 81]) (v1 := v) rfl ?_
  exact e_cl (j := kX6_load0) rfl hc g
theorem bX6_load_32 {x1 : Int32} {y0 : Int32} {v : mmM} {c : Nat} {K : mmO → mmM → Prop} (g : K (.inl (some (.int y0))) v) : mm_E kX6_load 32 [.ref 81, .int x1] [.int y0] v c K := by
  exact e_iret (ty := .int) rfl rfl rfl g
theorem bX6_lots_0  {v : mmM} {c : Nat} {K : mmO → mmM → Prop} (g : K (.inl (some (.int ((mm_up v 81 26 (0 : Int32)) 81 8)))) (mm_up v 81 26 (0 : Int32))) : mm_E kX6_lots 0 [.ref 81] [] v c K := by
  refine e_run 5 (pc1 := 9) (L1 := [.ref 81]) (S1 := [.int ((mm_up v 81 26 (0 : Int32)) 81 8)]) (v1 := mm_up v 81 26 (0 : Int32)) rfl ?_
  exact e_iret (ty := .int) rfl rfl rfl g
theorem bX6_nextLot_0 {x1 : Int32} {x2 : Int32} {l3 : Value} {l4 : Value} {v : mmM} {c : Nat} {K : mmO → mmM → Prop} (hc : c + mm_mc kX6_isItem ≤ mm_mc kX6_nextLot) (g : mm_M kX6_isItem [.ref 81, .int x1] v (mm_Kc kX6_nextLot 5 [.ref 81, .int x1, .int x2, l3, l4] [] (c + mm_mc kX6_isItem) K)) : mm_E kX6_nextLot 0 [.ref 81, .int x1, .int x2, l3, l4] [] v c K := by
  refine e_run 2 (pc1 := 2) (L1 := [.ref 81, .int x1, .int x2, l3, l4]) (S1 := [.int x1, .ref 81]) (v1 := v) rfl ?_
  exact e_cl (j := kX6_isItem) rfl hc g
theorem bX6_nextLot_5 {x1 : Int32} {x2 : Int32} {l3 : Value} {l4 : Value} {y0 : Int32} {v : mmM} {c : Nat} {K : mmO → mmM → Prop} (g1 : y0 = 0 → mm_E kX6_nextLot 8 [.ref 81, .int x1, .int x2, l3, l4] [] v c K) (g2 : ¬ y0 = 0 → mm_E kX6_nextLot 14 [.ref 81, .int x1, .int x2, l3, l4] [] v c K) : mm_E kX6_nextLot 5 [.ref 81, .int x1, .int x2, l3, l4] [.int y0] v c K := by
  exact e_if (p := y0 = 0) rfl g1 g2
theorem bX6_nextLot_8 {x1 : Int32} {x2 : Int32} {l3 : Value} {l4 : Value} {v : mmM} {c : Nat} {K : mmO → mmM → Prop} (hc : c + mm_mc kX6_raises ≤ mm_mc kX6_nextLot) (g : mm_M kX6_raises [.ref 81, .int (1 : Int32)] v (mm_Kc kX6_nextLot 13 [.ref 81, .int x1, .int x2, l3, l4] [] (c + mm_mc kX6_raises) K)) : mm_E kX6_nextLot 8 [.ref 81, .int x1, .int x2, l3, l4] [] v c K := by
  refine e_run 2 (pc1 := 10) (L1 := [.ref 81, .int x1, .int x2, l3, l4]) (S1 := [.int (1 : Int32), .ref 81]) (v1 := v) rfl ?_
  exact e_cl (j := kX6_raises) rfl hc g
theorem bX6_nextLot_13 {x1 : Int32} {x2 : Int32} {l3 : Value} {l4 : Value} {y0 : Int32} {v : mmM} {c : Nat} {K : mmO → mmM → Prop} (g : K (.inl (some (.int y0))) v) : mm_E kX6_nextLot 13 [.ref 81, .int x1, .int x2, l3, l4] [.int y0] v c K := by
  exact e_iret (ty := .int) rfl rfl rfl g
theorem bX6_nextLot_14 {x1 : Int32} {x2 : Int32} {l3 : Value} {l4 : Value} {v : mmM} {c : Nat} {K : mmO → mmM → Prop} (g : mm_E kX6_nextLot 21 [.ref 81, .int x1, .int x2, .int (0 : Int32), l4] [] (mm_up v 81 26 (0 : Int32)) c K) : mm_E kX6_nextLot 14 [.ref 81, .int x1, .int x2, l3, l4] [] v c K := by
  refine e_run 5 (pc1 := 21) (L1 := [.ref 81, .int x1, .int x2, .int (0 : Int32), l4]) (S1 := []) (v1 := mm_up v 81 26 (0 : Int32)) rfl ?_
  exact g
theorem bX6_nextLot_21 {x1 : Int32} {x2 : Int32} {x3 : Int32} {l4 : Value} {v : mmM} {c : Nat} {K : mmO → mmM → Prop} (g1 : (v 81 8) ≤ x3 → mm_E kX6_nextLot 78 [.ref 81, .int x1, .int x2, .int x3, l4] [] v c K) (g2 : ¬ (v 81 8) ≤ x3 → mm_E kX6_nextLot 29 [.ref 81, .int x1, .int x2, .int x3, l4] [] v c K) : mm_E kX6_nextLot 21 [.ref 81, .int x1, .int x2, .int x3, l4] [] v c K := by
  refine e_run 3 (pc1 := 26) (L1 := [.ref 81, .int x1, .int x2, .int x3, l4]) (S1 := [.int (v 81 8), .int x3]) (v1 := v) rfl ?_
  exact e_if (p := (v 81 8) ≤ x3) rfl g1 g2
theorem bX6_nextLot_29 {x1 : Int32} {x2 : Int32} {x3 : Int32} {l4 : Value} {v : mmM} {c : Nat} {K : mmO → mmM → Prop} (h1 : mm_in x3 24 = true) (h2 : mm_in (v 118 x3.toNatClampNeg) 24 = true) (g1 : (v 90 (v 118 x3.toNatClampNeg).toNatClampNeg) = x1 → mm_E kX6_nextLot 48 [.ref 81, .int x1, .int x2, .int x3, .int (v 118 x3.toNatClampNeg)] [] v c K) (g2 : ¬ (v 90 (v 118 x3.toNatClampNeg).toNatClampNeg) = x1 → mm_E kX6_nextLot 72 [.ref 81, .int x1, .int x2, .int x3, .int (v 118 x3.toNatClampNeg)] [] v c K) : mm_E kX6_nextLot 29 [.ref 81, .int x1, .int x2, .int x3, l4] [] v c K := by
  refine e_run 3 (pc1 := 34) (L1 := [.ref 81, .int x1, .int x2, .int x3, l4]) (S1 := [.int x3, .ref 118]) (v1 := v) rfl ?_
  refine e_iald rfl rfl (by decide) h1 ?_
  refine e_run 4 (pc1 := 43) (L1 := [.ref 81, .int x1, .int x2, .int x3, .int (v 118 x3.toNatClampNeg)]) (S1 := [.int (v 118 x3.toNatClampNeg), .ref 90]) (v1 := v) rfl ?_
  refine e_iald rfl rfl (by decide) h2 ?_
  refine e_run 1 (pc1 := 45) (L1 := [.ref 81, .int x1, .int x2, .int x3, .int (v 118 x3.toNatClampNeg)]) (S1 := [.int x1, .int (v 90 (v 118 x3.toNatClampNeg).toNatClampNeg)]) (v1 := v) rfl ?_
  exact e_if (p := (v 90 (v 118 x3.toNatClampNeg).toNatClampNeg) = x1) rfl g1 g2
theorem bX6_nextLot_48 {x1 : Int32} {x2 : Int32} {x3 : Int32} {x4 : Int32} {v : mmM} {c : Nat} {K : mmO → mmM → Prop} (h1 : mm_in x4 24 = true) (g1 : (v 91 x4.toNatClampNeg) < x2 → mm_E kX6_nextLot 72 [.ref 81, .int x1, .int x2, .int x3, .int x4] [] v c K) (g2 : ¬ (v 91 x4.toNatClampNeg) < x2 → mm_E kX6_nextLot 59 [.ref 81, .int x1, .int x2, .int x3, .int x4] [] v c K) : mm_E kX6_nextLot 48 [.ref 81, .int x1, .int x2, .int x3, .int x4] [] v c K := by
  refine e_run 3 (pc1 := 54) (L1 := [.ref 81, .int x1, .int x2, .int x3, .int x4]) (S1 := [.int x4, .ref 91]) (v1 := v) rfl ?_
  refine e_iald rfl rfl (by decide) h1 ?_
  refine e_run 1 (pc1 := 56) (L1 := [.ref 81, .int x1, .int x2, .int x3, .int x4]) (S1 := [.int x2, .int (v 91 x4.toNatClampNeg)]) (v1 := v) rfl ?_
  exact e_if (p := (v 91 x4.toNatClampNeg) < x2) rfl g1 g2
theorem bX6_nextLot_59 {x1 : Int32} {x2 : Int32} {x3 : Int32} {x4 : Int32} {v : mmM} {c : Nat} {K : mmO → mmM → Prop} (h1 : mm_in x4 24 = true) (g1 : (v 117 x4.toNatClampNeg) ≤ 0 → mm_E kX6_nextLot 72 [.ref 81, .int x1, .int x2, .int x3, .int x4] [] v c K) (g2 : ¬ (v 117 x4.toNatClampNeg) ≤ 0 → mm_E kX6_nextLot 69 [.ref 81, .int x1, .int x2, .int x3, .int x4] [] v c K) : mm_E kX6_nextLot 59 [.ref 81, .int x1, .int x2, .int x3, .int x4] [] v c K := by
  refine e_run 3 (pc1 := 65) (L1 := [.ref 81, .int x1, .int x2, .int x3, .int x4]) (S1 := [.int x4, .ref 117]) (v1 := v) rfl ?_
  refine e_iald rfl rfl (by decide) h1 ?_
  exact e_if (p := (v 117 x4.toNatClampNeg) ≤ 0) rfl g1 g2
theorem bX6_nextLot_69 {x1 : Int32} {x2 : Int32} {x3 : Int32} {x4 : Int32} {v : mmM} {c : Nat} {K : mmO → mmM → Prop} (g : K (.inl (some (.int x4))) v) : mm_E kX6_nextLot 69 [.ref 81, .int x1, .int x2, .int x3, .int x4] [] v c K := by
  refine e_run 1 (pc1 := 71) (L1 := [.ref 81, .int x1, .int x2, .int x3, .int x4]) (S1 := [.int x4]) (v1 := v) rfl ?_
  exact e_iret (ty := .int) rfl rfl rfl g
theorem bX6_nextLot_72 {x1 : Int32} {x2 : Int32} {x3 : Int32} {x4 : Int32} {v : mmM} {c : Nat} {K : mmO → mmM → Prop} (g : mm_E kX6_nextLot 21 [.ref 81, .int x1, .int x2, .int (x3 + (1 : Int32)), .int x4] [] v c K) : mm_E kX6_nextLot 72 [.ref 81, .int x1, .int x2, .int x3, .int x4] [] v c K := by
  refine e_run 2 (pc1 := 21) (L1 := [.ref 81, .int x1, .int x2, .int (x3 + (1 : Int32)), .int x4]) (S1 := []) (v1 := v) rfl ?_
  exact g
theorem bX6_nextLot_78 {x1 : Int32} {x2 : Int32} {x3 : Int32} {l4 : Value} {v : mmM} {c : Nat} {K : mmO → mmM → Prop} (hc : c + mm_mc kX6_raises ≤ mm_mc kX6_nextLot) (g : mm_M kX6_raises [.ref 81, .int (2 : Int32)] v (mm_Kc kX6_nextLot 83 [.ref 81, .int x1, .int x2, .int x3, l4] [] (c + mm_mc kX6_raises) K)) : mm_E kX6_nextLot 78 [.ref 81, .int x1, .int x2, .int x3, l4] [] v c K := by
  refine e_run 2 (pc1 := 80) (L1 := [.ref 81, .int x1, .int x2, .int x3, l4]) (S1 := [.int (2 : Int32), .ref 81]) (v1 := v) rfl ?_
  exact e_cl (j := kX6_raises) rfl hc g
theorem bX6_nextLot_83 {x1 : Int32} {x2 : Int32} {x3 : Int32} {l4 : Value} {y0 : Int32} {v : mmM} {c : Nat} {K : mmO → mmM → Prop} (g : K (.inl (some (.int y0))) v) : mm_E kX6_nextLot 83 [.ref 81, .int x1, .int x2, .int x3, l4] [.int y0] v c K := by
  exact e_iret (ty := .int) rfl rfl rfl g
theorem bX6_sum_0 {x1 : Int32} {x2 : Int32} {l3 : Value} {l4 : Value} {v : mmM} {c : Nat} {K : mmO → mmM → Prop} (hc : c + mm_mc kX6_isItem ≤ mm_mc kX6_sum) (g : mm_M kX6_isItem [.ref 81, .int x1] v (mm_Kc kX6_sum 6 [.ref 81, .int x1, .int x2, l3, l4] [.ref 81] (c + mm_mc kX6_isItem) K)) : mm_E kX6_sum 0 [.ref 81, .int x1, .int x2, l3, l4] [] v c K := by
  refine e_run 3 (pc1 := 3) (L1 := [.ref 81, .int x1, .int x2, l3, l4]) (S1 := [.int x1, .ref 81, .ref 81]) (v1 := v) rfl ?_
  exact e_cl (j := kX6_isItem) rfl hc g
theorem bX6_sum_6 {x1 : Int32} {x2 : Int32} {l3 : Value} {l4 : Value} {y1 : Int32} {v : mmM} {c : Nat} {K : mmO → mmM → Prop} (g1 : y1 = 0 → mm_E kX6_sum 13 [.ref 81, .int x1, .int x2, l3, l4] [.ref 81] v c K) (g2 : ¬ y1 = 0 → mm_E kX6_sum 9 [.ref 81, .int x1, .int x2, l3, l4] [.ref 81] v c K) : mm_E kX6_sum 6 [.ref 81, .int x1, .int x2, l3, l4] [.int y1, .ref 81] v c K := by
  exact e_if (p := y1 = 0) rfl g1 g2
theorem bX6_sum_9 {x1 : Int32} {x2 : Int32} {l3 : Value} {l4 : Value} {v : mmM} {c : Nat} {K : mmO → mmM → Prop} (g : mm_E kX6_sum 14 [.ref 81, .int x1, .int x2, l3, l4] [.int (0 : Int32), .ref 81] v c K) : mm_E kX6_sum 9 [.ref 81, .int x1, .int x2, l3, l4] [.ref 81] v c K := by
  refine e_run 2 (pc1 := 14) (L1 := [.ref 81, .int x1, .int x2, l3, l4]) (S1 := [.int (0 : Int32), .ref 81]) (v1 := v) rfl ?_
  exact g
theorem bX6_sum_13 {x1 : Int32} {x2 : Int32} {l3 : Value} {l4 : Value} {v : mmM} {c : Nat} {K : mmO → mmM → Prop} (g : mm_E kX6_sum 14 [.ref 81, .int x1, .int x2, l3, l4] [.int (1 : Int32), .ref 81] v c K) : mm_E kX6_sum 13 [.ref 81, .int x1, .int x2, l3, l4] [.ref 81] v c K := by
  refine e_run 1 (pc1 := 14) (L1 := [.ref 81, .int x1, .int x2, l3, l4]) (S1 := [.int (1 : Int32), .ref 81]) (v1 := v) rfl ?_
  exact g
theorem bX6_sum_14 {x1 : Int32} {x2 : Int32} {l3 : Value} {l4 : Value} {y1 : Int32} {v : mmM} {c : Nat} {K : mmO → mmM → Prop} (g : mm_E kX6_sum 22 [.ref 81, .int x1, .int x2, .int (0 : Int32), .int (0 : Int32)] [] (mm_up v 81 26 y1) c K) : mm_E kX6_sum 14 [.ref 81, .int x1, .int x2, l3, l4] [.int y1, .ref 81] v c K := by
  refine e_run 5 (pc1 := 22) (L1 := [.ref 81, .int x1, .int x2, .int (0 : Int32), .int (0 : Int32)]) (S1 := []) (v1 := mm_up v 81 26 y1) rfl ?_
  exact g
theorem bX6_sum_22 {x1 : Int32} {x2 : Int32} {x3 : Int32} {x4 : Int32} {v : mmM} {c : Nat} {K : mmO → mmM → Prop} (g1 : (v 81 8) ≤ x4 → mm_E kX6_sum 92 [.ref 81, .int x1, .int x2, .int x3, .int x4] [] v c K) (g2 : ¬ (v 81 8) ≤ x4 → mm_E kX6_sum 31 [.ref 81, .int x1, .int x2, .int x3, .int x4] [] v c K) : mm_E kX6_sum 22 [.ref 81, .int x1, .int x2, .int x3, .int x4] [] v c K := by
  refine e_run 3 (pc1 := 28) (L1 := [.ref 81, .int x1, .int x2, .int x3, .int x4]) (S1 := [.int (v 81 8), .int x4]) (v1 := v) rfl ?_
  exact e_if (p := (v 81 8) ≤ x4) rfl g1 g2
theorem bX6_sum_31 {x1 : Int32} {x2 : Int32} {x3 : Int32} {x4 : Int32} {v : mmM} {c : Nat} {K : mmO → mmM → Prop} (g1 : (v 81 26) = 0 → mm_E kX6_sum 38 [.ref 81, .int x1, .int x2, .int x3, .int x4] [] v c K) (g2 : ¬ (v 81 26) = 0 → mm_E kX6_sum 92 [.ref 81, .int x1, .int x2, .int x3, .int x4] [] v c K) : mm_E kX6_sum 31 [.ref 81, .int x1, .int x2, .int x3, .int x4] [] v c K := by
  refine e_run 2 (pc1 := 35) (L1 := [.ref 81, .int x1, .int x2, .int x3, .int x4]) (S1 := [.int (v 81 26)]) (v1 := v) rfl ?_
  exact e_if (p := (v 81 26) = 0) rfl g1 g2
theorem bX6_sum_38 {x1 : Int32} {x2 : Int32} {x3 : Int32} {x4 : Int32} {v : mmM} {c : Nat} {K : mmO → mmM → Prop} (h1 : mm_in x4 24 = true) (g1 : (v 90 x4.toNatClampNeg) = x1 → mm_E kX6_sum 50 [.ref 81, .int x1, .int x2, .int x3, .int x4] [.int x3] v c K) (g2 : ¬ (v 90 x4.toNatClampNeg) = x1 → mm_E kX6_sum 83 [.ref 81, .int x1, .int x2, .int x3, .int x4] [.int x3] v c K) : mm_E kX6_sum 38 [.ref 81, .int x1, .int x2, .int x3, .int x4] [] v c K := by
  refine e_run 4 (pc1 := 45) (L1 := [.ref 81, .int x1, .int x2, .int x3, .int x4]) (S1 := [.int x4, .ref 90, .int x3]) (v1 := v) rfl ?_
  refine e_iald rfl rfl (by decide) h1 ?_
  refine e_run 1 (pc1 := 47) (L1 := [.ref 81, .int x1, .int x2, .int x3, .int x4]) (S1 := [.int x1, .int (v 90 x4.toNatClampNeg), .int x3]) (v1 := v) rfl ?_
  exact e_if (p := (v 90 x4.toNatClampNeg) = x1) rfl g1 g2
theorem bX6_sum_50 {x1 : Int32} {x2 : Int32} {x3 : Int32} {x4 : Int32} {y0 : Int32} {v : mmM} {c : Nat} {K : mmO → mmM → Prop} (h1 : mm_in x4 24 = true) (g1 : (v 81 25) ≤ (v 91 x4.toNatClampNeg) → mm_E kX6_sum 68 [.ref 81, .int x1, .int x2, .int x3, .int x4] [.int y0] v c K) (g2 : ¬ (v 81 25) ≤ (v 91 x4.toNatClampNeg) → mm_E kX6_sum 64 [.ref 81, .int x1, .int x2, .int x3, .int x4] [.int y0] v c K) : mm_E kX6_sum 50 [.ref 81, .int x1, .int x2, .int x3, .int x4] [.int y0] v c K := by
  refine e_run 3 (pc1 := 56) (L1 := [.ref 81, .int x1, .int x2, .int x3, .int x4]) (S1 := [.int x4, .ref 91, .int y0]) (v1 := v) rfl ?_
  refine e_iald rfl rfl (by decide) h1 ?_
  refine e_run 2 (pc1 := 61) (L1 := [.ref 81, .int x1, .int x2, .int x3, .int x4]) (S1 := [.int (v 81 25), .int (v 91 x4.toNatClampNeg), .int y0]) (v1 := v) rfl ?_
  exact e_if (p := (v 81 25) ≤ (v 91 x4.toNatClampNeg)) rfl g1 g2
theorem bX6_sum_64 {x1 : Int32} {x2 : Int32} {x3 : Int32} {x4 : Int32} {y0 : Int32} {v : mmM} {c : Nat} {K : mmO → mmM → Prop} (g : mm_E kX6_sum 69 [.ref 81, .int x1, .int x2, .int x3, .int x4] [.int (1 : Int32), .int y0] v c K) : mm_E kX6_sum 64 [.ref 81, .int x1, .int x2, .int x3, .int x4] [.int y0] v c K := by
  refine e_run 2 (pc1 := 69) (L1 := [.ref 81, .int x1, .int x2, .int x3, .int x4]) (S1 := [.int (1 : Int32), .int y0]) (v1 := v) rfl ?_
  exact g
theorem bX6_sum_68 {x1 : Int32} {x2 : Int32} {x3 : Int32} {x4 : Int32} {y0 : Int32} {v : mmM} {c : Nat} {K : mmO → mmM → Prop} (g : mm_E kX6_sum 69 [.ref 81, .int x1, .int x2, .int x3, .int x4] [.int (0 : Int32), .int y0] v c K) : mm_E kX6_sum 68 [.ref 81, .int x1, .int x2, .int x3, .int x4] [.int y0] v c K := by
  refine e_run 1 (pc1 := 69) (L1 := [.ref 81, .int x1, .int x2, .int x3, .int x4]) (S1 := [.int (0 : Int32), .int y0]) (v1 := v) rfl ?_
  exact g
theorem bX6_sum_69 {x1 : Int32} {x2 : Int32} {x3 : Int32} {x4 : Int32} {y0 : Int32} {y1 : Int32} {v : mmM} {c : Nat} {K : mmO → mmM → Prop} (g1 : y1 = x2 → mm_E kX6_sum 73 [.ref 81, .int x1, .int x2, .int x3, .int x4] [.int y0] v c K) (g2 : ¬ y1 = x2 → mm_E kX6_sum 83 [.ref 81, .int x1, .int x2, .int x3, .int x4] [.int y0] v c K) : mm_E kX6_sum 69 [.ref 81, .int x1, .int x2, .int x3, .int x4] [.int y1, .int y0] v c K := by
  refine e_run 1 (pc1 := 70) (L1 := [.ref 81, .int x1, .int x2, .int x3, .int x4]) (S1 := [.int x2, .int y1, .int y0]) (v1 := v) rfl ?_
  exact e_if (p := y1 = x2) rfl g1 g2
theorem bX6_sum_73 {x1 : Int32} {x2 : Int32} {x3 : Int32} {x4 : Int32} {y0 : Int32} {v : mmM} {c : Nat} {K : mmO → mmM → Prop} (h1 : mm_in x4 24 = true) (g : mm_E kX6_sum 84 [.ref 81, .int x1, .int x2, .int x3, .int x4] [.int (v 117 x4.toNatClampNeg), .int y0] v c K) : mm_E kX6_sum 73 [.ref 81, .int x1, .int x2, .int x3, .int x4] [.int y0] v c K := by
  refine e_run 3 (pc1 := 79) (L1 := [.ref 81, .int x1, .int x2, .int x3, .int x4]) (S1 := [.int x4, .ref 117, .int y0]) (v1 := v) rfl ?_
  refine e_iald rfl rfl (by decide) h1 ?_
  refine e_run 1 (pc1 := 84) (L1 := [.ref 81, .int x1, .int x2, .int x3, .int x4]) (S1 := [.int (v 117 x4.toNatClampNeg), .int y0]) (v1 := v) rfl ?_
  exact g
theorem bX6_sum_83 {x1 : Int32} {x2 : Int32} {x3 : Int32} {x4 : Int32} {y0 : Int32} {v : mmM} {c : Nat} {K : mmO → mmM → Prop} (g : mm_E kX6_sum 84 [.ref 81, .int x1, .int x2, .int x3, .int x4] [.int (0 : Int32), .int y0] v c K) : mm_E kX6_sum 83 [.ref 81, .int x1, .int x2, .int x3, .int x4] [.int y0] v c K := by
  refine e_run 1 (pc1 := 84) (L1 := [.ref 81, .int x1, .int x2, .int x3, .int x4]) (S1 := [.int (0 : Int32), .int y0]) (v1 := v) rfl ?_
  exact g
theorem bX6_sum_84 {x1 : Int32} {x2 : Int32} {x3 : Int32} {x4 : Int32} {y0 : Int32} {y1 : Int32} {v : mmM} {c : Nat} {K : mmO → mmM → Prop} (g : mm_E kX6_sum 22 [.ref 81, .int x1, .int x2, .int (y0 + y1), .int (x4 + (1 : Int32))] [] v c K) : mm_E kX6_sum 84 [.ref 81, .int x1, .int x2, .int x3, .int x4] [.int y1, .int y0] v c K := by
  refine e_run 4 (pc1 := 22) (L1 := [.ref 81, .int x1, .int x2, .int (y0 + y1), .int (x4 + (1 : Int32))]) (S1 := []) (v1 := v) rfl ?_
  exact g
theorem bX6_sum_92 {x1 : Int32} {x2 : Int32} {x3 : Int32} {x4 : Int32} {v : mmM} {c : Nat} {K : mmO → mmM → Prop} (g : K (.inl (some (.int x3))) v) : mm_E kX6_sum 92 [.ref 81, .int x1, .int x2, .int x3, .int x4] [] v c K := by
  refine e_run 1 (pc1 := 93) (L1 := [.ref 81, .int x1, .int x2, .int x3, .int x4]) (S1 := [.int x3]) (v1 := v) rfl ?_
  exact e_iret (ty := .int) rfl rfl rfl g
theorem bX6_onHand_0 {x1 : Int32} {v : mmM} {c : Nat} {K : mmO → mmM → Prop} (hc : c + mm_mc kX6_sum ≤ mm_mc kX6_onHand) (g : mm_M kX6_sum [.ref 81, .int x1, .int (0 : Int32)] v (mm_Kc kX6_onHand 6 [.ref 81, .int x1] [] (c + mm_mc kX6_sum) K)) : mm_E kX6_onHand 0 [.ref 81, .int x1] [] v c K := by
  refine e_run 3 (pc1 := 3) (L1 := [.ref 81, .int x1]) (S1 := [.int (0 : Int32), .int x1, .ref 81]) (v1 := v) rfl ?_
  exact e_cl (j := kX6_sum) rfl hc g
theorem bX6_onHand_6 {x1 : Int32} {y0 : Int32} {v : mmM} {c : Nat} {K : mmO → mmM → Prop} (g : K (.inl (some (.int y0))) v) : mm_E kX6_onHand 6 [.ref 81, .int x1] [.int y0] v c K := by
  exact e_iret (ty := .int) rfl rfl rfl g
theorem bX6_expired_0 {x1 : Int32} {v : mmM} {c : Nat} {K : mmO → mmM → Prop} (hc : c + mm_mc kX6_sum ≤ mm_mc kX6_expired) (g : mm_M kX6_sum [.ref 81, .int x1, .int (1 : Int32)] v (mm_Kc kX6_expired 6 [.ref 81, .int x1] [] (c + mm_mc kX6_sum) K)) : mm_E kX6_expired 0 [.ref 81, .int x1] [] v c K := by
  refine e_run 3 (pc1 := 3) (L1 := [.ref 81, .int x1]) (S1 := [.int (1 : Int32), .int x1, .ref 81]) (v1 := v) rfl ?_
  exact e_cl (j := kX6_sum) rfl hc g
theorem bX6_expired_6 {x1 : Int32} {y0 : Int32} {v : mmM} {c : Nat} {K : mmO → mmM → Prop} (g : K (.inl (some (.int y0))) v) : mm_E kX6_expired 6 [.ref 81, .int x1] [.int y0] v c K := by
  exact e_iret (ty := .int) rfl rfl rfl g
theorem bX6_entries_0  {v : mmM} {c : Nat} {K : mmO → mmM → Prop} (g : K (.inl (some (.int ((mm_up v 81 26 (0 : Int32)) 81 24)))) (mm_up v 81 26 (0 : Int32))) : mm_E kX6_entries 0 [.ref 81] [] v c K := by
  refine e_run 5 (pc1 := 9) (L1 := [.ref 81]) (S1 := [.int ((mm_up v 81 26 (0 : Int32)) 81 24)]) (v1 := mm_up v 81 26 (0 : Int32)) rfl ?_
  exact e_iret (ty := .int) rfl rfl rfl g
theorem bX6_lacksEntry_0 {x1 : Int32} {v : mmM} {c : Nat} {K : mmO → mmM → Prop} (hc : c + mm_mc kX6_in ≤ mm_mc kX6_lacksEntry) (g : mm_M kX6_in [.int x1, .int (0 : Int32), .int ((v 81 24) - (1 : Int32))] v (mm_Kc kX6_lacksEntry 12 [.ref 81, .int x1] [.ref 81] (c + mm_mc kX6_in) K)) : mm_E kX6_lacksEntry 0 [.ref 81, .int x1] [] v c K := by
  refine e_run 7 (pc1 := 9) (L1 := [.ref 81, .int x1]) (S1 := [.int ((v 81 24) - (1 : Int32)), .int (0 : Int32), .int x1, .ref 81]) (v1 := v) rfl ?_
  exact e_cl (j := kX6_in) rfl hc g
theorem bX6_lacksEntry_12 {x1 : Int32} {y1 : Int32} {v : mmM} {c : Nat} {K : mmO → mmM → Prop} (g1 : y1 = 0 → mm_E kX6_lacksEntry 19 [.ref 81, .int x1] [.ref 81] v c K) (g2 : ¬ y1 = 0 → mm_E kX6_lacksEntry 15 [.ref 81, .int x1] [.ref 81] v c K) : mm_E kX6_lacksEntry 12 [.ref 81, .int x1] [.int y1, .ref 81] v c K := by
  exact e_if (p := y1 = 0) rfl g1 g2
theorem bX6_lacksEntry_15 {x1 : Int32} {v : mmM} {c : Nat} {K : mmO → mmM → Prop} (g : mm_E kX6_lacksEntry 20 [.ref 81, .int x1] [.int (0 : Int32), .ref 81] v c K) : mm_E kX6_lacksEntry 15 [.ref 81, .int x1] [.ref 81] v c K := by
  refine e_run 2 (pc1 := 20) (L1 := [.ref 81, .int x1]) (S1 := [.int (0 : Int32), .ref 81]) (v1 := v) rfl ?_
  exact g
theorem bX6_lacksEntry_19 {x1 : Int32} {v : mmM} {c : Nat} {K : mmO → mmM → Prop} (g : mm_E kX6_lacksEntry 20 [.ref 81, .int x1] [.int (1 : Int32), .ref 81] v c K) : mm_E kX6_lacksEntry 19 [.ref 81, .int x1] [.ref 81] v c K := by
  refine e_run 1 (pc1 := 20) (L1 := [.ref 81, .int x1]) (S1 := [.int (1 : Int32), .ref 81]) (v1 := v) rfl ?_
  exact g
theorem bX6_lacksEntry_20 {x1 : Int32} {y1 : Int32} {v : mmM} {c : Nat} {K : mmO → mmM → Prop} (g1 : y1 ≤ 0 → mm_E kX6_lacksEntry 34 [.ref 81, .int x1] [] (mm_up v 81 26 y1) c K) (g2 : ¬ y1 ≤ 0 → mm_E kX6_lacksEntry 30 [.ref 81, .int x1] [] (mm_up v 81 26 y1) c K) : mm_E kX6_lacksEntry 20 [.ref 81, .int x1] [.int y1, .ref 81] v c K := by
  refine e_run 3 (pc1 := 27) (L1 := [.ref 81, .int x1]) (S1 := [.int y1]) (v1 := mm_up v 81 26 y1) rfl ?_
  exact e_if (p := y1 ≤ 0) rfl g1 g2
theorem bX6_lacksEntry_30 {x1 : Int32} {v : mmM} {c : Nat} {K : mmO → mmM → Prop} (g : mm_E kX6_lacksEntry 35 [.ref 81, .int x1] [.int (1 : Int32)] v c K) : mm_E kX6_lacksEntry 30 [.ref 81, .int x1] [] v c K := by
  refine e_run 2 (pc1 := 35) (L1 := [.ref 81, .int x1]) (S1 := [.int (1 : Int32)]) (v1 := v) rfl ?_
  exact g
theorem bX6_lacksEntry_34 {x1 : Int32} {v : mmM} {c : Nat} {K : mmO → mmM → Prop} (g : mm_E kX6_lacksEntry 35 [.ref 81, .int x1] [.int (0 : Int32)] v c K) : mm_E kX6_lacksEntry 34 [.ref 81, .int x1] [] v c K := by
  refine e_run 1 (pc1 := 35) (L1 := [.ref 81, .int x1]) (S1 := [.int (0 : Int32)]) (v1 := v) rfl ?_
  exact g
theorem bX6_lacksEntry_35 {x1 : Int32} {y0 : Int32} {v : mmM} {c : Nat} {K : mmO → mmM → Prop} (h1 : narrow .boolean (.int y0) = .int y0) (g : K (.inl (some (.int y0))) v) : mm_E kX6_lacksEntry 35 [.ref 81, .int x1] [.int y0] v c K := by
  exact e_iret (ty := .boolean) rfl rfl h1 g
theorem bX6_entryKind_0 {x1 : Int32} {v : mmM} {c : Nat} {K : mmO → mmM → Prop} (hc : c + mm_mc kX6_lacksEntry ≤ mm_mc kX6_entryKind) (g : mm_M kX6_lacksEntry [.ref 81, .int x1] v (mm_Kc kX6_entryKind 5 [.ref 81, .int x1] [] (c + mm_mc kX6_lacksEntry) K)) : mm_E kX6_entryKind 0 [.ref 81, .int x1] [] v c K := by
  refine e_run 2 (pc1 := 2) (L1 := [.ref 81, .int x1]) (S1 := [.int x1, .ref 81]) (v1 := v) rfl ?_
  exact e_cl (j := kX6_lacksEntry) rfl hc g
theorem bX6_entryKind_5 {x1 : Int32} {y0 : Int32} {v : mmM} {c : Nat} {K : mmO → mmM → Prop} (g1 : y0 = 0 → mm_E kX6_entryKind 13 [.ref 81, .int x1] [] v c K) (g2 : ¬ y0 = 0 → mm_E kX6_entryKind 8 [.ref 81, .int x1] [] v c K) : mm_E kX6_entryKind 5 [.ref 81, .int x1] [.int y0] v c K := by
  exact e_if (p := y0 = 0) rfl g1 g2
theorem bX6_entryKind_8 {x1 : Int32} {v : mmM} {c : Nat} {K : mmO → mmM → Prop} (g : mm_E kX6_entryKind 19 [.ref 81, .int x1] [.int (32 : Int32)] v c K) : mm_E kX6_entryKind 8 [.ref 81, .int x1] [] v c K := by
  refine e_run 2 (pc1 := 19) (L1 := [.ref 81, .int x1]) (S1 := [.int (32 : Int32)]) (v1 := v) rfl ?_
  exact g
theorem bX6_entryKind_13 {x1 : Int32} {v : mmM} {c : Nat} {K : mmO → mmM → Prop} (h1 : mm_in x1 150 = true) (g : mm_E kX6_entryKind 19 [.ref 81, .int x1] [.int (v 207 x1.toNatClampNeg)] v c K) : mm_E kX6_entryKind 13 [.ref 81, .int x1] [] v c K := by
  refine e_run 3 (pc1 := 18) (L1 := [.ref 81, .int x1]) (S1 := [.int x1, .ref 207]) (v1 := v) rfl ?_
  refine e_cald rfl rfl (by decide) h1 ?_
  exact g
theorem bX6_entryKind_19 {x1 : Int32} {y0 : Int32} {v : mmM} {c : Nat} {K : mmO → mmM → Prop} (h1 : narrow .char (.int y0) = .int y0) (g : K (.inl (some (.int y0))) v) : mm_E kX6_entryKind 19 [.ref 81, .int x1] [.int y0] v c K := by
  exact e_iret (ty := .char) rfl rfl h1 g
theorem bX6_entryLot_0 {x1 : Int32} {v : mmM} {c : Nat} {K : mmO → mmM → Prop} (hc : c + mm_mc kX6_lacksEntry ≤ mm_mc kX6_entryLot) (g : mm_M kX6_lacksEntry [.ref 81, .int x1] v (mm_Kc kX6_entryLot 5 [.ref 81, .int x1] [] (c + mm_mc kX6_lacksEntry) K)) : mm_E kX6_entryLot 0 [.ref 81, .int x1] [] v c K := by
  refine e_run 2 (pc1 := 2) (L1 := [.ref 81, .int x1]) (S1 := [.int x1, .ref 81]) (v1 := v) rfl ?_
  exact e_cl (j := kX6_lacksEntry) rfl hc g
theorem bX6_entryLot_5 {x1 : Int32} {y0 : Int32} {v : mmM} {c : Nat} {K : mmO → mmM → Prop} (g1 : y0 = 0 → mm_E kX6_entryLot 12 [.ref 81, .int x1] [] v c K) (g2 : ¬ y0 = 0 → mm_E kX6_entryLot 8 [.ref 81, .int x1] [] v c K) : mm_E kX6_entryLot 5 [.ref 81, .int x1] [.int y0] v c K := by
  exact e_if (p := y0 = 0) rfl g1 g2
theorem bX6_entryLot_8 {x1 : Int32} {v : mmM} {c : Nat} {K : mmO → mmM → Prop} (g : mm_E kX6_entryLot 18 [.ref 81, .int x1] [.int (0 : Int32)] v c K) : mm_E kX6_entryLot 8 [.ref 81, .int x1] [] v c K := by
  refine e_run 2 (pc1 := 18) (L1 := [.ref 81, .int x1]) (S1 := [.int (0 : Int32)]) (v1 := v) rfl ?_
  exact g
theorem bX6_entryLot_12 {x1 : Int32} {v : mmM} {c : Nat} {K : mmO → mmM → Prop} (h1 : mm_in x1 150 = true) (g : mm_E kX6_entryLot 18 [.ref 81, .int x1] [.int (v 208 x1.toNatClampNeg)] v c K) : mm_E kX6_entryLot 12 [.ref 81, .int x1] [] v c K := by
  refine e_run 3 (pc1 := 17) (L1 := [.ref 81, .int x1]) (S1 := [.int x1, .ref 208]) (v1 := v) rfl ?_
  refine e_iald rfl rfl (by decide) h1 ?_
  exact g
theorem bX6_entryLot_18 {x1 : Int32} {y0 : Int32} {v : mmM} {c : Nat} {K : mmO → mmM → Prop} (g : K (.inl (some (.int y0))) v) : mm_E kX6_entryLot 18 [.ref 81, .int x1] [.int y0] v c K := by
  exact e_iret (ty := .int) rfl rfl rfl g
theorem bX6_entryFrom_0 {x1 : Int32} {v : mmM} {c : Nat} {K : mmO → mmM → Prop} (hc : c + mm_mc kX6_lacksEntry ≤ mm_mc kX6_entryFrom) (g : mm_M kX6_lacksEntry [.ref 81, .int x1] v (mm_Kc kX6_entryFrom 5 [.ref 81, .int x1] [] (c + mm_mc kX6_lacksEntry) K)) : mm_E kX6_entryFrom 0 [.ref 81, .int x1] [] v c K := by
  refine e_run 2 (pc1 := 2) (L1 := [.ref 81, .int x1]) (S1 := [.int x1, .ref 81]) (v1 := v) rfl ?_
  exact e_cl (j := kX6_lacksEntry) rfl hc g
theorem bX6_entryFrom_5 {x1 : Int32} {y0 : Int32} {v : mmM} {c : Nat} {K : mmO → mmM → Prop} (g1 : y0 = 0 → mm_E kX6_entryFrom 12 [.ref 81, .int x1] [] v c K) (g2 : ¬ y0 = 0 → mm_E kX6_entryFrom 8 [.ref 81, .int x1] [] v c K) : mm_E kX6_entryFrom 5 [.ref 81, .int x1] [.int y0] v c K := by
  exact e_if (p := y0 = 0) rfl g1 g2
theorem bX6_entryFrom_8 {x1 : Int32} {v : mmM} {c : Nat} {K : mmO → mmM → Prop} (g : mm_E kX6_entryFrom 18 [.ref 81, .int x1] [.int (0 : Int32)] v c K) : mm_E kX6_entryFrom 8 [.ref 81, .int x1] [] v c K := by
  refine e_run 2 (pc1 := 18) (L1 := [.ref 81, .int x1]) (S1 := [.int (0 : Int32)]) (v1 := v) rfl ?_
  exact g
theorem bX6_entryFrom_12 {x1 : Int32} {v : mmM} {c : Nat} {K : mmO → mmM → Prop} (h1 : mm_in x1 150 = true) (g : mm_E kX6_entryFrom 18 [.ref 81, .int x1] [.int (v 209 x1.toNatClampNeg)] v c K) : mm_E kX6_entryFrom 12 [.ref 81, .int x1] [] v c K := by
  refine e_run 3 (pc1 := 17) (L1 := [.ref 81, .int x1]) (S1 := [.int x1, .ref 209]) (v1 := v) rfl ?_
  refine e_iald rfl rfl (by decide) h1 ?_
  exact g
theorem bX6_entryFrom_18 {x1 : Int32} {y0 : Int32} {v : mmM} {c : Nat} {K : mmO → mmM → Prop} (g : K (.inl (some (.int y0))) v) : mm_E kX6_entryFrom 18 [.ref 81, .int x1] [.int y0] v c K := by
  exact e_iret (ty := .int) rfl rfl rfl g
theorem bX6_entryTo_0 {x1 : Int32} {v : mmM} {c : Nat} {K : mmO → mmM → Prop} (hc : c + mm_mc kX6_lacksEntry ≤ mm_mc kX6_entryTo) (g : mm_M kX6_lacksEntry [.ref 81, .int x1] v (mm_Kc kX6_entryTo 5 [.ref 81, .int x1] [] (c + mm_mc kX6_lacksEntry) K)) : mm_E kX6_entryTo 0 [.ref 81, .int x1] [] v c K := by
  refine e_run 2 (pc1 := 2) (L1 := [.ref 81, .int x1]) (S1 := [.int x1, .ref 81]) (v1 := v) rfl ?_
  exact e_cl (j := kX6_lacksEntry) rfl hc g
theorem bX6_entryTo_5 {x1 : Int32} {y0 : Int32} {v : mmM} {c : Nat} {K : mmO → mmM → Prop} (g1 : y0 = 0 → mm_E kX6_entryTo 12 [.ref 81, .int x1] [] v c K) (g2 : ¬ y0 = 0 → mm_E kX6_entryTo 8 [.ref 81, .int x1] [] v c K) : mm_E kX6_entryTo 5 [.ref 81, .int x1] [.int y0] v c K := by
  exact e_if (p := y0 = 0) rfl g1 g2
theorem bX6_entryTo_8 {x1 : Int32} {v : mmM} {c : Nat} {K : mmO → mmM → Prop} (g : mm_E kX6_entryTo 18 [.ref 81, .int x1] [.int (0 : Int32)] v c K) : mm_E kX6_entryTo 8 [.ref 81, .int x1] [] v c K := by
  refine e_run 2 (pc1 := 18) (L1 := [.ref 81, .int x1]) (S1 := [.int (0 : Int32)]) (v1 := v) rfl ?_
  exact g
theorem bX6_entryTo_12 {x1 : Int32} {v : mmM} {c : Nat} {K : mmO → mmM → Prop} (h1 : mm_in x1 150 = true) (g : mm_E kX6_entryTo 18 [.ref 81, .int x1] [.int (v 210 x1.toNatClampNeg)] v c K) : mm_E kX6_entryTo 12 [.ref 81, .int x1] [] v c K := by
  refine e_run 3 (pc1 := 17) (L1 := [.ref 81, .int x1]) (S1 := [.int x1, .ref 210]) (v1 := v) rfl ?_
  refine e_iald rfl rfl (by decide) h1 ?_
  exact g
theorem bX6_entryTo_18 {x1 : Int32} {y0 : Int32} {v : mmM} {c : Nat} {K : mmO → mmM → Prop} (g : K (.inl (some (.int y0))) v) : mm_E kX6_entryTo 18 [.ref 81, .int x1] [.int y0] v c K := by
  exact e_iret (ty := .int) rfl rfl rfl g
theorem bX6_entryQuantity_0 {x1 : Int32} {v : mmM} {c : Nat} {K : mmO → mmM → Prop} (hc : c + mm_mc kX6_lacksEntry ≤ mm_mc kX6_entryQuantity) (g : mm_M kX6_lacksEntry [.ref 81, .int x1] v (mm_Kc kX6_entryQuantity 5 [.ref 81, .int x1] [] (c + mm_mc kX6_lacksEntry) K)) : mm_E kX6_entryQuantity 0 [.ref 81, .int x1] [] v c K := by
  refine e_run 2 (pc1 := 2) (L1 := [.ref 81, .int x1]) (S1 := [.int x1, .ref 81]) (v1 := v) rfl ?_
  exact e_cl (j := kX6_lacksEntry) rfl hc g
theorem bX6_entryQuantity_5 {x1 : Int32} {y0 : Int32} {v : mmM} {c : Nat} {K : mmO → mmM → Prop} (g1 : y0 = 0 → mm_E kX6_entryQuantity 12 [.ref 81, .int x1] [] v c K) (g2 : ¬ y0 = 0 → mm_E kX6_entryQuantity 8 [.ref 81, .int x1] [] v c K) : mm_E kX6_entryQuantity 5 [.ref 81, .int x1] [.int y0] v c K := by
  exact e_if (p := y0 = 0) rfl g1 g2
theorem bX6_entryQuantity_8 {x1 : Int32} {v : mmM} {c : Nat} {K : mmO → mmM → Prop} (g : mm_E kX6_entryQuantity 18 [.ref 81, .int x1] [.int (0 : Int32)] v c K) : mm_E kX6_entryQuantity 8 [.ref 81, .int x1] [] v c K := by
  refine e_run 2 (pc1 := 18) (L1 := [.ref 81, .int x1]) (S1 := [.int (0 : Int32)]) (v1 := v) rfl ?_
  exact g
theorem bX6_entryQuantity_12 {x1 : Int32} {v : mmM} {c : Nat} {K : mmO → mmM → Prop} (h1 : mm_in x1 150 = true) (g : mm_E kX6_entryQuantity 18 [.ref 81, .int x1] [.int (v 211 x1.toNatClampNeg)] v c K) : mm_E kX6_entryQuantity 12 [.ref 81, .int x1] [] v c K := by
  refine e_run 3 (pc1 := 17) (L1 := [.ref 81, .int x1]) (S1 := [.int x1, .ref 211]) (v1 := v) rfl ?_
  refine e_iald rfl rfl (by decide) h1 ?_
  exact g
theorem bX6_entryQuantity_18 {x1 : Int32} {y0 : Int32} {v : mmM} {c : Nat} {K : mmO → mmM → Prop} (g : K (.inl (some (.int y0))) v) : mm_E kX6_entryQuantity 18 [.ref 81, .int x1] [.int y0] v c K := by
  exact e_iret (ty := .int) rfl rfl rfl g
theorem bX6_onHandOn_0 {x1 : Int32} {x2 : Int32} {l3 : Value} {l4 : Value} {v : mmM} {c : Nat} {K : mmO → mmM → Prop} (hc : c + mm_mc kX6_isItem ≤ mm_mc kX6_onHandOn) (g : mm_M kX6_isItem [.ref 81, .int x1] v (mm_Kc kX6_onHandOn 6 [.ref 81, .int x1, .int x2, l3, l4] [.ref 81] (c + mm_mc kX6_isItem) K)) : mm_E kX6_onHandOn 0 [.ref 81, .int x1, .int x2, l3, l4] [] v c K := by
  refine e_run 3 (pc1 := 3) (L1 := [.ref 81, .int x1, .int x2, l3, l4]) (S1 := [.int x1, .ref 81, .ref 81]) (v1 := v) rfl ?_
  exact e_cl (j := kX6_isItem) rfl hc g
theorem bX6_onHandOn_6 {x1 : Int32} {x2 : Int32} {l3 : Value} {l4 : Value} {y1 : Int32} {v : mmM} {c : Nat} {K : mmO → mmM → Prop} (g1 : y1 = 0 → mm_E kX6_onHandOn 9 [.ref 81, .int x1, .int x2, l3, l4] [.ref 81] v c K) (g2 : ¬ y1 = 0 → mm_E kX6_onHandOn 13 [.ref 81, .int x1, .int x2, l3, l4] [.ref 81] v c K) : mm_E kX6_onHandOn 6 [.ref 81, .int x1, .int x2, l3, l4] [.int y1, .ref 81] v c K := by
  exact e_if (p := y1 = 0) rfl g1 g2
theorem bX6_onHandOn_9 {x1 : Int32} {x2 : Int32} {l3 : Value} {l4 : Value} {v : mmM} {c : Nat} {K : mmO → mmM → Prop} (g : mm_E kX6_onHandOn 30 [.ref 81, .int x1, .int x2, l3, l4] [.int (1 : Int32), .ref 81] v c K) : mm_E kX6_onHandOn 9 [.ref 81, .int x1, .int x2, l3, l4] [.ref 81] v c K := by
  refine e_run 2 (pc1 := 30) (L1 := [.ref 81, .int x1, .int x2, l3, l4]) (S1 := [.int (1 : Int32), .ref 81]) (v1 := v) rfl ?_
  exact g
theorem bX6_onHandOn_13 {x1 : Int32} {x2 : Int32} {l3 : Value} {l4 : Value} {v : mmM} {c : Nat} {K : mmO → mmM → Prop} (hc : c + mm_mc kX6_in ≤ mm_mc kX6_onHandOn) (g : mm_M kX6_in [.int x2, .int (0 : Int32), .int (v 81 25)] v (mm_Kc kX6_onHandOn 22 [.ref 81, .int x1, .int x2, l3, l4] [.ref 81] (c + mm_mc kX6_in) K)) : mm_E kX6_onHandOn 13 [.ref 81, .int x1, .int x2, l3, l4] [.ref 81] v c K := by
  refine e_run 4 (pc1 := 19) (L1 := [.ref 81, .int x1, .int x2, l3, l4]) (S1 := [.int (v 81 25), .int (0 : Int32), .int x2, .ref 81]) (v1 := v) rfl ?_
  exact e_cl (j := kX6_in) rfl hc g
theorem bX6_onHandOn_22 {x1 : Int32} {x2 : Int32} {l3 : Value} {l4 : Value} {y1 : Int32} {v : mmM} {c : Nat} {K : mmO → mmM → Prop} (g1 : y1 = 0 → mm_E kX6_onHandOn 25 [.ref 81, .int x1, .int x2, l3, l4] [.ref 81] v c K) (g2 : ¬ y1 = 0 → mm_E kX6_onHandOn 29 [.ref 81, .int x1, .int x2, l3, l4] [.ref 81] v c K) : mm_E kX6_onHandOn 22 [.ref 81, .int x1, .int x2, l3, l4] [.int y1, .ref 81] v c K := by
  exact e_if (p := y1 = 0) rfl g1 g2
theorem bX6_onHandOn_25 {x1 : Int32} {x2 : Int32} {l3 : Value} {l4 : Value} {v : mmM} {c : Nat} {K : mmO → mmM → Prop} (g : mm_E kX6_onHandOn 30 [.ref 81, .int x1, .int x2, l3, l4] [.int (2 : Int32), .ref 81] v c K) : mm_E kX6_onHandOn 25 [.ref 81, .int x1, .int x2, l3, l4] [.ref 81] v c K := by
  refine e_run 2 (pc1 := 30) (L1 := [.ref 81, .int x1, .int x2, l3, l4]) (S1 := [.int (2 : Int32), .ref 81]) (v1 := v) rfl ?_
  exact g
theorem bX6_onHandOn_29 {x1 : Int32} {x2 : Int32} {l3 : Value} {l4 : Value} {v : mmM} {c : Nat} {K : mmO → mmM → Prop} (g : mm_E kX6_onHandOn 30 [.ref 81, .int x1, .int x2, l3, l4] [.int (0 : Int32), .ref 81] v c K) : mm_E kX6_onHandOn 29 [.ref 81, .int x1, .int x2, l3, l4] [.ref 81] v c K := by
  refine e_run 1 (pc1 := 30) (L1 := [.ref 81, .int x1, .int x2, l3, l4]) (S1 := [.int (0 : Int32), .ref 81]) (v1 := v) rfl ?_
  exact g
theorem bX6_onHandOn_30 {x1 : Int32} {x2 : Int32} {l3 : Value} {l4 : Value} {y1 : Int32} {v : mmM} {c : Nat} {K : mmO → mmM → Prop} (g : mm_E kX6_onHandOn 38 [.ref 81, .int x1, .int x2, .int (0 : Int32), .int (0 : Int32)] [] (mm_up v 81 26 y1) c K) : mm_E kX6_onHandOn 30 [.ref 81, .int x1, .int x2, l3, l4] [.int y1, .ref 81] v c K := by
  refine e_run 5 (pc1 := 38) (L1 := [.ref 81, .int x1, .int x2, .int (0 : Int32), .int (0 : Int32)]) (S1 := []) (v1 := mm_up v 81 26 y1) rfl ?_
  exact g
theorem bX6_onHandOn_38 {x1 : Int32} {x2 : Int32} {x3 : Int32} {x4 : Int32} {v : mmM} {c : Nat} {K : mmO → mmM → Prop} (g1 : (v 81 24) ≤ x4 → mm_E kX6_onHandOn 135 [.ref 81, .int x1, .int x2, .int x3, .int x4] [] v c K) (g2 : ¬ (v 81 24) ≤ x4 → mm_E kX6_onHandOn 47 [.ref 81, .int x1, .int x2, .int x3, .int x4] [] v c K) : mm_E kX6_onHandOn 38 [.ref 81, .int x1, .int x2, .int x3, .int x4] [] v c K := by
  refine e_run 3 (pc1 := 44) (L1 := [.ref 81, .int x1, .int x2, .int x3, .int x4]) (S1 := [.int (v 81 24), .int x4]) (v1 := v) rfl ?_
  exact e_if (p := (v 81 24) ≤ x4) rfl g1 g2
theorem bX6_onHandOn_47 {x1 : Int32} {x2 : Int32} {x3 : Int32} {x4 : Int32} {v : mmM} {c : Nat} {K : mmO → mmM → Prop} (g1 : (v 81 26) = 0 → mm_E kX6_onHandOn 54 [.ref 81, .int x1, .int x2, .int x3, .int x4] [] v c K) (g2 : ¬ (v 81 26) = 0 → mm_E kX6_onHandOn 135 [.ref 81, .int x1, .int x2, .int x3, .int x4] [] v c K) : mm_E kX6_onHandOn 47 [.ref 81, .int x1, .int x2, .int x3, .int x4] [] v c K := by
  refine e_run 2 (pc1 := 51) (L1 := [.ref 81, .int x1, .int x2, .int x3, .int x4]) (S1 := [.int (v 81 26)]) (v1 := v) rfl ?_
  exact e_if (p := (v 81 26) = 0) rfl g1 g2
theorem bX6_onHandOn_54 {x1 : Int32} {x2 : Int32} {x3 : Int32} {x4 : Int32} {v : mmM} {c : Nat} {K : mmO → mmM → Prop} (h1 : mm_in x4 150 = true) (h2 : mm_in (v 208 x4.toNatClampNeg) 24 = true) (g1 : (v 90 (v 208 x4.toNatClampNeg).toNatClampNeg) = x1 → mm_E kX6_onHandOn 70 [.ref 81, .int x1, .int x2, .int x3, .int x4] [] v c K) (g2 : ¬ (v 90 (v 208 x4.toNatClampNeg).toNatClampNeg) = x1 → mm_E kX6_onHandOn 129 [.ref 81, .int x1, .int x2, .int x3, .int x4] [] v c K) : mm_E kX6_onHandOn 54 [.ref 81, .int x1, .int x2, .int x3, .int x4] [] v c K := by
  refine e_run 5 (pc1 := 64) (L1 := [.ref 81, .int x1, .int x2, .int x3, .int x4]) (S1 := [.int x4, .ref 208, .ref 90]) (v1 := v) rfl ?_
  refine e_iald rfl rfl (by decide) h1 ?_
  refine e_iald rfl rfl (by decide) h2 ?_
  refine e_run 1 (pc1 := 67) (L1 := [.ref 81, .int x1, .int x2, .int x3, .int x4]) (S1 := [.int x1, .int (v 90 (v 208 x4.toNatClampNeg).toNatClampNeg)]) (v1 := v) rfl ?_
  exact e_if (p := (v 90 (v 208 x4.toNatClampNeg).toNatClampNeg) = x1) rfl g1 g2
theorem bX6_onHandOn_70 {x1 : Int32} {x2 : Int32} {x3 : Int32} {x4 : Int32} {v : mmM} {c : Nat} {K : mmO → mmM → Prop} (h1 : mm_in x4 150 = true) (g1 : x2 < (v 212 x4.toNatClampNeg) → mm_E kX6_onHandOn 129 [.ref 81, .int x1, .int x2, .int x3, .int x4] [] v c K) (g2 : ¬ x2 < (v 212 x4.toNatClampNeg) → mm_E kX6_onHandOn 81 [.ref 81, .int x1, .int x2, .int x3, .int x4] [] v c K) : mm_E kX6_onHandOn 70 [.ref 81, .int x1, .int x2, .int x3, .int x4] [] v c K := by
  refine e_run 3 (pc1 := 76) (L1 := [.ref 81, .int x1, .int x2, .int x3, .int x4]) (S1 := [.int x4, .ref 212]) (v1 := v) rfl ?_
  refine e_iald rfl rfl (by decide) h1 ?_
  refine e_run 1 (pc1 := 78) (L1 := [.ref 81, .int x1, .int x2, .int x3, .int x4]) (S1 := [.int x2, .int (v 212 x4.toNatClampNeg)]) (v1 := v) rfl ?_
  exact e_if (p := x2 < (v 212 x4.toNatClampNeg)) rfl g1 g2
theorem bX6_onHandOn_81 {x1 : Int32} {x2 : Int32} {x3 : Int32} {x4 : Int32} {v : mmM} {c : Nat} {K : mmO → mmM → Prop} (h1 : mm_in x4 150 = true) (g1 : (v 210 x4.toNatClampNeg) = (-1 : Int32) → mm_E kX6_onHandOn 93 [.ref 81, .int x1, .int x2, .int x3, .int x4] [.int x3] v c K) (g2 : ¬ (v 210 x4.toNatClampNeg) = (-1 : Int32) → mm_E kX6_onHandOn 97 [.ref 81, .int x1, .int x2, .int x3, .int x4] [.int x3] v c K) : mm_E kX6_onHandOn 81 [.ref 81, .int x1, .int x2, .int x3, .int x4] [] v c K := by
  refine e_run 4 (pc1 := 88) (L1 := [.ref 81, .int x1, .int x2, .int x3, .int x4]) (S1 := [.int x4, .ref 210, .int x3]) (v1 := v) rfl ?_
  refine e_iald rfl rfl (by decide) h1 ?_
  refine e_run 1 (pc1 := 90) (L1 := [.ref 81, .int x1, .int x2, .int x3, .int x4]) (S1 := [.int (-1 : Int32), .int (v 210 x4.toNatClampNeg), .int x3]) (v1 := v) rfl ?_
  exact e_if (p := (v 210 x4.toNatClampNeg) = (-1 : Int32)) rfl g1 g2
theorem bX6_onHandOn_93 {x1 : Int32} {x2 : Int32} {x3 : Int32} {x4 : Int32} {y0 : Int32} {v : mmM} {c : Nat} {K : mmO → mmM → Prop} (g : mm_E kX6_onHandOn 104 [.ref 81, .int x1, .int x2, .int x3, .int x4] [.int (0 : Int32), .int y0] v c K) : mm_E kX6_onHandOn 93 [.ref 81, .int x1, .int x2, .int x3, .int x4] [.int y0] v c K := by
  refine e_run 2 (pc1 := 104) (L1 := [.ref 81, .int x1, .int x2, .int x3, .int x4]) (S1 := [.int (0 : Int32), .int y0]) (v1 := v) rfl ?_
  exact g
theorem bX6_onHandOn_97 {x1 : Int32} {x2 : Int32} {x3 : Int32} {x4 : Int32} {y0 : Int32} {v : mmM} {c : Nat} {K : mmO → mmM → Prop} (h1 : mm_in x4 150 = true) (g : mm_E kX6_onHandOn 104 [.ref 81, .int x1, .int x2, .int x3, .int x4] [.int (v 211 x4.toNatClampNeg), .int y0] v c K) : mm_E kX6_onHandOn 97 [.ref 81, .int x1, .int x2, .int x3, .int x4] [.int y0] v c K := by
  refine e_run 3 (pc1 := 103) (L1 := [.ref 81, .int x1, .int x2, .int x3, .int x4]) (S1 := [.int x4, .ref 211, .int y0]) (v1 := v) rfl ?_
  refine e_iald rfl rfl (by decide) h1 ?_
  exact g
theorem bX6_onHandOn_104 {x1 : Int32} {x2 : Int32} {x3 : Int32} {x4 : Int32} {y0 : Int32} {y1 : Int32} {v : mmM} {c : Nat} {K : mmO → mmM → Prop} (h1 : mm_in x4 150 = true) (g1 : (v 209 x4.toNatClampNeg) = (-1 : Int32) → mm_E kX6_onHandOn 115 [.ref 81, .int x1, .int x2, .int x3, .int x4] [.int y1, .int y0] v c K) (g2 : ¬ (v 209 x4.toNatClampNeg) = (-1 : Int32) → mm_E kX6_onHandOn 119 [.ref 81, .int x1, .int x2, .int x3, .int x4] [.int y1, .int y0] v c K) : mm_E kX6_onHandOn 104 [.ref 81, .int x1, .int x2, .int x3, .int x4] [.int y1, .int y0] v c K := by
  refine e_run 3 (pc1 := 110) (L1 := [.ref 81, .int x1, .int x2, .int x3, .int x4]) (S1 := [.int x4, .ref 209, .int y1, .int y0]) (v1 := v) rfl ?_
  refine e_iald rfl rfl (by decide) h1 ?_
  refine e_run 1 (pc1 := 112) (L1 := [.ref 81, .int x1, .int x2, .int x3, .int x4]) (S1 := [.int (-1 : Int32), .int (v 209 x4.toNatClampNeg), .int y1, .int y0]) (v1 := v) rfl ?_
  exact e_if (p := (v 209 x4.toNatClampNeg) = (-1 : Int32)) rfl g1 g2
theorem bX6_onHandOn_115 {x1 : Int32} {x2 : Int32} {x3 : Int32} {x4 : Int32} {y0 : Int32} {y1 : Int32} {v : mmM} {c : Nat} {K : mmO → mmM → Prop} (g : mm_E kX6_onHandOn 126 [.ref 81, .int x1, .int x2, .int x3, .int x4] [.int (0 : Int32), .int y1, .int y0] v c K) : mm_E kX6_onHandOn 115 [.ref 81, .int x1, .int x2, .int x3, .int x4] [.int y1, .int y0] v c K := by
  refine e_run 2 (pc1 := 126) (L1 := [.ref 81, .int x1, .int x2, .int x3, .int x4]) (S1 := [.int (0 : Int32), .int y1, .int y0]) (v1 := v) rfl ?_
  exact g
theorem bX6_onHandOn_119 {x1 : Int32} {x2 : Int32} {x3 : Int32} {x4 : Int32} {y0 : Int32} {y1 : Int32} {v : mmM} {c : Nat} {K : mmO → mmM → Prop} (h1 : mm_in x4 150 = true) (g : mm_E kX6_onHandOn 126 [.ref 81, .int x1, .int x2, .int x3, .int x4] [.int (v 211 x4.toNatClampNeg), .int y1, .int y0] v c K) : mm_E kX6_onHandOn 119 [.ref 81, .int x1, .int x2, .int x3, .int x4] [.int y1, .int y0] v c K := by
  refine e_run 3 (pc1 := 125) (L1 := [.ref 81, .int x1, .int x2, .int x3, .int x4]) (S1 := [.int x4, .ref 211, .int y1, .int y0]) (v1 := v) rfl ?_
  refine e_iald rfl rfl (by decide) h1 ?_
  exact g
theorem bX6_onHandOn_126 {x1 : Int32} {x2 : Int32} {x3 : Int32} {x4 : Int32} {y0 : Int32} {y1 : Int32} {y2 : Int32} {v : mmM} {c : Nat} {K : mmO → mmM → Prop} (g : mm_E kX6_onHandOn 129 [.ref 81, .int x1, .int x2, .int (y0 + (y1 - y2)), .int x4] [] v c K) : mm_E kX6_onHandOn 126 [.ref 81, .int x1, .int x2, .int x3, .int x4] [.int y2, .int y1, .int y0] v c K := by
  refine e_run 3 (pc1 := 129) (L1 := [.ref 81, .int x1, .int x2, .int (y0 + (y1 - y2)), .int x4]) (S1 := []) (v1 := v) rfl ?_
  exact g
theorem bX6_onHandOn_129 {x1 : Int32} {x2 : Int32} {x3 : Int32} {x4 : Int32} {v : mmM} {c : Nat} {K : mmO → mmM → Prop} (g : mm_E kX6_onHandOn 38 [.ref 81, .int x1, .int x2, .int x3, .int (x4 + (1 : Int32))] [] v c K) : mm_E kX6_onHandOn 129 [.ref 81, .int x1, .int x2, .int x3, .int x4] [] v c K := by
  refine e_run 2 (pc1 := 38) (L1 := [.ref 81, .int x1, .int x2, .int x3, .int (x4 + (1 : Int32))]) (S1 := []) (v1 := v) rfl ?_
  exact g
theorem bX6_onHandOn_135 {x1 : Int32} {x2 : Int32} {x3 : Int32} {x4 : Int32} {v : mmM} {c : Nat} {K : mmO → mmM → Prop} (g : K (.inl (some (.int x3))) v) : mm_E kX6_onHandOn 135 [.ref 81, .int x1, .int x2, .int x3, .int x4] [] v c K := by
  refine e_run 1 (pc1 := 136) (L1 := [.ref 81, .int x1, .int x2, .int x3, .int x4]) (S1 := [.int x3]) (v1 := v) rfl ?_
  exact e_iret (ty := .int) rfl rfl rfl g
theorem bX6_served_0 {l1 : Value} {l2 : Value} {l3 : Value} {v : mmM} {c : Nat} {K : mmO → mmM → Prop} (g : mm_E kX6_served 6 [.ref 81, .int (0 : Int32), .int (0 : Int32), .int (0 : Int32)] [] v c K) : mm_E kX6_served 0 [.ref 81, l1, l2, l3] [] v c K := by
  refine e_run 6 (pc1 := 6) (L1 := [.ref 81, .int (0 : Int32), .int (0 : Int32), .int (0 : Int32)]) (S1 := []) (v1 := v) rfl ?_
  exact g
theorem bX6_served_6 {x1 : Int32} {x2 : Int32} {x3 : Int32} {v : mmM} {c : Nat} {K : mmO → mmM → Prop} (g1 : (v 81 17) ≤ x3 → mm_E kX6_served 58 [.ref 81, .int x1, .int x2, .int x3] [] v c K) (g2 : ¬ (v 81 17) ≤ x3 → mm_E kX6_served 14 [.ref 81, .int x1, .int x2, .int x3] [] v c K) : mm_E kX6_served 6 [.ref 81, .int x1, .int x2, .int x3] [] v c K := by
  refine e_run 3 (pc1 := 11) (L1 := [.ref 81, .int x1, .int x2, .int x3]) (S1 := [.int (v 81 17), .int x3]) (v1 := v) rfl ?_
  exact e_if (p := (v 81 17) ≤ x3) rfl g1 g2
theorem bX6_served_14 {x1 : Int32} {x2 : Int32} {x3 : Int32} {v : mmM} {c : Nat} {K : mmO → mmM → Prop} (h1 : mm_in x3 20 = true) (g1 : (v 121 x3.toNatClampNeg) = (112 : Int32) → mm_E kX6_served 26 [.ref 81, .int x1, .int x2, .int x3] [.int x1] v c K) (g2 : ¬ (v 121 x3.toNatClampNeg) = (112 : Int32) → mm_E kX6_served 30 [.ref 81, .int x1, .int x2, .int x3] [.int x1] v c K) : mm_E kX6_served 14 [.ref 81, .int x1, .int x2, .int x3] [] v c K := by
  refine e_run 4 (pc1 := 20) (L1 := [.ref 81, .int x1, .int x2, .int x3]) (S1 := [.int x3, .ref 121, .int x1]) (v1 := v) rfl ?_
  refine e_cald rfl rfl (by decide) h1 ?_
  refine e_run 1 (pc1 := 23) (L1 := [.ref 81, .int x1, .int x2, .int x3]) (S1 := [.int (112 : Int32), .int (v 121 x3.toNatClampNeg), .int x1]) (v1 := v) rfl ?_
  exact e_if (p := (v 121 x3.toNatClampNeg) = (112 : Int32)) rfl g1 g2
theorem bX6_served_26 {x1 : Int32} {x2 : Int32} {x3 : Int32} {y0 : Int32} {v : mmM} {c : Nat} {K : mmO → mmM → Prop} (g : mm_E kX6_served 31 [.ref 81, .int x1, .int x2, .int x3] [.int (1 : Int32), .int y0] v c K) : mm_E kX6_served 26 [.ref 81, .int x1, .int x2, .int x3] [.int y0] v c K := by
  refine e_run 2 (pc1 := 31) (L1 := [.ref 81, .int x1, .int x2, .int x3]) (S1 := [.int (1 : Int32), .int y0]) (v1 := v) rfl ?_
  exact g
theorem bX6_served_30 {x1 : Int32} {x2 : Int32} {x3 : Int32} {y0 : Int32} {v : mmM} {c : Nat} {K : mmO → mmM → Prop} (g : mm_E kX6_served 31 [.ref 81, .int x1, .int x2, .int x3] [.int (0 : Int32), .int y0] v c K) : mm_E kX6_served 30 [.ref 81, .int x1, .int x2, .int x3] [.int y0] v c K := by
  refine e_run 1 (pc1 := 31) (L1 := [.ref 81, .int x1, .int x2, .int x3]) (S1 := [.int (0 : Int32), .int y0]) (v1 := v) rfl ?_
  exact g
theorem bX6_served_31 {x1 : Int32} {x2 : Int32} {x3 : Int32} {y0 : Int32} {y1 : Int32} {v : mmM} {c : Nat} {K : mmO → mmM → Prop} (h1 : mm_in x3 20 = true) (g1 : (v 121 x3.toNatClampNeg) = (111 : Int32) → mm_E kX6_served 45 [.ref 81, .int (y0 + y1), .int x2, .int x3] [.int x2] v c K) (g2 : ¬ (v 121 x3.toNatClampNeg) = (111 : Int32) → mm_E kX6_served 49 [.ref 81, .int (y0 + y1), .int x2, .int x3] [.int x2] v c K) : mm_E kX6_served 31 [.ref 81, .int x1, .int x2, .int x3] [.int y1, .int y0] v c K := by
  refine e_run 6 (pc1 := 39) (L1 := [.ref 81, .int (y0 + y1), .int x2, .int x3]) (S1 := [.int x3, .ref 121, .int x2]) (v1 := v) rfl ?_
  refine e_cald rfl rfl (by decide) h1 ?_
  refine e_run 1 (pc1 := 42) (L1 := [.ref 81, .int (y0 + y1), .int x2, .int x3]) (S1 := [.int (111 : Int32), .int (v 121 x3.toNatClampNeg), .int x2]) (v1 := v) rfl ?_
  exact e_if (p := (v 121 x3.toNatClampNeg) = (111 : Int32)) rfl g1 g2
theorem bX6_served_45 {x1 : Int32} {x2 : Int32} {x3 : Int32} {y0 : Int32} {v : mmM} {c : Nat} {K : mmO → mmM → Prop} (g : mm_E kX6_served 50 [.ref 81, .int x1, .int x2, .int x3] [.int (0 : Int32), .int y0] v c K) : mm_E kX6_served 45 [.ref 81, .int x1, .int x2, .int x3] [.int y0] v c K := by
  refine e_run 2 (pc1 := 50) (L1 := [.ref 81, .int x1, .int x2, .int x3]) (S1 := [.int (0 : Int32), .int y0]) (v1 := v) rfl ?_
  exact g
theorem bX6_served_49 {x1 : Int32} {x2 : Int32} {x3 : Int32} {y0 : Int32} {v : mmM} {c : Nat} {K : mmO → mmM → Prop} (g : mm_E kX6_served 50 [.ref 81, .int x1, .int x2, .int x3] [.int (1 : Int32), .int y0] v c K) : mm_E kX6_served 49 [.ref 81, .int x1, .int x2, .int x3] [.int y0] v c K := by
  refine e_run 1 (pc1 := 50) (L1 := [.ref 81, .int x1, .int x2, .int x3]) (S1 := [.int (1 : Int32), .int y0]) (v1 := v) rfl ?_
  exact g
theorem bX6_served_50 {x1 : Int32} {x2 : Int32} {x3 : Int32} {y0 : Int32} {y1 : Int32} {v : mmM} {c : Nat} {K : mmO → mmM → Prop} (g : mm_E kX6_served 6 [.ref 81, .int x1, .int (y0 + y1), .int (x3 + (1 : Int32))] [] v c K) : mm_E kX6_served 50 [.ref 81, .int x1, .int x2, .int x3] [.int y1, .int y0] v c K := by
  refine e_run 4 (pc1 := 6) (L1 := [.ref 81, .int x1, .int (y0 + y1), .int (x3 + (1 : Int32))]) (S1 := []) (v1 := v) rfl ?_
  exact g
theorem bX6_served_58 {x1 : Int32} {x2 : Int32} {x3 : Int32} {v : mmM} {c : Nat} {K : mmO → mmM → Prop} (g1 : x2 = 0 → mm_E kX6_served 63 [.ref 81, .int x1, .int x2, .int x3] [.ref 81] v c K) (g2 : ¬ x2 = 0 → mm_E kX6_served 67 [.ref 81, .int x1, .int x2, .int x3] [.ref 81] v c K) : mm_E kX6_served 58 [.ref 81, .int x1, .int x2, .int x3] [] v c K := by
  refine e_run 2 (pc1 := 60) (L1 := [.ref 81, .int x1, .int x2, .int x3]) (S1 := [.int x2, .ref 81]) (v1 := v) rfl ?_
  exact e_if (p := x2 = 0) rfl g1 g2
theorem bX6_served_63 {x1 : Int32} {x2 : Int32} {x3 : Int32} {v : mmM} {c : Nat} {K : mmO → mmM → Prop} (g : mm_E kX6_served 68 [.ref 81, .int x1, .int x2, .int x3] [.int (1 : Int32), .ref 81] v c K) : mm_E kX6_served 63 [.ref 81, .int x1, .int x2, .int x3] [.ref 81] v c K := by
  refine e_run 2 (pc1 := 68) (L1 := [.ref 81, .int x1, .int x2, .int x3]) (S1 := [.int (1 : Int32), .ref 81]) (v1 := v) rfl ?_
  exact g
theorem bX6_served_67 {x1 : Int32} {x2 : Int32} {x3 : Int32} {v : mmM} {c : Nat} {K : mmO → mmM → Prop} (g : mm_E kX6_served 68 [.ref 81, .int x1, .int x2, .int x3] [.int (0 : Int32), .ref 81] v c K) : mm_E kX6_served 67 [.ref 81, .int x1, .int x2, .int x3] [.ref 81] v c K := by
  refine e_run 1 (pc1 := 68) (L1 := [.ref 81, .int x1, .int x2, .int x3]) (S1 := [.int (0 : Int32), .ref 81]) (v1 := v) rfl ?_
  exact g
theorem bX6_served_68 {x1 : Int32} {x2 : Int32} {x3 : Int32} {y1 : Int32} {v : mmM} {c : Nat} {K : mmO → mmM → Prop} (g1 : x2 = 0 → mm_E kX6_served 75 [.ref 81, .int x1, .int x2, .int x3] [] (mm_up v 81 26 y1) c K) (g2 : ¬ x2 = 0 → mm_E kX6_served 79 [.ref 81, .int x1, .int x2, .int x3] [] (mm_up v 81 26 y1) c K) : mm_E kX6_served 68 [.ref 81, .int x1, .int x2, .int x3] [.int y1, .ref 81] v c K := by
  refine e_run 2 (pc1 := 72) (L1 := [.ref 81, .int x1, .int x2, .int x3]) (S1 := [.int x2]) (v1 := mm_up v 81 26 y1) rfl ?_
  exact e_if (p := x2 = 0) rfl g1 g2
theorem bX6_served_75 {x1 : Int32} {x2 : Int32} {x3 : Int32} {v : mmM} {c : Nat} {K : mmO → mmM → Prop} (g : mm_E kX6_served 84 [.ref 81, .int x1, .int x2, .int x3] [.float FP.fconst0] v c K) : mm_E kX6_served 75 [.ref 81, .int x1, .int x2, .int x3] [] v c K := by
  refine e_run 2 (pc1 := 84) (L1 := [.ref 81, .int x1, .int x2, .int x3]) (S1 := [.float FP.fconst0]) (v1 := v) rfl ?_
  exact g
-- no rule at 79 of X6_served: fdiv
-- no rule at 84 of X6_served: freturn
