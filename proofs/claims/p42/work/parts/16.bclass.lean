-- block rules, by program (wip/p42/blocks.py)
theorem bX0_appendLot_0 {x1 : Int32} {x2 : Int32} {l3 : Value} {l4 : Value} {v : mmM} {c : Nat} {K : mmO → mmM → Prop} (h1 : mm_in (v 2 0) 24 = true) (h2 : mm_in (v 2 0) 24 = true) (g : mm_E kX0_appendLot 22 [.ref 2, .int x1, .int x2, .int (v 2 0), .int (v 2 0)] [] (mm_up (mm_up v 16 (v 2 0).toNatClampNeg x1) 17 (v 2 0).toNatClampNeg x2) c K) : mm_E kX0_appendLot 0 [.ref 2, .int x1, .int x2, l3, l4] [] v c K := by
  refine e_run 7 (pc1 := 11) (L1 := [.ref 2, .int x1, .int x2, .int (v 2 0), l4]) (S1 := [.int x1, .int (v 2 0), .ref 16]) (v1 := v) rfl ?_
  refine e_iast rfl rfl (by decide) h1 ?_
  refine e_run 4 (pc1 := 18) (L1 := [.ref 2, .int x1, .int x2, .int (v 2 0), l4]) (S1 := [.int x2, .int (v 2 0), .ref 17]) (v1 := mm_up v 16 (v 2 0).toNatClampNeg x1) rfl ?_
  refine e_iast rfl rfl (by decide) h2 ?_
  refine e_run 2 (pc1 := 22) (L1 := [.ref 2, .int x1, .int x2, .int (v 2 0), .int (v 2 0)]) (S1 := []) (v1 := mm_up (mm_up v 16 (v 2 0).toNatClampNeg x1) 17 (v 2 0).toNatClampNeg x2) rfl ?_
  exact g
theorem bX0_appendLot_22 {x1 : Int32} {x2 : Int32} {x3 : Int32} {x4 : Int32} {v : mmM} {c : Nat} {K : mmO → mmM → Prop} (g1 : x4 ≤ 0 → mm_E kX0_appendLot 67 [.ref 2, .int x1, .int x2, .int x3, .int x4] [] v c K) (g2 : ¬ x4 ≤ 0 → mm_E kX0_appendLot 27 [.ref 2, .int x1, .int x2, .int x3, .int x4] [] v c K) : mm_E kX0_appendLot 22 [.ref 2, .int x1, .int x2, .int x3, .int x4] [] v c K := by
  refine e_run 1 (pc1 := 24) (L1 := [.ref 2, .int x1, .int x2, .int x3, .int x4]) (S1 := [.int x4]) (v1 := v) rfl ?_
  exact e_if (p := x4 ≤ 0) rfl g1 g2
theorem bX0_appendLot_27 {x1 : Int32} {x2 : Int32} {x3 : Int32} {x4 : Int32} {v : mmM} {c : Nat} {K : mmO → mmM → Prop} (h1 : mm_in (x4 - (1 : Int32)) 24 = true) (h2 : mm_in (v 18 (x4 - (1 : Int32)).toNatClampNeg) 24 = true) (g1 : (v 17 (v 18 (x4 - (1 : Int32)).toNatClampNeg).toNatClampNeg) ≤ x2 → mm_E kX0_appendLot 67 [.ref 2, .int x1, .int x2, .int x3, .int x4] [] v c K) (g2 : ¬ (v 17 (v 18 (x4 - (1 : Int32)).toNatClampNeg).toNatClampNeg) ≤ x2 → mm_E kX0_appendLot 45 [.ref 2, .int x1, .int x2, .int x3, .int x4] [] v c K) : mm_E kX0_appendLot 27 [.ref 2, .int x1, .int x2, .int x3, .int x4] [] v c K := by
  refine e_run 7 (pc1 := 39) (L1 := [.ref 2, .int x1, .int x2, .int x3, .int x4]) (S1 := [.int (x4 - (1 : Int32)), .ref 18, .ref 17]) (v1 := v) rfl ?_
  refine e_iald rfl rfl (by decide) h1 ?_
  refine e_iald rfl rfl (by decide) h2 ?_
  refine e_run 1 (pc1 := 42) (L1 := [.ref 2, .int x1, .int x2, .int x3, .int x4]) (S1 := [.int x2, .int (v 17 (v 18 (x4 - (1 : Int32)).toNatClampNeg).toNatClampNeg)]) (v1 := v) rfl ?_
  exact e_if (p := (v 17 (v 18 (x4 - (1 : Int32)).toNatClampNeg).toNatClampNeg) ≤ x2) rfl g1 g2
theorem bX0_appendLot_45 {x1 : Int32} {x2 : Int32} {x3 : Int32} {x4 : Int32} {v : mmM} {c : Nat} {K : mmO → mmM → Prop} (h1 : mm_in (x4 - (1 : Int32)) 24 = true) (h2 : mm_in x4 24 = true) (g : mm_E kX0_appendLot 22 [.ref 2, .int x1, .int x2, .int x3, .int (x4 + (-1 : Int32))] [] (mm_up v 18 x4.toNatClampNeg (v 18 (x4 - (1 : Int32)).toNatClampNeg)) c K) : mm_E kX0_appendLot 45 [.ref 2, .int x1, .int x2, .int x3, .int x4] [] v c K := by
  refine e_run 8 (pc1 := 59) (L1 := [.ref 2, .int x1, .int x2, .int x3, .int x4]) (S1 := [.int (x4 - (1 : Int32)), .ref 18, .int x4, .ref 18]) (v1 := v) rfl ?_
  refine e_iald rfl rfl (by decide) h1 ?_
  refine e_iast rfl rfl (by decide) h2 ?_
  refine e_run 2 (pc1 := 22) (L1 := [.ref 2, .int x1, .int x2, .int x3, .int (x4 + (-1 : Int32))]) (S1 := []) (v1 := mm_up v 18 x4.toNatClampNeg (v 18 (x4 - (1 : Int32)).toNatClampNeg)) rfl ?_
  exact g
theorem bX0_appendLot_67 {x1 : Int32} {x2 : Int32} {x3 : Int32} {x4 : Int32} {v : mmM} {c : Nat} {K : mmO → mmM → Prop} (h1 : mm_in x4 24 = true) (g : K (.inl (some (.int x3))) (mm_up (mm_up v 18 x4.toNatClampNeg x3) 2 0 ((v 2 0) + (1 : Int32)))) : mm_E kX0_appendLot 67 [.ref 2, .int x1, .int x2, .int x3, .int x4] [] v c K := by
  refine e_run 4 (pc1 := 74) (L1 := [.ref 2, .int x1, .int x2, .int x3, .int x4]) (S1 := [.int x3, .int x4, .ref 18]) (v1 := v) rfl ?_
  refine e_iast rfl rfl (by decide) h1 ?_
  refine e_run 7 (pc1 := 86) (L1 := [.ref 2, .int x1, .int x2, .int x3, .int x4]) (S1 := [.int x3]) (v1 := mm_up (mm_up v 18 x4.toNatClampNeg x3) 2 0 ((v 2 0) + (1 : Int32))) rfl ?_
  exact e_iret (ty := .int) rfl rfl rfl g
theorem bX0_change_0 {x1 : Int32} {x2 : Int32} {x3 : Int32} {v : mmM} {c : Nat} {K : mmO → mmM → Prop} (h1 : mm_in x1 24 = true) (h2 : mm_in x2 40 = true) (h3 : mm_in x2 40 = true) (h4 : mm_in x1 24 = true) (h5 : mm_in x1 24 = true) (h6 : mm_in x2 40 = true) (h7 : mm_in x2 40 = true) (g : K (.inl none) (mm_up (mm_up (mm_up v (20 + x1.toNatClampNeg) x2.toNatClampNeg ((v (20 + x1.toNatClampNeg) x2.toNatClampNeg) + x3)) 44 x1.toNatClampNeg (((mm_up v (20 + x1.toNatClampNeg) x2.toNatClampNeg ((v (20 + x1.toNatClampNeg) x2.toNatClampNeg) + x3)) 44 x1.toNatClampNeg) + x3)) 45 x2.toNatClampNeg (((mm_up v (20 + x1.toNatClampNeg) x2.toNatClampNeg ((v (20 + x1.toNatClampNeg) x2.toNatClampNeg) + x3)) 45 x2.toNatClampNeg) + x3))) : mm_E kX0_change 0 [.ref 2, .int x1, .int x2, .int x3] [] v c K := by
  refine e_run 3 (pc1 := 5) (L1 := [.ref 2, .int x1, .int x2, .int x3]) (S1 := [.int x1, .ref 19]) (v1 := v) rfl ?_
  refine e_aald rfl rfl (by decide) h1 ?_
  refine e_run 2 (pc1 := 8) (L1 := [.ref 2, .int x1, .int x2, .int x3]) (S1 := [.int x2, .ref (20 + x1.toNatClampNeg), .int x2, .ref (20 + x1.toNatClampNeg)]) (v1 := v) rfl ?_
  refine e_iald rfl (mm_rows (P := fun x => mm_sh (20 + x) = (0, 40, 0, [])) (by decide +kernel) (mm_in_lt h1)) (by have := (mm_in_lt h1); show _ < 81; omega) h2 ?_
  refine e_run 2 (pc1 := 11) (L1 := [.ref 2, .int x1, .int x2, .int x3]) (S1 := [.int ((v (20 + x1.toNatClampNeg) x2.toNatClampNeg) + x3), .int x2, .ref (20 + x1.toNatClampNeg)]) (v1 := v) rfl ?_
  refine e_iast rfl (mm_rows (P := fun x => mm_sh (20 + x) = (0, 40, 0, [])) (by decide +kernel) (mm_in_lt h1)) (by have := (mm_in_lt h1); show _ < 81; omega) h3 ?_
  refine e_run 4 (pc1 := 18) (L1 := [.ref 2, .int x1, .int x2, .int x3]) (S1 := [.int x1, .ref 44, .int x1, .ref 44]) (v1 := mm_up v (20 + x1.toNatClampNeg) x2.toNatClampNeg ((v (20 + x1.toNatClampNeg) x2.toNatClampNeg) + x3)) rfl ?_
  refine e_iald rfl rfl (by decide) h4 ?_
  refine e_run 2 (pc1 := 21) (L1 := [.ref 2, .int x1, .int x2, .int x3]) (S1 := [.int (((mm_up v (20 + x1.toNatClampNeg) x2.toNatClampNeg ((v (20 + x1.toNatClampNeg) x2.toNatClampNeg) + x3)) 44 x1.toNatClampNeg) + x3), .int x1, .ref 44]) (v1 := mm_up v (20 + x1.toNatClampNeg) x2.toNatClampNeg ((v (20 + x1.toNatClampNeg) x2.toNatClampNeg) + x3)) rfl ?_
  refine e_iast rfl rfl (by decide) h5 ?_
  refine e_run 4 (pc1 := 28) (L1 := [.ref 2, .int x1, .int x2, .int x3]) (S1 := [.int x2, .ref 45, .int x2, .ref 45]) (v1 := mm_up (mm_up v (20 + x1.toNatClampNeg) x2.toNatClampNeg ((v (20 + x1.toNatClampNeg) x2.toNatClampNeg) + x3)) 44 x1.toNatClampNeg (((mm_up v (20 + x1.toNatClampNeg) x2.toNatClampNeg ((v (20 + x1.toNatClampNeg) x2.toNatClampNeg) + x3)) 44 x1.toNatClampNeg) + x3)) rfl ?_
  refine e_iald rfl rfl (by decide) h6 ?_
  refine e_run 2 (pc1 := 31) (L1 := [.ref 2, .int x1, .int x2, .int x3]) (S1 := [.int (((mm_up v (20 + x1.toNatClampNeg) x2.toNatClampNeg ((v (20 + x1.toNatClampNeg) x2.toNatClampNeg) + x3)) 45 x2.toNatClampNeg) + x3), .int x2, .ref 45]) (v1 := mm_up (mm_up v (20 + x1.toNatClampNeg) x2.toNatClampNeg ((v (20 + x1.toNatClampNeg) x2.toNatClampNeg) + x3)) 44 x1.toNatClampNeg (((mm_up v (20 + x1.toNatClampNeg) x2.toNatClampNeg ((v (20 + x1.toNatClampNeg) x2.toNatClampNeg) + x3)) 44 x1.toNatClampNeg) + x3)) rfl ?_
  refine e_iast rfl rfl (by decide) h7 ?_
  exact e_rt rfl g
theorem bX0_lasts_0 {x1 : Int32} {x2 : Int32} {x3 : Int32} {v : mmM} {c : Nat} {K : mmO → mmM → Prop} (h1 : mm_in x1 24 = true) (g1 : (v 16 x1.toNatClampNeg) = x2 → mm_E kX0_lasts 10 [.ref 2, .int x1, .int x2, .int x3] [] v c K) (g2 : ¬ (v 16 x1.toNatClampNeg) = x2 → mm_E kX0_lasts 24 [.ref 2, .int x1, .int x2, .int x3] [] v c K) : mm_E kX0_lasts 0 [.ref 2, .int x1, .int x2, .int x3] [] v c K := by
  refine e_run 3 (pc1 := 5) (L1 := [.ref 2, .int x1, .int x2, .int x3]) (S1 := [.int x1, .ref 16]) (v1 := v) rfl ?_
  refine e_iald rfl rfl (by decide) h1 ?_
  refine e_run 1 (pc1 := 7) (L1 := [.ref 2, .int x1, .int x2, .int x3]) (S1 := [.int x2, .int (v 16 x1.toNatClampNeg)]) (v1 := v) rfl ?_
  exact e_if (p := (v 16 x1.toNatClampNeg) = x2) rfl g1 g2
theorem bX0_lasts_10 {x1 : Int32} {x2 : Int32} {x3 : Int32} {v : mmM} {c : Nat} {K : mmO → mmM → Prop} (h1 : mm_in x1 24 = true) (g1 : (v 17 x1.toNatClampNeg) < x3 → mm_E kX0_lasts 24 [.ref 2, .int x1, .int x2, .int x3] [] v c K) (g2 : ¬ (v 17 x1.toNatClampNeg) < x3 → mm_E kX0_lasts 20 [.ref 2, .int x1, .int x2, .int x3] [] v c K) : mm_E kX0_lasts 10 [.ref 2, .int x1, .int x2, .int x3] [] v c K := by
  refine e_run 3 (pc1 := 15) (L1 := [.ref 2, .int x1, .int x2, .int x3]) (S1 := [.int x1, .ref 17]) (v1 := v) rfl ?_
  refine e_iald rfl rfl (by decide) h1 ?_
  refine e_run 1 (pc1 := 17) (L1 := [.ref 2, .int x1, .int x2, .int x3]) (S1 := [.int x3, .int (v 17 x1.toNatClampNeg)]) (v1 := v) rfl ?_
  exact e_if (p := (v 17 x1.toNatClampNeg) < x3) rfl g1 g2
theorem bX0_lasts_20 {x1 : Int32} {x2 : Int32} {x3 : Int32} {v : mmM} {c : Nat} {K : mmO → mmM → Prop} (g : mm_E kX0_lasts 25 [.ref 2, .int x1, .int x2, .int x3] [.int (1 : Int32)] v c K) : mm_E kX0_lasts 20 [.ref 2, .int x1, .int x2, .int x3] [] v c K := by
  refine e_run 2 (pc1 := 25) (L1 := [.ref 2, .int x1, .int x2, .int x3]) (S1 := [.int (1 : Int32)]) (v1 := v) rfl ?_
  exact g
theorem bX0_lasts_24 {x1 : Int32} {x2 : Int32} {x3 : Int32} {v : mmM} {c : Nat} {K : mmO → mmM → Prop} (g : mm_E kX0_lasts 25 [.ref 2, .int x1, .int x2, .int x3] [.int (0 : Int32)] v c K) : mm_E kX0_lasts 24 [.ref 2, .int x1, .int x2, .int x3] [] v c K := by
  refine e_run 1 (pc1 := 25) (L1 := [.ref 2, .int x1, .int x2, .int x3]) (S1 := [.int (0 : Int32)]) (v1 := v) rfl ?_
  exact g
theorem bX0_lasts_25 {x1 : Int32} {x2 : Int32} {x3 : Int32} {y0 : Int32} {v : mmM} {c : Nat} {K : mmO → mmM → Prop} (h1 : narrow .boolean (.int y0) = .int y0) (g : K (.inl (some (.int y0))) v) : mm_E kX0_lasts 25 [.ref 2, .int x1, .int x2, .int x3] [.int y0] v c K := by
  exact e_iret (ty := .boolean) rfl rfl h1 g
theorem bX0_unitsFrom_0 {x1 : Int32} {x2 : Int32} {l3 : Value} {l4 : Value} {v : mmM} {c : Nat} {K : mmO → mmM → Prop} (g : mm_E kX0_unitsFrom 5 [.ref 2, .int x1, .int x2, .int (0 : Int32), .int (0 : Int32)] [] v c K) : mm_E kX0_unitsFrom 0 [.ref 2, .int x1, .int x2, l3, l4] [] v c K := by
  refine e_run 4 (pc1 := 5) (L1 := [.ref 2, .int x1, .int x2, .int (0 : Int32), .int (0 : Int32)]) (S1 := []) (v1 := v) rfl ?_
  exact g
theorem bX0_unitsFrom_5 {x1 : Int32} {x2 : Int32} {x3 : Int32} {x4 : Int32} {v : mmM} {c : Nat} {K : mmO → mmM → Prop} (g1 : (v 2 0) ≤ x4 → mm_E kX0_unitsFrom 41 [.ref 2, .int x1, .int x2, .int x3, .int x4] [] v c K) (g2 : ¬ (v 2 0) ≤ x4 → mm_E kX0_unitsFrom 14 [.ref 2, .int x1, .int x2, .int x3, .int x4] [] v c K) : mm_E kX0_unitsFrom 5 [.ref 2, .int x1, .int x2, .int x3, .int x4] [] v c K := by
  refine e_run 3 (pc1 := 11) (L1 := [.ref 2, .int x1, .int x2, .int x3, .int x4]) (S1 := [.int (v 2 0), .int x4]) (v1 := v) rfl ?_
  exact e_if (p := (v 2 0) ≤ x4) rfl g1 g2
theorem bX0_unitsFrom_14 {x1 : Int32} {x2 : Int32} {x3 : Int32} {x4 : Int32} {v : mmM} {c : Nat} {K : mmO → mmM → Prop} (hc : c + mm_mc kX0_lasts ≤ mm_mc kX0_unitsFrom) (g : mm_M kX0_lasts [.ref 2, .int x4, .int x1, .int x2] v (mm_Kc kX0_unitsFrom 22 [.ref 2, .int x1, .int x2, .int x3, .int x4] [] (c + mm_mc kX0_lasts) K)) : mm_E kX0_unitsFrom 14 [.ref 2, .int x1, .int x2, .int x3, .int x4] [] v c K := by
  refine e_run 4 (pc1 := 19) (L1 := [.ref 2, .int x1, .int x2, .int x3, .int x4]) (S1 := [.int x2, .int x1, .int x4, .ref 2]) (v1 := v) rfl ?_
  exact e_cl (j := kX0_lasts) rfl hc g
theorem bX0_unitsFrom_22 {x1 : Int32} {x2 : Int32} {x3 : Int32} {x4 : Int32} {y0 : Int32} {v : mmM} {c : Nat} {K : mmO → mmM → Prop} (g1 : y0 = 0 → mm_E kX0_unitsFrom 35 [.ref 2, .int x1, .int x2, .int x3, .int x4] [] v c K) (g2 : ¬ y0 = 0 → mm_E kX0_unitsFrom 25 [.ref 2, .int x1, .int x2, .int x3, .int x4] [] v c K) : mm_E kX0_unitsFrom 22 [.ref 2, .int x1, .int x2, .int x3, .int x4] [.int y0] v c K := by
  exact e_if (p := y0 = 0) rfl g1 g2
theorem bX0_unitsFrom_25 {x1 : Int32} {x2 : Int32} {x3 : Int32} {x4 : Int32} {v : mmM} {c : Nat} {K : mmO → mmM → Prop} (h1 : mm_in x4 24 = true) (g : mm_E kX0_unitsFrom 35 [.ref 2, .int x1, .int x2, .int (x3 + (v 44 x4.toNatClampNeg)), .int x4] [] v c K) : mm_E kX0_unitsFrom 25 [.ref 2, .int x1, .int x2, .int x3, .int x4] [] v c K := by
  refine e_run 4 (pc1 := 32) (L1 := [.ref 2, .int x1, .int x2, .int x3, .int x4]) (S1 := [.int x4, .ref 44, .int x3]) (v1 := v) rfl ?_
  refine e_iald rfl rfl (by decide) h1 ?_
  refine e_run 2 (pc1 := 35) (L1 := [.ref 2, .int x1, .int x2, .int (x3 + (v 44 x4.toNatClampNeg)), .int x4]) (S1 := []) (v1 := v) rfl ?_
  exact g
theorem bX0_unitsFrom_35 {x1 : Int32} {x2 : Int32} {x3 : Int32} {x4 : Int32} {v : mmM} {c : Nat} {K : mmO → mmM → Prop} (g : mm_E kX0_unitsFrom 5 [.ref 2, .int x1, .int x2, .int x3, .int (x4 + (1 : Int32))] [] v c K) : mm_E kX0_unitsFrom 35 [.ref 2, .int x1, .int x2, .int x3, .int x4] [] v c K := by
  refine e_run 2 (pc1 := 5) (L1 := [.ref 2, .int x1, .int x2, .int x3, .int (x4 + (1 : Int32))]) (S1 := []) (v1 := v) rfl ?_
  exact g
theorem bX0_unitsFrom_41 {x1 : Int32} {x2 : Int32} {x3 : Int32} {x4 : Int32} {v : mmM} {c : Nat} {K : mmO → mmM → Prop} (g : K (.inl (some (.int x3))) v) : mm_E kX0_unitsFrom 41 [.ref 2, .int x1, .int x2, .int x3, .int x4] [] v c K := by
  refine e_run 1 (pc1 := 42) (L1 := [.ref 2, .int x1, .int x2, .int x3, .int x4]) (S1 := [.int x3]) (v1 := v) rfl ?_
  exact e_iret (ty := .int) rfl rfl rfl g
theorem bX0_unitsBefore_0 {x1 : Int32} {x2 : Int32} {l3 : Value} {l4 : Value} {v : mmM} {c : Nat} {K : mmO → mmM → Prop} (g : mm_E kX0_unitsBefore 5 [.ref 2, .int x1, .int x2, .int (0 : Int32), .int (0 : Int32)] [] v c K) : mm_E kX0_unitsBefore 0 [.ref 2, .int x1, .int x2, l3, l4] [] v c K := by
  refine e_run 4 (pc1 := 5) (L1 := [.ref 2, .int x1, .int x2, .int (0 : Int32), .int (0 : Int32)]) (S1 := []) (v1 := v) rfl ?_
  exact g
theorem bX0_unitsBefore_5 {x1 : Int32} {x2 : Int32} {x3 : Int32} {x4 : Int32} {v : mmM} {c : Nat} {K : mmO → mmM → Prop} (g1 : (v 2 0) ≤ x4 → mm_E kX0_unitsBefore 52 [.ref 2, .int x1, .int x2, .int x3, .int x4] [] v c K) (g2 : ¬ (v 2 0) ≤ x4 → mm_E kX0_unitsBefore 14 [.ref 2, .int x1, .int x2, .int x3, .int x4] [] v c K) : mm_E kX0_unitsBefore 5 [.ref 2, .int x1, .int x2, .int x3, .int x4] [] v c K := by
  refine e_run 3 (pc1 := 11) (L1 := [.ref 2, .int x1, .int x2, .int x3, .int x4]) (S1 := [.int (v 2 0), .int x4]) (v1 := v) rfl ?_
  exact e_if (p := (v 2 0) ≤ x4) rfl g1 g2
theorem bX0_unitsBefore_14 {x1 : Int32} {x2 : Int32} {x3 : Int32} {x4 : Int32} {v : mmM} {c : Nat} {K : mmO → mmM → Prop} (h1 : mm_in x4 24 = true) (g1 : (v 16 x4.toNatClampNeg) = x1 → mm_E kX0_unitsBefore 25 [.ref 2, .int x1, .int x2, .int x3, .int x4] [] v c K) (g2 : ¬ (v 16 x4.toNatClampNeg) = x1 → mm_E kX0_unitsBefore 46 [.ref 2, .int x1, .int x2, .int x3, .int x4] [] v c K) : mm_E kX0_unitsBefore 14 [.ref 2, .int x1, .int x2, .int x3, .int x4] [] v c K := by
  refine e_run 3 (pc1 := 20) (L1 := [.ref 2, .int x1, .int x2, .int x3, .int x4]) (S1 := [.int x4, .ref 16]) (v1 := v) rfl ?_
  refine e_iald rfl rfl (by decide) h1 ?_
  refine e_run 1 (pc1 := 22) (L1 := [.ref 2, .int x1, .int x2, .int x3, .int x4]) (S1 := [.int x1, .int (v 16 x4.toNatClampNeg)]) (v1 := v) rfl ?_
  exact e_if (p := (v 16 x4.toNatClampNeg) = x1) rfl g1 g2
theorem bX0_unitsBefore_25 {x1 : Int32} {x2 : Int32} {x3 : Int32} {x4 : Int32} {v : mmM} {c : Nat} {K : mmO → mmM → Prop} (h1 : mm_in x4 24 = true) (g1 : x2 ≤ (v 17 x4.toNatClampNeg) → mm_E kX0_unitsBefore 46 [.ref 2, .int x1, .int x2, .int x3, .int x4] [] v c K) (g2 : ¬ x2 ≤ (v 17 x4.toNatClampNeg) → mm_E kX0_unitsBefore 36 [.ref 2, .int x1, .int x2, .int x3, .int x4] [] v c K) : mm_E kX0_unitsBefore 25 [.ref 2, .int x1, .int x2, .int x3, .int x4] [] v c K := by
  refine e_run 3 (pc1 := 31) (L1 := [.ref 2, .int x1, .int x2, .int x3, .int x4]) (S1 := [.int x4, .ref 17]) (v1 := v) rfl ?_
  refine e_iald rfl rfl (by decide) h1 ?_
  refine e_run 1 (pc1 := 33) (L1 := [.ref 2, .int x1, .int x2, .int x3, .int x4]) (S1 := [.int x2, .int (v 17 x4.toNatClampNeg)]) (v1 := v) rfl ?_
  exact e_if (p := x2 ≤ (v 17 x4.toNatClampNeg)) rfl g1 g2
theorem bX0_unitsBefore_36 {x1 : Int32} {x2 : Int32} {x3 : Int32} {x4 : Int32} {v : mmM} {c : Nat} {K : mmO → mmM → Prop} (h1 : mm_in x4 24 = true) (g : mm_E kX0_unitsBefore 46 [.ref 2, .int x1, .int x2, .int (x3 + (v 44 x4.toNatClampNeg)), .int x4] [] v c K) : mm_E kX0_unitsBefore 36 [.ref 2, .int x1, .int x2, .int x3, .int x4] [] v c K := by
  refine e_run 4 (pc1 := 43) (L1 := [.ref 2, .int x1, .int x2, .int x3, .int x4]) (S1 := [.int x4, .ref 44, .int x3]) (v1 := v) rfl ?_
  refine e_iald rfl rfl (by decide) h1 ?_
  refine e_run 2 (pc1 := 46) (L1 := [.ref 2, .int x1, .int x2, .int (x3 + (v 44 x4.toNatClampNeg)), .int x4]) (S1 := []) (v1 := v) rfl ?_
  exact g
theorem bX0_unitsBefore_46 {x1 : Int32} {x2 : Int32} {x3 : Int32} {x4 : Int32} {v : mmM} {c : Nat} {K : mmO → mmM → Prop} (g : mm_E kX0_unitsBefore 5 [.ref 2, .int x1, .int x2, .int x3, .int (x4 + (1 : Int32))] [] v c K) : mm_E kX0_unitsBefore 46 [.ref 2, .int x1, .int x2, .int x3, .int x4] [] v c K := by
  refine e_run 2 (pc1 := 5) (L1 := [.ref 2, .int x1, .int x2, .int x3, .int (x4 + (1 : Int32))]) (S1 := []) (v1 := v) rfl ?_
  exact g
theorem bX0_unitsBefore_52 {x1 : Int32} {x2 : Int32} {x3 : Int32} {x4 : Int32} {v : mmM} {c : Nat} {K : mmO → mmM → Prop} (g : K (.inl (some (.int x3))) v) : mm_E kX0_unitsBefore 52 [.ref 2, .int x1, .int x2, .int x3, .int x4] [] v c K := by
  refine e_run 1 (pc1 := 53) (L1 := [.ref 2, .int x1, .int x2, .int x3, .int x4]) (S1 := [.int x3]) (v1 := v) rfl ?_
  exact e_iret (ty := .int) rfl rfl rfl g
theorem bX0_firstLot_0 {x1 : Int32} {x2 : Int32} {l3 : Value} {l4 : Value} {v : mmM} {c : Nat} {K : mmO → mmM → Prop} (g : mm_E kX0_firstLot 2 [.ref 2, .int x1, .int x2, .int (0 : Int32), l4] [] v c K) : mm_E kX0_firstLot 0 [.ref 2, .int x1, .int x2, l3, l4] [] v c K := by
  refine e_run 2 (pc1 := 2) (L1 := [.ref 2, .int x1, .int x2, .int (0 : Int32), l4]) (S1 := []) (v1 := v) rfl ?_
  exact g
theorem bX0_firstLot_2 {x1 : Int32} {x2 : Int32} {x3 : Int32} {l4 : Value} {v : mmM} {c : Nat} {K : mmO → mmM → Prop} (g1 : (v 2 0) ≤ x3 → mm_E kX0_firstLot 48 [.ref 2, .int x1, .int x2, .int x3, l4] [] v c K) (g2 : ¬ (v 2 0) ≤ x3 → mm_E kX0_firstLot 10 [.ref 2, .int x1, .int x2, .int x3, l4] [] v c K) : mm_E kX0_firstLot 2 [.ref 2, .int x1, .int x2, .int x3, l4] [] v c K := by
  refine e_run 3 (pc1 := 7) (L1 := [.ref 2, .int x1, .int x2, .int x3, l4]) (S1 := [.int (v 2 0), .int x3]) (v1 := v) rfl ?_
  exact e_if (p := (v 2 0) ≤ x3) rfl g1 g2
theorem bX0_firstLot_10 {x1 : Int32} {x2 : Int32} {x3 : Int32} {l4 : Value} {v : mmM} {c : Nat} {K : mmO → mmM → Prop} (h1 : mm_in x3 24 = true) (hc : c + mm_mc kX0_lasts ≤ mm_mc kX0_firstLot) (g : mm_M kX0_lasts [.ref 2, .int (v 18 x3.toNatClampNeg), .int x1, .int x2] v (mm_Kc kX0_firstLot 26 [.ref 2, .int x1, .int x2, .int x3, .int (v 18 x3.toNatClampNeg)] [] (c + mm_mc kX0_lasts) K)) : mm_E kX0_firstLot 10 [.ref 2, .int x1, .int x2, .int x3, l4] [] v c K := by
  refine e_run 3 (pc1 := 15) (L1 := [.ref 2, .int x1, .int x2, .int x3, l4]) (S1 := [.int x3, .ref 18]) (v1 := v) rfl ?_
  refine e_iald rfl rfl (by decide) h1 ?_
  refine e_run 5 (pc1 := 23) (L1 := [.ref 2, .int x1, .int x2, .int x3, .int (v 18 x3.toNatClampNeg)]) (S1 := [.int x2, .int x1, .int (v 18 x3.toNatClampNeg), .ref 2]) (v1 := v) rfl ?_
  exact e_cl (j := kX0_lasts) rfl hc g
theorem bX0_firstLot_26 {x1 : Int32} {x2 : Int32} {x3 : Int32} {x4 : Int32} {y0 : Int32} {v : mmM} {c : Nat} {K : mmO → mmM → Prop} (g1 : y0 = 0 → mm_E kX0_firstLot 42 [.ref 2, .int x1, .int x2, .int x3, .int x4] [] v c K) (g2 : ¬ y0 = 0 → mm_E kX0_firstLot 29 [.ref 2, .int x1, .int x2, .int x3, .int x4] [] v c K) : mm_E kX0_firstLot 26 [.ref 2, .int x1, .int x2, .int x3, .int x4] [.int y0] v c K := by
  exact e_if (p := y0 = 0) rfl g1 g2
theorem bX0_firstLot_29 {x1 : Int32} {x2 : Int32} {x3 : Int32} {x4 : Int32} {v : mmM} {c : Nat} {K : mmO → mmM → Prop} (h1 : mm_in x4 24 = true) (g1 : (v 44 x4.toNatClampNeg) ≤ 0 → mm_E kX0_firstLot 42 [.ref 2, .int x1, .int x2, .int x3, .int x4] [] v c K) (g2 : ¬ (v 44 x4.toNatClampNeg) ≤ 0 → mm_E kX0_firstLot 39 [.ref 2, .int x1, .int x2, .int x3, .int x4] [] v c K) : mm_E kX0_firstLot 29 [.ref 2, .int x1, .int x2, .int x3, .int x4] [] v c K := by
  refine e_run 3 (pc1 := 35) (L1 := [.ref 2, .int x1, .int x2, .int x3, .int x4]) (S1 := [.int x4, .ref 44]) (v1 := v) rfl ?_
  refine e_iald rfl rfl (by decide) h1 ?_
  exact e_if (p := (v 44 x4.toNatClampNeg) ≤ 0) rfl g1 g2
theorem bX0_firstLot_39 {x1 : Int32} {x2 : Int32} {x3 : Int32} {x4 : Int32} {v : mmM} {c : Nat} {K : mmO → mmM → Prop} (g : K (.inl (some (.int x4))) v) : mm_E kX0_firstLot 39 [.ref 2, .int x1, .int x2, .int x3, .int x4] [] v c K := by
  refine e_run 1 (pc1 := 41) (L1 := [.ref 2, .int x1, .int x2, .int x3, .int x4]) (S1 := [.int x4]) (v1 := v) rfl ?_
  exact e_iret (ty := .int) rfl rfl rfl g
theorem bX0_firstLot_42 {x1 : Int32} {x2 : Int32} {x3 : Int32} {x4 : Int32} {v : mmM} {c : Nat} {K : mmO → mmM → Prop} (g : mm_E kX0_firstLot 2 [.ref 2, .int x1, .int x2, .int (x3 + (1 : Int32)), .int x4] [] v c K) : mm_E kX0_firstLot 42 [.ref 2, .int x1, .int x2, .int x3, .int x4] [] v c K := by
  refine e_run 2 (pc1 := 2) (L1 := [.ref 2, .int x1, .int x2, .int (x3 + (1 : Int32)), .int x4]) (S1 := []) (v1 := v) rfl ?_
  exact g
theorem bX0_firstLot_48 {x1 : Int32} {x2 : Int32} {x3 : Int32} {l4 : Value} {v : mmM} {c : Nat} {K : mmO → mmM → Prop} (g : K (.inl (some (.int (-1 : Int32)))) v) : mm_E kX0_firstLot 48 [.ref 2, .int x1, .int x2, .int x3, l4] [] v c K := by
  refine e_run 1 (pc1 := 49) (L1 := [.ref 2, .int x1, .int x2, .int x3, l4]) (S1 := [.int (-1 : Int32)]) (v1 := v) rfl ?_
  exact e_iret (ty := .int) rfl rfl rfl g
theorem bX0_binsWith_0 {x1 : Int32} {l2 : Value} {l3 : Value} {v : mmM} {c : Nat} {K : mmO → mmM → Prop} (g : mm_E kX0_binsWith 4 [.ref 2, .int x1, .int (0 : Int32), .int (0 : Int32)] [] v c K) : mm_E kX0_binsWith 0 [.ref 2, .int x1, l2, l3] [] v c K := by
  refine e_run 4 (pc1 := 4) (L1 := [.ref 2, .int x1, .int (0 : Int32), .int (0 : Int32)]) (S1 := []) (v1 := v) rfl ?_
  exact g
theorem bX0_binsWith_4 {x1 : Int32} {x2 : Int32} {x3 : Int32} {v : mmM} {c : Nat} {K : mmO → mmM → Prop} (g1 : (40 : Int32) ≤ x3 → mm_E kX0_binsWith 30 [.ref 2, .int x1, .int x2, .int x3] [] v c K) (g2 : ¬ (40 : Int32) ≤ x3 → mm_E kX0_binsWith 10 [.ref 2, .int x1, .int x2, .int x3] [] v c K) : mm_E kX0_binsWith 4 [.ref 2, .int x1, .int x2, .int x3] [] v c K := by
  refine e_run 2 (pc1 := 7) (L1 := [.ref 2, .int x1, .int x2, .int x3]) (S1 := [.int (40 : Int32), .int x3]) (v1 := v) rfl ?_
  exact e_if (p := (40 : Int32) ≤ x3) rfl g1 g2
theorem bX0_binsWith_10 {x1 : Int32} {x2 : Int32} {x3 : Int32} {v : mmM} {c : Nat} {K : mmO → mmM → Prop} (h1 : mm_in x1 24 = true) (h2 : mm_in x3 40 = true) (g1 : (v (20 + x1.toNatClampNeg) x3.toNatClampNeg) ≤ 0 → mm_E kX0_binsWith 24 [.ref 2, .int x1, .int x2, .int x3] [] v c K) (g2 : ¬ (v (20 + x1.toNatClampNeg) x3.toNatClampNeg) ≤ 0 → mm_E kX0_binsWith 21 [.ref 2, .int x1, .int x2, .int x3] [] v c K) : mm_E kX0_binsWith 10 [.ref 2, .int x1, .int x2, .int x3] [] v c K := by
  refine e_run 3 (pc1 := 15) (L1 := [.ref 2, .int x1, .int x2, .int x3]) (S1 := [.int x1, .ref 19]) (v1 := v) rfl ?_
  refine e_aald rfl rfl (by decide) h1 ?_
  refine e_run 1 (pc1 := 17) (L1 := [.ref 2, .int x1, .int x2, .int x3]) (S1 := [.int x3, .ref (20 + x1.toNatClampNeg)]) (v1 := v) rfl ?_
  refine e_iald rfl (mm_rows (P := fun x => mm_sh (20 + x) = (0, 40, 0, [])) (by decide +kernel) (mm_in_lt h1)) (by have := (mm_in_lt h1); show _ < 81; omega) h2 ?_
  exact e_if (p := (v (20 + x1.toNatClampNeg) x3.toNatClampNeg) ≤ 0) rfl g1 g2
theorem bX0_binsWith_21 {x1 : Int32} {x2 : Int32} {x3 : Int32} {v : mmM} {c : Nat} {K : mmO → mmM → Prop} (g : mm_E kX0_binsWith 24 [.ref 2, .int x1, .int (x2 + (1 : Int32)), .int x3] [] v c K) : mm_E kX0_binsWith 21 [.ref 2, .int x1, .int x2, .int x3] [] v c K := by
  refine e_run 1 (pc1 := 24) (L1 := [.ref 2, .int x1, .int (x2 + (1 : Int32)), .int x3]) (S1 := []) (v1 := v) rfl ?_
  exact g
theorem bX0_binsWith_24 {x1 : Int32} {x2 : Int32} {x3 : Int32} {v : mmM} {c : Nat} {K : mmO → mmM → Prop} (g : mm_E kX0_binsWith 4 [.ref 2, .int x1, .int x2, .int (x3 + (1 : Int32))] [] v c K) : mm_E kX0_binsWith 24 [.ref 2, .int x1, .int x2, .int x3] [] v c K := by
  refine e_run 2 (pc1 := 4) (L1 := [.ref 2, .int x1, .int x2, .int (x3 + (1 : Int32))]) (S1 := []) (v1 := v) rfl ?_
  exact g
theorem bX0_binsWith_30 {x1 : Int32} {x2 : Int32} {x3 : Int32} {v : mmM} {c : Nat} {K : mmO → mmM → Prop} (g : K (.inl (some (.int x2))) v) : mm_E kX0_binsWith 30 [.ref 2, .int x1, .int x2, .int x3] [] v c K := by
  refine e_run 1 (pc1 := 31) (L1 := [.ref 2, .int x1, .int x2, .int x3]) (S1 := [.int x2]) (v1 := v) rfl ?_
  exact e_iret (ty := .int) rfl rfl rfl g
theorem bX1_append_0 {x1 : Int32} {l2 : Value} {v : mmM} {c : Nat} {K : mmO → mmM → Prop} (h1 : mm_in (v 1 0) 6 = true) (h2 : vp_nar .char x1 = x1) (g : K (.inl (some (.int (v 1 0)))) (mm_up (mm_up v 8 (v 1 0).toNatClampNeg x1) 1 0 ((v 1 0) + (1 : Int32)))) : mm_E kX1_append 0 [.ref 1, .int x1, l2] [] v c K := by
  refine e_run 7 (pc1 := 11) (L1 := [.ref 1, .int x1, .int (v 1 0)]) (S1 := [.int x1, .int (v 1 0), .ref 8]) (v1 := v) rfl ?_
  refine e_cast rfl rfl (by decide) h1 h2 ?_
  refine e_run 7 (pc1 := 23) (L1 := [.ref 1, .int x1, .int (v 1 0)]) (S1 := [.int (v 1 0)]) (v1 := mm_up (mm_up v 8 (v 1 0).toNatClampNeg x1) 1 0 ((v 1 0) + (1 : Int32))) rfl ?_
  exact e_iret (ty := .int) rfl rfl rfl g
theorem bX1_substitutesOf_0 {x1 : Int32} {l2 : Value} {l3 : Value} {v : mmM} {c : Nat} {K : mmO → mmM → Prop} (g : mm_E kX1_substitutesOf 4 [.ref 1, .int x1, .int (0 : Int32), .int (0 : Int32)] [] v c K) : mm_E kX1_substitutesOf 0 [.ref 1, .int x1, l2, l3] [] v c K := by
  refine e_run 4 (pc1 := 4) (L1 := [.ref 1, .int x1, .int (0 : Int32), .int (0 : Int32)]) (S1 := []) (v1 := v) rfl ?_
  exact g
theorem bX1_substitutesOf_4 {x1 : Int32} {x2 : Int32} {x3 : Int32} {v : mmM} {c : Nat} {K : mmO → mmM → Prop} (g1 : (v 1 0) ≤ x3 → mm_E kX1_substitutesOf 32 [.ref 1, .int x1, .int x2, .int x3] [] v c K) (g2 : ¬ (v 1 0) ≤ x3 → mm_E kX1_substitutesOf 12 [.ref 1, .int x1, .int x2, .int x3] [] v c K) : mm_E kX1_substitutesOf 4 [.ref 1, .int x1, .int x2, .int x3] [] v c K := by
  refine e_run 3 (pc1 := 9) (L1 := [.ref 1, .int x1, .int x2, .int x3]) (S1 := [.int (v 1 0), .int x3]) (v1 := v) rfl ?_
  exact e_if (p := (v 1 0) ≤ x3) rfl g1 g2
theorem bX1_substitutesOf_12 {x1 : Int32} {x2 : Int32} {x3 : Int32} {v : mmM} {c : Nat} {K : mmO → mmM → Prop} (h1 : mm_in x1 6 = true) (h2 : mm_in x3 6 = true) (g1 : (v (10 + x1.toNatClampNeg) x3.toNatClampNeg) = 0 → mm_E kX1_substitutesOf 26 [.ref 1, .int x1, .int x2, .int x3] [] v c K) (g2 : ¬ (v (10 + x1.toNatClampNeg) x3.toNatClampNeg) = 0 → mm_E kX1_substitutesOf 23 [.ref 1, .int x1, .int x2, .int x3] [] v c K) : mm_E kX1_substitutesOf 12 [.ref 1, .int x1, .int x2, .int x3] [] v c K := by
  refine e_run 3 (pc1 := 17) (L1 := [.ref 1, .int x1, .int x2, .int x3]) (S1 := [.int x1, .ref 9]) (v1 := v) rfl ?_
  refine e_aald rfl rfl (by decide) h1 ?_
  refine e_run 1 (pc1 := 19) (L1 := [.ref 1, .int x1, .int x2, .int x3]) (S1 := [.int x3, .ref (10 + x1.toNatClampNeg)]) (v1 := v) rfl ?_
  refine e_iald rfl (mm_rows (P := fun x => mm_sh (10 + x) = (0, 6, 0, [])) (by decide +kernel) (mm_in_lt h1)) (by have := (mm_in_lt h1); show _ < 81; omega) h2 ?_
  exact e_if (p := (v (10 + x1.toNatClampNeg) x3.toNatClampNeg) = 0) rfl g1 g2
theorem bX1_substitutesOf_23 {x1 : Int32} {x2 : Int32} {x3 : Int32} {v : mmM} {c : Nat} {K : mmO → mmM → Prop} (g : mm_E kX1_substitutesOf 26 [.ref 1, .int x1, .int (x2 + (1 : Int32)), .int x3] [] v c K) : mm_E kX1_substitutesOf 23 [.ref 1, .int x1, .int x2, .int x3] [] v c K := by
  refine e_run 1 (pc1 := 26) (L1 := [.ref 1, .int x1, .int (x2 + (1 : Int32)), .int x3]) (S1 := []) (v1 := v) rfl ?_
  exact g
theorem bX1_substitutesOf_26 {x1 : Int32} {x2 : Int32} {x3 : Int32} {v : mmM} {c : Nat} {K : mmO → mmM → Prop} (g : mm_E kX1_substitutesOf 4 [.ref 1, .int x1, .int x2, .int (x3 + (1 : Int32))] [] v c K) : mm_E kX1_substitutesOf 26 [.ref 1, .int x1, .int x2, .int x3] [] v c K := by
  refine e_run 2 (pc1 := 4) (L1 := [.ref 1, .int x1, .int x2, .int (x3 + (1 : Int32))]) (S1 := []) (v1 := v) rfl ?_
  exact g
theorem bX1_substitutesOf_32 {x1 : Int32} {x2 : Int32} {x3 : Int32} {v : mmM} {c : Nat} {K : mmO → mmM → Prop} (g : K (.inl (some (.int x2))) v) : mm_E kX1_substitutesOf 32 [.ref 1, .int x1, .int x2, .int x3] [] v c K := by
  refine e_run 1 (pc1 := 33) (L1 := [.ref 1, .int x1, .int x2, .int x3]) (S1 := [.int x2]) (v1 := v) rfl ?_
  exact e_iret (ty := .int) rfl rfl rfl g
theorem bX1_intervalOf_0 {x1 : Int32} {v : mmM} {c : Nat} {K : mmO → mmM → Prop} (h1 : mm_in x1 6 = true) (g1 : (v 8 x1.toNatClampNeg) = (65 : Int32) → mm_E kX1_intervalOf 11 [.ref 1, .int x1] [] v c K) (g2 : ¬ (v 8 x1.toNatClampNeg) = (65 : Int32) → mm_E kX1_intervalOf 13 [.ref 1, .int x1] [] v c K) : mm_E kX1_intervalOf 0 [.ref 1, .int x1] [] v c K := by
  refine e_run 3 (pc1 := 5) (L1 := [.ref 1, .int x1]) (S1 := [.int x1, .ref 8]) (v1 := v) rfl ?_
  refine e_cald rfl rfl (by decide) h1 ?_
  refine e_run 1 (pc1 := 8) (L1 := [.ref 1, .int x1]) (S1 := [.int (65 : Int32), .int (v 8 x1.toNatClampNeg)]) (v1 := v) rfl ?_
  exact e_if (p := (v 8 x1.toNatClampNeg) = (65 : Int32)) rfl g1 g2
theorem bX1_intervalOf_11 {x1 : Int32} {v : mmM} {c : Nat} {K : mmO → mmM → Prop} (g : K (.inl (some (.int (5 : Int32)))) v) : mm_E kX1_intervalOf 11 [.ref 1, .int x1] [] v c K := by
  refine e_run 1 (pc1 := 12) (L1 := [.ref 1, .int x1]) (S1 := [.int (5 : Int32)]) (v1 := v) rfl ?_
  exact e_iret (ty := .int) rfl rfl rfl g
theorem bX1_intervalOf_13 {x1 : Int32} {v : mmM} {c : Nat} {K : mmO → mmM → Prop} (h1 : mm_in x1 6 = true) (g1 : (v 8 x1.toNatClampNeg) = (66 : Int32) → mm_E kX1_intervalOf 24 [.ref 1, .int x1] [] v c K) (g2 : ¬ (v 8 x1.toNatClampNeg) = (66 : Int32) → mm_E kX1_intervalOf 29 [.ref 1, .int x1] [] v c K) : mm_E kX1_intervalOf 13 [.ref 1, .int x1] [] v c K := by
  refine e_run 3 (pc1 := 18) (L1 := [.ref 1, .int x1]) (S1 := [.int x1, .ref 8]) (v1 := v) rfl ?_
  refine e_cald rfl rfl (by decide) h1 ?_
  refine e_run 1 (pc1 := 21) (L1 := [.ref 1, .int x1]) (S1 := [.int (66 : Int32), .int (v 8 x1.toNatClampNeg)]) (v1 := v) rfl ?_
  exact e_if (p := (v 8 x1.toNatClampNeg) = (66 : Int32)) rfl g1 g2
theorem bX1_intervalOf_24 {x1 : Int32} {v : mmM} {c : Nat} {K : mmO → mmM → Prop} (g : mm_E kX1_intervalOf 31 [.ref 1, .int x1] [.int (10 : Int32)] v c K) : mm_E kX1_intervalOf 24 [.ref 1, .int x1] [] v c K := by
  refine e_run 2 (pc1 := 31) (L1 := [.ref 1, .int x1]) (S1 := [.int (10 : Int32)]) (v1 := v) rfl ?_
  exact g
theorem bX1_intervalOf_29 {x1 : Int32} {v : mmM} {c : Nat} {K : mmO → mmM → Prop} (g : mm_E kX1_intervalOf 31 [.ref 1, .int x1] [.int (20 : Int32)] v c K) : mm_E kX1_intervalOf 29 [.ref 1, .int x1] [] v c K := by
  refine e_run 1 (pc1 := 31) (L1 := [.ref 1, .int x1]) (S1 := [.int (20 : Int32)]) (v1 := v) rfl ?_
  exact g
theorem bX1_intervalOf_31 {x1 : Int32} {y0 : Int32} {v : mmM} {c : Nat} {K : mmO → mmM → Prop} (g : K (.inl (some (.int y0))) v) : mm_E kX1_intervalOf 31 [.ref 1, .int x1] [.int y0] v c K := by
  exact e_iret (ty := .int) rfl rfl rfl g
theorem bX2_write_0 {x1 : Int32} {x2 : Int32} {x3 : Int32} {x4 : Int32} {x5 : Int32} {x6 : Int32} {v : mmM} {c : Nat} {K : mmO → mmM → Prop} (g1 : (v 4 0) < (150 : Int32) → mm_E kX2_write 11 [.ref 4, .int x1, .int x2, .int x3, .int x4, .int x5, .int x6] [] v c K) (g2 : ¬ (v 4 0) < (150 : Int32) → mm_E kX2_write 10 [.ref 4, .int x1, .int x2, .int x3, .int x4, .int x5, .int x6] [] v c K) : mm_E kX2_write 0 [.ref 4, .int x1, .int x2, .int x3, .int x4, .int x5, .int x6] [] v c K := by
  refine e_run 3 (pc1 := 7) (L1 := [.ref 4, .int x1, .int x2, .int x3, .int x4, .int x5, .int x6]) (S1 := [.int (150 : Int32), .int (v 4 0)]) (v1 := v) rfl ?_
  exact e_if (p := (v 4 0) < (150 : Int32)) rfl g1 g2
theorem bX2_write_10 {x1 : Int32} {x2 : Int32} {x3 : Int32} {x4 : Int32} {x5 : Int32} {x6 : Int32} {v : mmM} {c : Nat} {K : mmO → mmM → Prop} (g : K (.inl none) v) : mm_E kX2_write 10 [.ref 4, .int x1, .int x2, .int x3, .int x4, .int x5, .int x6] [] v c K := by
  exact e_rt rfl g
theorem bX2_write_11 {x1 : Int32} {x2 : Int32} {x3 : Int32} {x4 : Int32} {x5 : Int32} {x6 : Int32} {v : mmM} {c : Nat} {K : mmO → mmM → Prop} (h1 : mm_in (v 4 0) 150 = true) (h2 : vp_nar .char x1 = x1) (h3 : mm_in (v 4 0) 150 = true) (h4 : mm_in (v 4 0) 150 = true) (h5 : mm_in (v 4 0) 150 = true) (h6 : mm_in (v 4 0) 150 = true) (h7 : mm_in (v 4 0) 150 = true) (g : K (.inl none) (mm_up (mm_up (mm_up (mm_up (mm_up (mm_up (mm_up v 72 (v 4 0).toNatClampNeg x1) 73 (v 4 0).toNatClampNeg x2) 74 (v 4 0).toNatClampNeg x3) 75 (v 4 0).toNatClampNeg x4) 76 (v 4 0).toNatClampNeg x5) 77 (v 4 0).toNatClampNeg x6) 4 0 ((v 4 0) + (1 : Int32)))) : mm_E kX2_write 11 [.ref 4, .int x1, .int x2, .int x3, .int x4, .int x5, .int x6] [] v c K := by
  refine e_run 5 (pc1 := 20) (L1 := [.ref 4, .int x1, .int x2, .int x3, .int x4, .int x5, .int x6]) (S1 := [.int x1, .int (v 4 0), .ref 72]) (v1 := v) rfl ?_
  refine e_cast rfl rfl (by decide) h1 h2 ?_
  refine e_run 5 (pc1 := 30) (L1 := [.ref 4, .int x1, .int x2, .int x3, .int x4, .int x5, .int x6]) (S1 := [.int x2, .int (v 4 0), .ref 73]) (v1 := mm_up v 72 (v 4 0).toNatClampNeg x1) rfl ?_
  refine e_iast rfl rfl (by decide) h3 ?_
  refine e_run 5 (pc1 := 40) (L1 := [.ref 4, .int x1, .int x2, .int x3, .int x4, .int x5, .int x6]) (S1 := [.int x3, .int (v 4 0), .ref 74]) (v1 := mm_up (mm_up v 72 (v 4 0).toNatClampNeg x1) 73 (v 4 0).toNatClampNeg x2) rfl ?_
  refine e_iast rfl rfl (by decide) h4 ?_
  refine e_run 5 (pc1 := 51) (L1 := [.ref 4, .int x1, .int x2, .int x3, .int x4, .int x5, .int x6]) (S1 := [.int x4, .int (v 4 0), .ref 75]) (v1 := mm_up (mm_up (mm_up v 72 (v 4 0).toNatClampNeg x1) 73 (v 4 0).toNatClampNeg x2) 74 (v 4 0).toNatClampNeg x3) rfl ?_
  refine e_iast rfl rfl (by decide) h5 ?_
  refine e_run 5 (pc1 := 62) (L1 := [.ref 4, .int x1, .int x2, .int x3, .int x4, .int x5, .int x6]) (S1 := [.int x5, .int (v 4 0), .ref 76]) (v1 := mm_up (mm_up (mm_up (mm_up v 72 (v 4 0).toNatClampNeg x1) 73 (v 4 0).toNatClampNeg x2) 74 (v 4 0).toNatClampNeg x3) 75 (v 4 0).toNatClampNeg x4) rfl ?_
  refine e_iast rfl rfl (by decide) h6 ?_
  refine e_run 5 (pc1 := 73) (L1 := [.ref 4, .int x1, .int x2, .int x3, .int x4, .int x5, .int x6]) (S1 := [.int x6, .int (v 4 0), .ref 77]) (v1 := mm_up (mm_up (mm_up (mm_up (mm_up v 72 (v 4 0).toNatClampNeg x1) 73 (v 4 0).toNatClampNeg x2) 74 (v 4 0).toNatClampNeg x3) 75 (v 4 0).toNatClampNeg x4) 76 (v 4 0).toNatClampNeg x5) rfl ?_
  refine e_iast rfl rfl (by decide) h7 ?_
  refine e_run 6 (pc1 := 84) (L1 := [.ref 4, .int x1, .int x2, .int x3, .int x4, .int x5, .int x6]) (S1 := []) (v1 := mm_up (mm_up (mm_up (mm_up (mm_up (mm_up (mm_up v 72 (v 4 0).toNatClampNeg x1) 73 (v 4 0).toNatClampNeg x2) 74 (v 4 0).toNatClampNeg x3) 75 (v 4 0).toNatClampNeg x4) 76 (v 4 0).toNatClampNeg x5) 77 (v 4 0).toNatClampNeg x6) 4 0 ((v 4 0) + (1 : Int32))) rfl ?_
  exact e_rt rfl g
theorem bX2_unitsIn_0 {x1 : Int32} {x2 : Int32} {l3 : Value} {l4 : Value} {v : mmM} {c : Nat} {K : mmO → mmM → Prop} (g : mm_E kX2_unitsIn 5 [.ref 4, .int x1, .int x2, .int (0 : Int32), .int (0 : Int32)] [] v c K) : mm_E kX2_unitsIn 0 [.ref 4, .int x1, .int x2, l3, l4] [] v c K := by
  refine e_run 4 (pc1 := 5) (L1 := [.ref 4, .int x1, .int x2, .int (0 : Int32), .int (0 : Int32)]) (S1 := []) (v1 := v) rfl ?_
  exact g
theorem bX2_unitsIn_5 {x1 : Int32} {x2 : Int32} {x3 : Int32} {x4 : Int32} {v : mmM} {c : Nat} {K : mmO → mmM → Prop} (g1 : (v 4 0) ≤ x4 → mm_E kX2_unitsIn 84 [.ref 4, .int x1, .int x2, .int x3, .int x4] [] v c K) (g2 : ¬ (v 4 0) ≤ x4 → mm_E kX2_unitsIn 14 [.ref 4, .int x1, .int x2, .int x3, .int x4] [] v c K) : mm_E kX2_unitsIn 5 [.ref 4, .int x1, .int x2, .int x3, .int x4] [] v c K := by
  refine e_run 3 (pc1 := 11) (L1 := [.ref 4, .int x1, .int x2, .int x3, .int x4]) (S1 := [.int (v 4 0), .int x4]) (v1 := v) rfl ?_
  exact e_if (p := (v 4 0) ≤ x4) rfl g1 g2
theorem bX2_unitsIn_14 {x1 : Int32} {x2 : Int32} {x3 : Int32} {x4 : Int32} {v : mmM} {c : Nat} {K : mmO → mmM → Prop} (h1 : mm_in x4 150 = true) (g1 : (v 73 x4.toNatClampNeg) = x1 → mm_E kX2_unitsIn 25 [.ref 4, .int x1, .int x2, .int x3, .int x4] [] v c K) (g2 : ¬ (v 73 x4.toNatClampNeg) = x1 → mm_E kX2_unitsIn 46 [.ref 4, .int x1, .int x2, .int x3, .int x4] [] v c K) : mm_E kX2_unitsIn 14 [.ref 4, .int x1, .int x2, .int x3, .int x4] [] v c K := by
  refine e_run 3 (pc1 := 20) (L1 := [.ref 4, .int x1, .int x2, .int x3, .int x4]) (S1 := [.int x4, .ref 73]) (v1 := v) rfl ?_
  refine e_iald rfl rfl (by decide) h1 ?_
  refine e_run 1 (pc1 := 22) (L1 := [.ref 4, .int x1, .int x2, .int x3, .int x4]) (S1 := [.int x1, .int (v 73 x4.toNatClampNeg)]) (v1 := v) rfl ?_
  exact e_if (p := (v 73 x4.toNatClampNeg) = x1) rfl g1 g2
theorem bX2_unitsIn_25 {x1 : Int32} {x2 : Int32} {x3 : Int32} {x4 : Int32} {v : mmM} {c : Nat} {K : mmO → mmM → Prop} (h1 : mm_in x4 150 = true) (g1 : (v 75 x4.toNatClampNeg) = x2 → mm_E kX2_unitsIn 36 [.ref 4, .int x1, .int x2, .int x3, .int x4] [] v c K) (g2 : ¬ (v 75 x4.toNatClampNeg) = x2 → mm_E kX2_unitsIn 46 [.ref 4, .int x1, .int x2, .int x3, .int x4] [] v c K) : mm_E kX2_unitsIn 25 [.ref 4, .int x1, .int x2, .int x3, .int x4] [] v c K := by
  refine e_run 3 (pc1 := 31) (L1 := [.ref 4, .int x1, .int x2, .int x3, .int x4]) (S1 := [.int x4, .ref 75]) (v1 := v) rfl ?_
  refine e_iald rfl rfl (by decide) h1 ?_
  refine e_run 1 (pc1 := 33) (L1 := [.ref 4, .int x1, .int x2, .int x3, .int x4]) (S1 := [.int x2, .int (v 75 x4.toNatClampNeg)]) (v1 := v) rfl ?_
  exact e_if (p := (v 75 x4.toNatClampNeg) = x2) rfl g1 g2
theorem bX2_unitsIn_36 {x1 : Int32} {x2 : Int32} {x3 : Int32} {x4 : Int32} {v : mmM} {c : Nat} {K : mmO → mmM → Prop} (h1 : mm_in x4 150 = true) (g : mm_E kX2_unitsIn 46 [.ref 4, .int x1, .int x2, .int (x3 + (v 76 x4.toNatClampNeg)), .int x4] [] v c K) : mm_E kX2_unitsIn 36 [.ref 4, .int x1, .int x2, .int x3, .int x4] [] v c K := by
  refine e_run 4 (pc1 := 43) (L1 := [.ref 4, .int x1, .int x2, .int x3, .int x4]) (S1 := [.int x4, .ref 76, .int x3]) (v1 := v) rfl ?_
  refine e_iald rfl rfl (by decide) h1 ?_
  refine e_run 2 (pc1 := 46) (L1 := [.ref 4, .int x1, .int x2, .int (x3 + (v 76 x4.toNatClampNeg)), .int x4]) (S1 := []) (v1 := v) rfl ?_
  exact g
theorem bX2_unitsIn_46 {x1 : Int32} {x2 : Int32} {x3 : Int32} {x4 : Int32} {v : mmM} {c : Nat} {K : mmO → mmM → Prop} (h1 : mm_in x4 150 = true) (g1 : (v 73 x4.toNatClampNeg) = x1 → mm_E kX2_unitsIn 57 [.ref 4, .int x1, .int x2, .int x3, .int x4] [] v c K) (g2 : ¬ (v 73 x4.toNatClampNeg) = x1 → mm_E kX2_unitsIn 78 [.ref 4, .int x1, .int x2, .int x3, .int x4] [] v c K) : mm_E kX2_unitsIn 46 [.ref 4, .int x1, .int x2, .int x3, .int x4] [] v c K := by
  refine e_run 3 (pc1 := 52) (L1 := [.ref 4, .int x1, .int x2, .int x3, .int x4]) (S1 := [.int x4, .ref 73]) (v1 := v) rfl ?_
  refine e_iald rfl rfl (by decide) h1 ?_
  refine e_run 1 (pc1 := 54) (L1 := [.ref 4, .int x1, .int x2, .int x3, .int x4]) (S1 := [.int x1, .int (v 73 x4.toNatClampNeg)]) (v1 := v) rfl ?_
  exact e_if (p := (v 73 x4.toNatClampNeg) = x1) rfl g1 g2
theorem bX2_unitsIn_57 {x1 : Int32} {x2 : Int32} {x3 : Int32} {x4 : Int32} {v : mmM} {c : Nat} {K : mmO → mmM → Prop} (h1 : mm_in x4 150 = true) (g1 : (v 74 x4.toNatClampNeg) = x2 → mm_E kX2_unitsIn 68 [.ref 4, .int x1, .int x2, .int x3, .int x4] [] v c K) (g2 : ¬ (v 74 x4.toNatClampNeg) = x2 → mm_E kX2_unitsIn 78 [.ref 4, .int x1, .int x2, .int x3, .int x4] [] v c K) : mm_E kX2_unitsIn 57 [.ref 4, .int x1, .int x2, .int x3, .int x4] [] v c K := by
  refine e_run 3 (pc1 := 63) (L1 := [.ref 4, .int x1, .int x2, .int x3, .int x4]) (S1 := [.int x4, .ref 74]) (v1 := v) rfl ?_
  refine e_iald rfl rfl (by decide) h1 ?_
  refine e_run 1 (pc1 := 65) (L1 := [.ref 4, .int x1, .int x2, .int x3, .int x4]) (S1 := [.int x2, .int (v 74 x4.toNatClampNeg)]) (v1 := v) rfl ?_
  exact e_if (p := (v 74 x4.toNatClampNeg) = x2) rfl g1 g2
theorem bX2_unitsIn_68 {x1 : Int32} {x2 : Int32} {x3 : Int32} {x4 : Int32} {v : mmM} {c : Nat} {K : mmO → mmM → Prop} (h1 : mm_in x4 150 = true) (g : mm_E kX2_unitsIn 78 [.ref 4, .int x1, .int x2, .int (x3 - (v 76 x4.toNatClampNeg)), .int x4] [] v c K) : mm_E kX2_unitsIn 68 [.ref 4, .int x1, .int x2, .int x3, .int x4] [] v c K := by
  refine e_run 4 (pc1 := 75) (L1 := [.ref 4, .int x1, .int x2, .int x3, .int x4]) (S1 := [.int x4, .ref 76, .int x3]) (v1 := v) rfl ?_
  refine e_iald rfl rfl (by decide) h1 ?_
  refine e_run 2 (pc1 := 78) (L1 := [.ref 4, .int x1, .int x2, .int (x3 - (v 76 x4.toNatClampNeg)), .int x4]) (S1 := []) (v1 := v) rfl ?_
  exact g
theorem bX2_unitsIn_78 {x1 : Int32} {x2 : Int32} {x3 : Int32} {x4 : Int32} {v : mmM} {c : Nat} {K : mmO → mmM → Prop} (g : mm_E kX2_unitsIn 5 [.ref 4, .int x1, .int x2, .int x3, .int (x4 + (1 : Int32))] [] v c K) : mm_E kX2_unitsIn 78 [.ref 4, .int x1, .int x2, .int x3, .int x4] [] v c K := by
  refine e_run 2 (pc1 := 5) (L1 := [.ref 4, .int x1, .int x2, .int x3, .int (x4 + (1 : Int32))]) (S1 := []) (v1 := v) rfl ?_
  exact g
theorem bX2_unitsIn_84 {x1 : Int32} {x2 : Int32} {x3 : Int32} {x4 : Int32} {v : mmM} {c : Nat} {K : mmO → mmM → Prop} (g : K (.inl (some (.int x3))) v) : mm_E kX2_unitsIn 84 [.ref 4, .int x1, .int x2, .int x3, .int x4] [] v c K := by
  refine e_run 1 (pc1 := 85) (L1 := [.ref 4, .int x1, .int x2, .int x3, .int x4]) (S1 := [.int x3]) (v1 := v) rfl ?_
  exact e_iret (ty := .int) rfl rfl rfl g
theorem bX2_unitsAtEndOf_0 {x1 : Int32} {x2 : Int32} {l3 : Value} {l4 : Value} {v : mmM} {c : Nat} {K : mmO → mmM → Prop} (g : mm_E kX2_unitsAtEndOf 5 [.ref 4, .int x1, .int x2, .int (0 : Int32), .int (0 : Int32)] [] v c K) : mm_E kX2_unitsAtEndOf 0 [.ref 4, .int x1, .int x2, l3, l4] [] v c K := by
  refine e_run 4 (pc1 := 5) (L1 := [.ref 4, .int x1, .int x2, .int (0 : Int32), .int (0 : Int32)]) (S1 := []) (v1 := v) rfl ?_
  exact g
theorem bX2_unitsAtEndOf_5 {x1 : Int32} {x2 : Int32} {x3 : Int32} {x4 : Int32} {v : mmM} {c : Nat} {K : mmO → mmM → Prop} (g1 : (v 4 0) ≤ x4 → mm_E kX2_unitsAtEndOf 51 [.ref 4, .int x1, .int x2, .int x3, .int x4] [] v c K) (g2 : ¬ (v 4 0) ≤ x4 → mm_E kX2_unitsAtEndOf 14 [.ref 4, .int x1, .int x2, .int x3, .int x4] [] v c K) : mm_E kX2_unitsAtEndOf 5 [.ref 4, .int x1, .int x2, .int x3, .int x4] [] v c K := by
  refine e_run 3 (pc1 := 11) (L1 := [.ref 4, .int x1, .int x2, .int x3, .int x4]) (S1 := [.int (v 4 0), .int x4]) (v1 := v) rfl ?_
  exact e_if (p := (v 4 0) ≤ x4) rfl g1 g2
theorem bX2_unitsAtEndOf_14 {x1 : Int32} {x2 : Int32} {x3 : Int32} {x4 : Int32} {v : mmM} {c : Nat} {K : mmO → mmM → Prop} (h1 : mm_in x4 150 = true) (g1 : (v 73 x4.toNatClampNeg) = x1 → mm_E kX2_unitsAtEndOf 25 [.ref 4, .int x1, .int x2, .int x3, .int x4] [] v c K) (g2 : ¬ (v 73 x4.toNatClampNeg) = x1 → mm_E kX2_unitsAtEndOf 45 [.ref 4, .int x1, .int x2, .int x3, .int x4] [] v c K) : mm_E kX2_unitsAtEndOf 14 [.ref 4, .int x1, .int x2, .int x3, .int x4] [] v c K := by
  refine e_run 3 (pc1 := 20) (L1 := [.ref 4, .int x1, .int x2, .int x3, .int x4]) (S1 := [.int x4, .ref 73]) (v1 := v) rfl ?_
  refine e_iald rfl rfl (by decide) h1 ?_
  refine e_run 1 (pc1 := 22) (L1 := [.ref 4, .int x1, .int x2, .int x3, .int x4]) (S1 := [.int x1, .int (v 73 x4.toNatClampNeg)]) (v1 := v) rfl ?_
  exact e_if (p := (v 73 x4.toNatClampNeg) = x1) rfl g1 g2
theorem bX2_unitsAtEndOf_25 {x1 : Int32} {x2 : Int32} {x3 : Int32} {x4 : Int32} {v : mmM} {c : Nat} {K : mmO → mmM → Prop} (h1 : mm_in x4 150 = true) (g1 : x2 < (v 77 x4.toNatClampNeg) → mm_E kX2_unitsAtEndOf 45 [.ref 4, .int x1, .int x2, .int x3, .int x4] [] v c K) (g2 : ¬ x2 < (v 77 x4.toNatClampNeg) → mm_E kX2_unitsAtEndOf 36 [.ref 4, .int x1, .int x2, .int x3, .int x4] [] v c K) : mm_E kX2_unitsAtEndOf 25 [.ref 4, .int x1, .int x2, .int x3, .int x4] [] v c K := by
  refine e_run 3 (pc1 := 31) (L1 := [.ref 4, .int x1, .int x2, .int x3, .int x4]) (S1 := [.int x4, .ref 77]) (v1 := v) rfl ?_
  refine e_iald rfl rfl (by decide) h1 ?_
  refine e_run 1 (pc1 := 33) (L1 := [.ref 4, .int x1, .int x2, .int x3, .int x4]) (S1 := [.int x2, .int (v 77 x4.toNatClampNeg)]) (v1 := v) rfl ?_
  exact e_if (p := x2 < (v 77 x4.toNatClampNeg)) rfl g1 g2
theorem bX2_unitsAtEndOf_36 {x1 : Int32} {x2 : Int32} {x3 : Int32} {x4 : Int32} {v : mmM} {c : Nat} {K : mmO → mmM → Prop} (hc : c + mm_mc kX2_unitsGained ≤ mm_mc kX2_unitsAtEndOf) (g : mm_M kX2_unitsGained [.ref 4, .int x4] v (mm_Kc kX2_unitsAtEndOf 43 [.ref 4, .int x1, .int x2, .int x3, .int x4] [.int x3] (c + mm_mc kX2_unitsGained) K)) : mm_E kX2_unitsAtEndOf 36 [.ref 4, .int x1, .int x2, .int x3, .int x4] [] v c K := by
  refine e_run 3 (pc1 := 40) (L1 := [.ref 4, .int x1, .int x2, .int x3, .int x4]) (S1 := [.int x4, .ref 4, .int x3]) (v1 := v) rfl ?_
  exact e_cl (j := kX2_unitsGained) rfl hc g
theorem bX2_unitsAtEndOf_43 {x1 : Int32} {x2 : Int32} {x3 : Int32} {x4 : Int32} {y0 : Int32} {y1 : Int32} {v : mmM} {c : Nat} {K : mmO → mmM → Prop} (g : mm_E kX2_unitsAtEndOf 45 [.ref 4, .int x1, .int x2, .int (y0 + y1), .int x4] [] v c K) : mm_E kX2_unitsAtEndOf 43 [.ref 4, .int x1, .int x2, .int x3, .int x4] [.int y1, .int y0] v c K := by
  refine e_run 2 (pc1 := 45) (L1 := [.ref 4, .int x1, .int x2, .int (y0 + y1), .int x4]) (S1 := []) (v1 := v) rfl ?_
  exact g
theorem bX2_unitsAtEndOf_45 {x1 : Int32} {x2 : Int32} {x3 : Int32} {x4 : Int32} {v : mmM} {c : Nat} {K : mmO → mmM → Prop} (g : mm_E kX2_unitsAtEndOf 5 [.ref 4, .int x1, .int x2, .int x3, .int (x4 + (1 : Int32))] [] v c K) : mm_E kX2_unitsAtEndOf 45 [.ref 4, .int x1, .int x2, .int x3, .int x4] [] v c K := by
  refine e_run 2 (pc1 := 5) (L1 := [.ref 4, .int x1, .int x2, .int x3, .int (x4 + (1 : Int32))]) (S1 := []) (v1 := v) rfl ?_
  exact g
theorem bX2_unitsAtEndOf_51 {x1 : Int32} {x2 : Int32} {x3 : Int32} {x4 : Int32} {v : mmM} {c : Nat} {K : mmO → mmM → Prop} (g : K (.inl (some (.int x3))) v) : mm_E kX2_unitsAtEndOf 51 [.ref 4, .int x1, .int x2, .int x3, .int x4] [] v c K := by
  refine e_run 1 (pc1 := 52) (L1 := [.ref 4, .int x1, .int x2, .int x3, .int x4]) (S1 := [.int x3]) (v1 := v) rfl ?_
  exact e_iret (ty := .int) rfl rfl rfl g
theorem bX2_unitsGained_0 {x1 : Int32} {l2 : Value} {l3 : Value} {v : mmM} {c : Nat} {K : mmO → mmM → Prop} (h1 : mm_in x1 150 = true) (g1 : (v 75 x1.toNatClampNeg) = (-1 : Int32) → mm_E kX2_unitsGained 10 [.ref 4, .int x1, l2, l3] [] v c K) (g2 : ¬ (v 75 x1.toNatClampNeg) = (-1 : Int32) → mm_E kX2_unitsGained 14 [.ref 4, .int x1, l2, l3] [] v c K) : mm_E kX2_unitsGained 0 [.ref 4, .int x1, l2, l3] [] v c K := by
  refine e_run 3 (pc1 := 5) (L1 := [.ref 4, .int x1, l2, l3]) (S1 := [.int x1, .ref 75]) (v1 := v) rfl ?_
  refine e_iald rfl rfl (by decide) h1 ?_
  refine e_run 1 (pc1 := 7) (L1 := [.ref 4, .int x1, l2, l3]) (S1 := [.int (-1 : Int32), .int (v 75 x1.toNatClampNeg)]) (v1 := v) rfl ?_
  exact e_if (p := (v 75 x1.toNatClampNeg) = (-1 : Int32)) rfl g1 g2
theorem bX2_unitsGained_10 {x1 : Int32} {l2 : Value} {l3 : Value} {v : mmM} {c : Nat} {K : mmO → mmM → Prop} (g : mm_E kX2_unitsGained 20 [.ref 4, .int x1, l2, l3] [.int (0 : Int32)] v c K) : mm_E kX2_unitsGained 10 [.ref 4, .int x1, l2, l3] [] v c K := by
  refine e_run 2 (pc1 := 20) (L1 := [.ref 4, .int x1, l2, l3]) (S1 := [.int (0 : Int32)]) (v1 := v) rfl ?_
  exact g
theorem bX2_unitsGained_14 {x1 : Int32} {l2 : Value} {l3 : Value} {v : mmM} {c : Nat} {K : mmO → mmM → Prop} (h1 : mm_in x1 150 = true) (g : mm_E kX2_unitsGained 20 [.ref 4, .int x1, l2, l3] [.int (v 76 x1.toNatClampNeg)] v c K) : mm_E kX2_unitsGained 14 [.ref 4, .int x1, l2, l3] [] v c K := by
  refine e_run 3 (pc1 := 19) (L1 := [.ref 4, .int x1, l2, l3]) (S1 := [.int x1, .ref 76]) (v1 := v) rfl ?_
  refine e_iald rfl rfl (by decide) h1 ?_
  exact g
theorem bX2_unitsGained_20 {x1 : Int32} {l2 : Value} {l3 : Value} {y0 : Int32} {v : mmM} {c : Nat} {K : mmO → mmM → Prop} (h1 : mm_in x1 150 = true) (g1 : (v 74 x1.toNatClampNeg) = (-1 : Int32) → mm_E kX2_unitsGained 31 [.ref 4, .int x1, .int y0, l3] [] v c K) (g2 : ¬ (v 74 x1.toNatClampNeg) = (-1 : Int32) → mm_E kX2_unitsGained 35 [.ref 4, .int x1, .int y0, l3] [] v c K) : mm_E kX2_unitsGained 20 [.ref 4, .int x1, l2, l3] [.int y0] v c K := by
  refine e_run 4 (pc1 := 26) (L1 := [.ref 4, .int x1, .int y0, l3]) (S1 := [.int x1, .ref 74]) (v1 := v) rfl ?_
  refine e_iald rfl rfl (by decide) h1 ?_
  refine e_run 1 (pc1 := 28) (L1 := [.ref 4, .int x1, .int y0, l3]) (S1 := [.int (-1 : Int32), .int (v 74 x1.toNatClampNeg)]) (v1 := v) rfl ?_
  exact e_if (p := (v 74 x1.toNatClampNeg) = (-1 : Int32)) rfl g1 g2
theorem bX2_unitsGained_31 {x1 : Int32} {x2 : Int32} {l3 : Value} {v : mmM} {c : Nat} {K : mmO → mmM → Prop} (g : mm_E kX2_unitsGained 41 [.ref 4, .int x1, .int x2, l3] [.int (0 : Int32)] v c K) : mm_E kX2_unitsGained 31 [.ref 4, .int x1, .int x2, l3] [] v c K := by
  refine e_run 2 (pc1 := 41) (L1 := [.ref 4, .int x1, .int x2, l3]) (S1 := [.int (0 : Int32)]) (v1 := v) rfl ?_
  exact g
theorem bX2_unitsGained_35 {x1 : Int32} {x2 : Int32} {l3 : Value} {v : mmM} {c : Nat} {K : mmO → mmM → Prop} (h1 : mm_in x1 150 = true) (g : mm_E kX2_unitsGained 41 [.ref 4, .int x1, .int x2, l3] [.int (v 76 x1.toNatClampNeg)] v c K) : mm_E kX2_unitsGained 35 [.ref 4, .int x1, .int x2, l3] [] v c K := by
  refine e_run 3 (pc1 := 40) (L1 := [.ref 4, .int x1, .int x2, l3]) (S1 := [.int x1, .ref 76]) (v1 := v) rfl ?_
  refine e_iald rfl rfl (by decide) h1 ?_
  exact g
theorem bX2_unitsGained_41 {x1 : Int32} {x2 : Int32} {l3 : Value} {y0 : Int32} {v : mmM} {c : Nat} {K : mmO → mmM → Prop} (g : K (.inl (some (.int (x2 - y0)))) v) : mm_E kX2_unitsGained 41 [.ref 4, .int x1, .int x2, l3] [.int y0] v c K := by
  refine e_run 4 (pc1 := 45) (L1 := [.ref 4, .int x1, .int x2, .int y0]) (S1 := [.int (x2 - y0)]) (v1 := v) rfl ?_
  exact e_iret (ty := .int) rfl rfl rfl g
theorem bX3_insert_0 {x1 : Int32} {x2 : Int32} {x3 : Int32} {l4 : Value} {v : mmM} {c : Nat} {K : mmO → mmM → Prop} (g1 : (v 5 0) < (60 : Int32) → mm_E kX3_insert 10 [.ref 5, .int x1, .int x2, .int x3, l4] [] v c K) (g2 : ¬ (v 5 0) < (60 : Int32) → mm_E kX3_insert 9 [.ref 5, .int x1, .int x2, .int x3, l4] [] v c K) : mm_E kX3_insert 0 [.ref 5, .int x1, .int x2, .int x3, l4] [] v c K := by
  refine e_run 3 (pc1 := 6) (L1 := [.ref 5, .int x1, .int x2, .int x3, l4]) (S1 := [.int (60 : Int32), .int (v 5 0)]) (v1 := v) rfl ?_
  exact e_if (p := (v 5 0) < (60 : Int32)) rfl g1 g2
theorem bX3_insert_9 {x1 : Int32} {x2 : Int32} {x3 : Int32} {l4 : Value} {v : mmM} {c : Nat} {K : mmO → mmM → Prop} (g : K (.inl none) v) : mm_E kX3_insert 9 [.ref 5, .int x1, .int x2, .int x3, l4] [] v c K := by
  exact e_rt rfl g
theorem bX3_insert_10 {x1 : Int32} {x2 : Int32} {x3 : Int32} {l4 : Value} {v : mmM} {c : Nat} {K : mmO → mmM → Prop} (g : mm_E kX3_insert 16 [.ref 5, .int x1, .int x2, .int x3, .int (v 5 0)] [] v c K) : mm_E kX3_insert 10 [.ref 5, .int x1, .int x2, .int x3, l4] [] v c K := by
  refine e_run 3 (pc1 := 16) (L1 := [.ref 5, .int x1, .int x2, .int x3, .int (v 5 0)]) (S1 := []) (v1 := v) rfl ?_
  exact g
theorem bX3_insert_16 {x1 : Int32} {x2 : Int32} {x3 : Int32} {x4 : Int32} {v : mmM} {c : Nat} {K : mmO → mmM → Prop} (g1 : x4 ≤ 0 → mm_E kX3_insert 88 [.ref 5, .int x1, .int x2, .int x3, .int x4] [] v c K) (g2 : ¬ x4 ≤ 0 → mm_E kX3_insert 21 [.ref 5, .int x1, .int x2, .int x3, .int x4] [] v c K) : mm_E kX3_insert 16 [.ref 5, .int x1, .int x2, .int x3, .int x4] [] v c K := by
  refine e_run 1 (pc1 := 18) (L1 := [.ref 5, .int x1, .int x2, .int x3, .int x4]) (S1 := [.int x4]) (v1 := v) rfl ?_
  exact e_if (p := x4 ≤ 0) rfl g1 g2
theorem bX3_insert_21 {x1 : Int32} {x2 : Int32} {x3 : Int32} {x4 : Int32} {v : mmM} {c : Nat} {K : mmO → mmM → Prop} (hc : c + mm_mc kX3_isAfter ≤ mm_mc kX3_insert) (g : mm_M kX3_isAfter [.ref 5, .int (x4 - (1 : Int32)), .int x1, .int x2] v (mm_Kc kX3_insert 31 [.ref 5, .int x1, .int x2, .int x3, .int x4] [] (c + mm_mc kX3_isAfter) K)) : mm_E kX3_insert 21 [.ref 5, .int x1, .int x2, .int x3, .int x4] [] v c K := by
  refine e_run 6 (pc1 := 28) (L1 := [.ref 5, .int x1, .int x2, .int x3, .int x4]) (S1 := [.int x2, .int x1, .int (x4 - (1 : Int32)), .ref 5]) (v1 := v) rfl ?_
  exact e_cl (j := kX3_isAfter) rfl hc g
theorem bX3_insert_31 {x1 : Int32} {x2 : Int32} {x3 : Int32} {x4 : Int32} {y0 : Int32} {v : mmM} {c : Nat} {K : mmO → mmM → Prop} (g1 : y0 = 0 → mm_E kX3_insert 88 [.ref 5, .int x1, .int x2, .int x3, .int x4] [] v c K) (g2 : ¬ y0 = 0 → mm_E kX3_insert 34 [.ref 5, .int x1, .int x2, .int x3, .int x4] [] v c K) : mm_E kX3_insert 31 [.ref 5, .int x1, .int x2, .int x3, .int x4] [.int y0] v c K := by
  exact e_if (p := y0 = 0) rfl g1 g2
theorem bX3_insert_34 {x1 : Int32} {x2 : Int32} {x3 : Int32} {x4 : Int32} {v : mmM} {c : Nat} {K : mmO → mmM → Prop} (h1 : mm_in (x4 - (1 : Int32)) 60 = true) (h2 : mm_in x4 60 = true) (h3 : mm_in (x4 - (1 : Int32)) 60 = true) (h4 : mm_in x4 60 = true) (h5 : mm_in (x4 - (1 : Int32)) 60 = true) (h6 : mm_in x4 60 = true) (g : mm_E kX3_insert 16 [.ref 5, .int x1, .int x2, .int x3, .int (x4 + (-1 : Int32))] [] (mm_up (mm_up (mm_up v 78 x4.toNatClampNeg (v 78 (x4 - (1 : Int32)).toNatClampNeg)) 79 x4.toNatClampNeg (v 79 (x4 - (1 : Int32)).toNatClampNeg)) 80 x4.toNatClampNeg (v 80 (x4 - (1 : Int32)).toNatClampNeg)) c K) : mm_E kX3_insert 34 [.ref 5, .int x1, .int x2, .int x3, .int x4] [] v c K := by
  refine e_run 8 (pc1 := 48) (L1 := [.ref 5, .int x1, .int x2, .int x3, .int x4]) (S1 := [.int (x4 - (1 : Int32)), .ref 78, .int x4, .ref 78]) (v1 := v) rfl ?_
  refine e_iald rfl rfl (by decide) h1 ?_
  refine e_iast rfl rfl (by decide) h2 ?_
  refine e_run 8 (pc1 := 64) (L1 := [.ref 5, .int x1, .int x2, .int x3, .int x4]) (S1 := [.int (x4 - (1 : Int32)), .ref 79, .int x4, .ref 79]) (v1 := mm_up v 78 x4.toNatClampNeg (v 78 (x4 - (1 : Int32)).toNatClampNeg)) rfl ?_
  refine e_iald rfl rfl (by decide) h3 ?_
  refine e_iast rfl rfl (by decide) h4 ?_
  refine e_run 8 (pc1 := 80) (L1 := [.ref 5, .int x1, .int x2, .int x3, .int x4]) (S1 := [.int (x4 - (1 : Int32)), .ref 80, .int x4, .ref 80]) (v1 := mm_up (mm_up v 78 x4.toNatClampNeg (v 78 (x4 - (1 : Int32)).toNatClampNeg)) 79 x4.toNatClampNeg (v 79 (x4 - (1 : Int32)).toNatClampNeg)) rfl ?_
  refine e_iald rfl rfl (by decide) h5 ?_
  refine e_iast rfl rfl (by decide) h6 ?_
  refine e_run 2 (pc1 := 16) (L1 := [.ref 5, .int x1, .int x2, .int x3, .int (x4 + (-1 : Int32))]) (S1 := []) (v1 := mm_up (mm_up (mm_up v 78 x4.toNatClampNeg (v 78 (x4 - (1 : Int32)).toNatClampNeg)) 79 x4.toNatClampNeg (v 79 (x4 - (1 : Int32)).toNatClampNeg)) 80 x4.toNatClampNeg (v 80 (x4 - (1 : Int32)).toNatClampNeg)) rfl ?_
  exact g
theorem bX3_insert_88 {x1 : Int32} {x2 : Int32} {x3 : Int32} {x4 : Int32} {v : mmM} {c : Nat} {K : mmO → mmM → Prop} (h1 : mm_in x4 60 = true) (h2 : mm_in x4 60 = true) (h3 : mm_in x4 60 = true) (g : K (.inl none) (mm_up (mm_up (mm_up (mm_up v 78 x4.toNatClampNeg x1) 79 x4.toNatClampNeg x2) 80 x4.toNatClampNeg x3) 5 0 ((v 5 0) + (1 : Int32)))) : mm_E kX3_insert 88 [.ref 5, .int x1, .int x2, .int x3, .int x4] [] v c K := by
  refine e_run 4 (pc1 := 95) (L1 := [.ref 5, .int x1, .int x2, .int x3, .int x4]) (S1 := [.int x1, .int x4, .ref 78]) (v1 := v) rfl ?_
  refine e_iast rfl rfl (by decide) h1 ?_
  refine e_run 4 (pc1 := 103) (L1 := [.ref 5, .int x1, .int x2, .int x3, .int x4]) (S1 := [.int x2, .int x4, .ref 79]) (v1 := mm_up v 78 x4.toNatClampNeg x1) rfl ?_
  refine e_iast rfl rfl (by decide) h2 ?_
  refine e_run 4 (pc1 := 111) (L1 := [.ref 5, .int x1, .int x2, .int x3, .int x4]) (S1 := [.int x3, .int x4, .ref 80]) (v1 := mm_up (mm_up v 78 x4.toNatClampNeg x1) 79 x4.toNatClampNeg x2) rfl ?_
  refine e_iast rfl rfl (by decide) h3 ?_
  refine e_run 6 (pc1 := 122) (L1 := [.ref 5, .int x1, .int x2, .int x3, .int x4]) (S1 := []) (v1 := mm_up (mm_up (mm_up (mm_up v 78 x4.toNatClampNeg x1) 79 x4.toNatClampNeg x2) 80 x4.toNatClampNeg x3) 5 0 ((v 5 0) + (1 : Int32))) rfl ?_
  exact e_rt rfl g
theorem bX3_isAfter_0 {x1 : Int32} {x2 : Int32} {x3 : Int32} {v : mmM} {c : Nat} {K : mmO → mmM → Prop} (h1 : mm_in x1 60 = true) (g1 : (v 78 x1.toNatClampNeg) = x2 → mm_E kX3_isAfter 10 [.ref 5, .int x1, .int x2, .int x3] [] v c K) (g2 : ¬ (v 78 x1.toNatClampNeg) = x2 → mm_E kX3_isAfter 26 [.ref 5, .int x1, .int x2, .int x3] [] v c K) : mm_E kX3_isAfter 0 [.ref 5, .int x1, .int x2, .int x3] [] v c K := by
  refine e_run 3 (pc1 := 5) (L1 := [.ref 5, .int x1, .int x2, .int x3]) (S1 := [.int x1, .ref 78]) (v1 := v) rfl ?_
  refine e_iald rfl rfl (by decide) h1 ?_
  refine e_run 1 (pc1 := 7) (L1 := [.ref 5, .int x1, .int x2, .int x3]) (S1 := [.int x2, .int (v 78 x1.toNatClampNeg)]) (v1 := v) rfl ?_
  exact e_if (p := (v 78 x1.toNatClampNeg) = x2) rfl g1 g2
theorem bX3_isAfter_10 {x1 : Int32} {x2 : Int32} {x3 : Int32} {v : mmM} {c : Nat} {K : mmO → mmM → Prop} (h1 : mm_in x1 60 = true) (g1 : (v 79 x1.toNatClampNeg) ≤ x3 → mm_E kX3_isAfter 24 [.ref 5, .int x1, .int x2, .int x3] [] v c K) (g2 : ¬ (v 79 x1.toNatClampNeg) ≤ x3 → mm_E kX3_isAfter 20 [.ref 5, .int x1, .int x2, .int x3] [] v c K) : mm_E kX3_isAfter 10 [.ref 5, .int x1, .int x2, .int x3] [] v c K := by
  refine e_run 3 (pc1 := 15) (L1 := [.ref 5, .int x1, .int x2, .int x3]) (S1 := [.int x1, .ref 79]) (v1 := v) rfl ?_
  refine e_iald rfl rfl (by decide) h1 ?_
  refine e_run 1 (pc1 := 17) (L1 := [.ref 5, .int x1, .int x2, .int x3]) (S1 := [.int x3, .int (v 79 x1.toNatClampNeg)]) (v1 := v) rfl ?_
  exact e_if (p := (v 79 x1.toNatClampNeg) ≤ x3) rfl g1 g2
theorem bX3_isAfter_20 {x1 : Int32} {x2 : Int32} {x3 : Int32} {v : mmM} {c : Nat} {K : mmO → mmM → Prop} (g : mm_E kX3_isAfter 25 [.ref 5, .int x1, .int x2, .int x3] [.int (1 : Int32)] v c K) : mm_E kX3_isAfter 20 [.ref 5, .int x1, .int x2, .int x3] [] v c K := by
  refine e_run 2 (pc1 := 25) (L1 := [.ref 5, .int x1, .int x2, .int x3]) (S1 := [.int (1 : Int32)]) (v1 := v) rfl ?_
  exact g
theorem bX3_isAfter_24 {x1 : Int32} {x2 : Int32} {x3 : Int32} {v : mmM} {c : Nat} {K : mmO → mmM → Prop} (g : mm_E kX3_isAfter 25 [.ref 5, .int x1, .int x2, .int x3] [.int (0 : Int32)] v c K) : mm_E kX3_isAfter 24 [.ref 5, .int x1, .int x2, .int x3] [] v c K := by
  refine e_run 1 (pc1 := 25) (L1 := [.ref 5, .int x1, .int x2, .int x3]) (S1 := [.int (0 : Int32)]) (v1 := v) rfl ?_
  exact g
theorem bX3_isAfter_25 {x1 : Int32} {x2 : Int32} {x3 : Int32} {y0 : Int32} {v : mmM} {c : Nat} {K : mmO → mmM → Prop} (h1 : narrow .boolean (.int y0) = .int y0) (g : K (.inl (some (.int y0))) v) : mm_E kX3_isAfter 25 [.ref 5, .int x1, .int x2, .int x3] [.int y0] v c K := by
  exact e_iret (ty := .boolean) rfl rfl h1 g
theorem bX3_isAfter_26 {x1 : Int32} {x2 : Int32} {x3 : Int32} {v : mmM} {c : Nat} {K : mmO → mmM → Prop} (h1 : mm_in x1 60 = true) (hc : c + mm_mc kX5_alongRoute ≤ mm_mc kX3_isAfter) (g : mm_M kX5_alongRoute [.int (v 78 x1.toNatClampNeg)] v (mm_Kc kX3_isAfter 35 [.ref 5, .int x1, .int x2, .int x3] [] (c + mm_mc kX5_alongRoute) K)) : mm_E kX3_isAfter 26 [.ref 5, .int x1, .int x2, .int x3] [] v c K := by
  refine e_run 3 (pc1 := 31) (L1 := [.ref 5, .int x1, .int x2, .int x3]) (S1 := [.int x1, .ref 78]) (v1 := v) rfl ?_
  refine e_iald rfl rfl (by decide) h1 ?_
  exact e_cl (j := kX5_alongRoute) rfl hc g
theorem bX3_isAfter_35 {x1 : Int32} {x2 : Int32} {x3 : Int32} {y0 : Int32} {v : mmM} {c : Nat} {K : mmO → mmM → Prop} (hc : c + mm_mc kX5_alongRoute ≤ mm_mc kX3_isAfter) (g : mm_M kX5_alongRoute [.int x2] v (mm_Kc kX3_isAfter 39 [.ref 5, .int x1, .int x2, .int x3] [.int y0] (c + mm_mc kX5_alongRoute) K)) : mm_E kX3_isAfter 35 [.ref 5, .int x1, .int x2, .int x3] [.int y0] v c K := by
  refine e_run 1 (pc1 := 36) (L1 := [.ref 5, .int x1, .int x2, .int x3]) (S1 := [.int x2, .int y0]) (v1 := v) rfl ?_
  exact e_cl (j := kX5_alongRoute) rfl hc g
theorem bX3_isAfter_39 {x1 : Int32} {x2 : Int32} {x3 : Int32} {y0 : Int32} {y1 : Int32} {v : mmM} {c : Nat} {K : mmO → mmM → Prop} (g1 : y0 ≤ y1 → mm_E kX3_isAfter 46 [.ref 5, .int x1, .int x2, .int x3] [] v c K) (g2 : ¬ y0 ≤ y1 → mm_E kX3_isAfter 42 [.ref 5, .int x1, .int x2, .int x3] [] v c K) : mm_E kX3_isAfter 39 [.ref 5, .int x1, .int x2, .int x3] [.int y1, .int y0] v c K := by
  exact e_if (p := y0 ≤ y1) rfl g1 g2
theorem bX3_isAfter_42 {x1 : Int32} {x2 : Int32} {x3 : Int32} {v : mmM} {c : Nat} {K : mmO → mmM → Prop} (g : mm_E kX3_isAfter 47 [.ref 5, .int x1, .int x2, .int x3] [.int (1 : Int32)] v c K) : mm_E kX3_isAfter 42 [.ref 5, .int x1, .int x2, .int x3] [] v c K := by
  refine e_run 2 (pc1 := 47) (L1 := [.ref 5, .int x1, .int x2, .int x3]) (S1 := [.int (1 : Int32)]) (v1 := v) rfl ?_
  exact g
theorem bX3_isAfter_46 {x1 : Int32} {x2 : Int32} {x3 : Int32} {v : mmM} {c : Nat} {K : mmO → mmM → Prop} (g : mm_E kX3_isAfter 47 [.ref 5, .int x1, .int x2, .int x3] [.int (0 : Int32)] v c K) : mm_E kX3_isAfter 46 [.ref 5, .int x1, .int x2, .int x3] [] v c K := by
  refine e_run 1 (pc1 := 47) (L1 := [.ref 5, .int x1, .int x2, .int x3]) (S1 := [.int (0 : Int32)]) (v1 := v) rfl ?_
  exact g
theorem bX3_isAfter_47 {x1 : Int32} {x2 : Int32} {x3 : Int32} {y0 : Int32} {v : mmM} {c : Nat} {K : mmO → mmM → Prop} (h1 : narrow .boolean (.int y0) = .int y0) (g : K (.inl (some (.int y0))) v) : mm_E kX3_isAfter 47 [.ref 5, .int x1, .int x2, .int x3] [.int y0] v c K := by
  exact e_iret (ty := .boolean) rfl rfl h1 g
theorem bX3_lastAisle_0 {l1 : Value} {l2 : Value} {v : mmM} {c : Nat} {K : mmO → mmM → Prop} (g : mm_E kX3_lastAisle 4 [.ref 5, .int (0 : Int32), .int (0 : Int32)] [] v c K) : mm_E kX3_lastAisle 0 [.ref 5, l1, l2] [] v c K := by
  refine e_run 4 (pc1 := 4) (L1 := [.ref 5, .int (0 : Int32), .int (0 : Int32)]) (S1 := []) (v1 := v) rfl ?_
  exact g
theorem bX3_lastAisle_4 {x1 : Int32} {x2 : Int32} {v : mmM} {c : Nat} {K : mmO → mmM → Prop} (g1 : (v 5 0) ≤ x2 → mm_E kX3_lastAisle 32 [.ref 5, .int x1, .int x2] [] v c K) (g2 : ¬ (v 5 0) ≤ x2 → mm_E kX3_lastAisle 12 [.ref 5, .int x1, .int x2] [] v c K) : mm_E kX3_lastAisle 4 [.ref 5, .int x1, .int x2] [] v c K := by
  refine e_run 3 (pc1 := 9) (L1 := [.ref 5, .int x1, .int x2]) (S1 := [.int (v 5 0), .int x2]) (v1 := v) rfl ?_
  exact e_if (p := (v 5 0) ≤ x2) rfl g1 g2
theorem bX3_lastAisle_12 {x1 : Int32} {x2 : Int32} {v : mmM} {c : Nat} {K : mmO → mmM → Prop} (h1 : mm_in x2 60 = true) (g : mm_E kX3_lastAisle 4 [.ref 5, .int (if x1 < ((v 78 x2.toNatClampNeg) / (10 : Int32)) then ((v 78 x2.toNatClampNeg) / (10 : Int32)) else x1), .int (x2 + (1 : Int32))] [] v c K) : mm_E kX3_lastAisle 12 [.ref 5, .int x1, .int x2] [] v c K := by
  refine e_run 4 (pc1 := 18) (L1 := [.ref 5, .int x1, .int x2]) (S1 := [.int x2, .ref 78, .int x1]) (v1 := v) rfl ?_
  refine e_iald rfl rfl (by decide) h1 ?_
  refine e_run 1 (pc1 := 21) (L1 := [.ref 5, .int x1, .int x2]) (S1 := [.int (10 : Int32), .int (v 78 x2.toNatClampNeg), .int x1]) (v1 := v) rfl ?_
  refine e_idiv rfl (by decide) ?_
  refine e_run 4 (pc1 := 4) (L1 := [.ref 5, .int (if x1 < ((v 78 x2.toNatClampNeg) / (10 : Int32)) then ((v 78 x2.toNatClampNeg) / (10 : Int32)) else x1), .int (x2 + (1 : Int32))]) (S1 := []) (v1 := v) rfl ?_
  exact g
theorem bX3_lastAisle_32 {x1 : Int32} {x2 : Int32} {v : mmM} {c : Nat} {K : mmO → mmM → Prop} (g : K (.inl (some (.int x1))) v) : mm_E kX3_lastAisle 32 [.ref 5, .int x1, .int x2] [] v c K := by
  refine e_run 1 (pc1 := 33) (L1 := [.ref 5, .int x1, .int x2]) (S1 := [.int x1]) (v1 := v) rfl ?_
  exact e_iret (ty := .int) rfl rfl rfl g
theorem bX3_reach_0 {x1 : Int32} {x2 : Int32} {l3 : Value} {l4 : Value} {l5 : Value} {v : mmM} {c : Nat} {K : mmO → mmM → Prop} (g : mm_E kX3_reach 5 [.ref 5, .int x1, .int x2, .int (0 : Int32), .int (0 : Int32), l5] [] v c K) : mm_E kX3_reach 0 [.ref 5, .int x1, .int x2, l3, l4, l5] [] v c K := by
  refine e_run 4 (pc1 := 5) (L1 := [.ref 5, .int x1, .int x2, .int (0 : Int32), .int (0 : Int32), l5]) (S1 := []) (v1 := v) rfl ?_
  exact g
theorem bX3_reach_5 {x1 : Int32} {x2 : Int32} {x3 : Int32} {x4 : Int32} {l5 : Value} {v : mmM} {c : Nat} {K : mmO → mmM → Prop} (g1 : (v 5 0) ≤ x4 → mm_E kX3_reach 67 [.ref 5, .int x1, .int x2, .int x3, .int x4, l5] [] v c K) (g2 : ¬ (v 5 0) ≤ x4 → mm_E kX3_reach 14 [.ref 5, .int x1, .int x2, .int x3, .int x4, l5] [] v c K) : mm_E kX3_reach 5 [.ref 5, .int x1, .int x2, .int x3, .int x4, l5] [] v c K := by
  refine e_run 3 (pc1 := 11) (L1 := [.ref 5, .int x1, .int x2, .int x3, .int x4, l5]) (S1 := [.int (v 5 0), .int x4]) (v1 := v) rfl ?_
  exact e_if (p := (v 5 0) ≤ x4) rfl g1 g2
theorem bX3_reach_14 {x1 : Int32} {x2 : Int32} {x3 : Int32} {x4 : Int32} {l5 : Value} {v : mmM} {c : Nat} {K : mmO → mmM → Prop} (h1 : mm_in x4 60 = true) (g1 : ((v 78 x4.toNatClampNeg) / (10 : Int32)) = x1 → mm_E kX3_reach 28 [.ref 5, .int x1, .int x2, .int x3, .int x4, l5] [] v c K) (g2 : ¬ ((v 78 x4.toNatClampNeg) / (10 : Int32)) = x1 → mm_E kX3_reach 61 [.ref 5, .int x1, .int x2, .int x3, .int x4, l5] [] v c K) : mm_E kX3_reach 14 [.ref 5, .int x1, .int x2, .int x3, .int x4, l5] [] v c K := by
  refine e_run 3 (pc1 := 20) (L1 := [.ref 5, .int x1, .int x2, .int x3, .int x4, l5]) (S1 := [.int x4, .ref 78]) (v1 := v) rfl ?_
  refine e_iald rfl rfl (by decide) h1 ?_
  refine e_run 1 (pc1 := 23) (L1 := [.ref 5, .int x1, .int x2, .int x3, .int x4, l5]) (S1 := [.int (10 : Int32), .int (v 78 x4.toNatClampNeg)]) (v1 := v) rfl ?_
  refine e_idiv rfl (by decide) ?_
  refine e_run 1 (pc1 := 25) (L1 := [.ref 5, .int x1, .int x2, .int x3, .int x4, l5]) (S1 := [.int x1, .int ((v 78 x4.toNatClampNeg) / (10 : Int32))]) (v1 := v) rfl ?_
  exact e_if (p := ((v 78 x4.toNatClampNeg) / (10 : Int32)) = x1) rfl g1 g2
theorem bX3_reach_28 {x1 : Int32} {x2 : Int32} {x3 : Int32} {x4 : Int32} {l5 : Value} {v : mmM} {c : Nat} {K : mmO → mmM → Prop} (h1 : mm_in x4 60 = true) (g1 : x2 = 0 → mm_E kX3_reach 52 [.ref 5, .int x1, .int x2, .int x3, .int x4, .int (((v 78 x4.toNatClampNeg) - (v 78 x4.toNatClampNeg) / (10 : Int32) * (10 : Int32)) + (1 : Int32))] [.int x3] v c K) (g2 : ¬ x2 = 0 → mm_E kX3_reach 47 [.ref 5, .int x1, .int x2, .int x3, .int x4, .int (((v 78 x4.toNatClampNeg) - (v 78 x4.toNatClampNeg) / (10 : Int32) * (10 : Int32)) + (1 : Int32))] [.int x3] v c K) : mm_E kX3_reach 28 [.ref 5, .int x1, .int x2, .int x3, .int x4, l5] [] v c K := by
  refine e_run 3 (pc1 := 34) (L1 := [.ref 5, .int x1, .int x2, .int x3, .int x4, l5]) (S1 := [.int x4, .ref 78]) (v1 := v) rfl ?_
  refine e_iald rfl rfl (by decide) h1 ?_
  refine e_run 1 (pc1 := 37) (L1 := [.ref 5, .int x1, .int x2, .int x3, .int x4, l5]) (S1 := [.int (10 : Int32), .int (v 78 x4.toNatClampNeg)]) (v1 := v) rfl ?_
  refine e_irem rfl (by decide) ?_
  refine e_run 5 (pc1 := 44) (L1 := [.ref 5, .int x1, .int x2, .int x3, .int x4, .int (((v 78 x4.toNatClampNeg) - (v 78 x4.toNatClampNeg) / (10 : Int32) * (10 : Int32)) + (1 : Int32))]) (S1 := [.int x2, .int x3]) (v1 := v) rfl ?_
  exact e_if (p := x2 = 0) rfl g1 g2
theorem bX3_reach_47 {x1 : Int32} {x2 : Int32} {x3 : Int32} {x4 : Int32} {x5 : Int32} {y0 : Int32} {v : mmM} {c : Nat} {K : mmO → mmM → Prop} (g : mm_E kX3_reach 57 [.ref 5, .int x1, .int x2, .int x3, .int x4, .int x5] [.int x5, .int y0] v c K) : mm_E kX3_reach 47 [.ref 5, .int x1, .int x2, .int x3, .int x4, .int x5] [.int y0] v c K := by
  refine e_run 2 (pc1 := 57) (L1 := [.ref 5, .int x1, .int x2, .int x3, .int x4, .int x5]) (S1 := [.int x5, .int y0]) (v1 := v) rfl ?_
  exact g
theorem bX3_reach_52 {x1 : Int32} {x2 : Int32} {x3 : Int32} {x4 : Int32} {x5 : Int32} {y0 : Int32} {v : mmM} {c : Nat} {K : mmO → mmM → Prop} (g : mm_E kX3_reach 57 [.ref 5, .int x1, .int x2, .int x3, .int x4, .int x5] [.int ((11 : Int32) - x5), .int y0] v c K) : mm_E kX3_reach 52 [.ref 5, .int x1, .int x2, .int x3, .int x4, .int x5] [.int y0] v c K := by
  refine e_run 3 (pc1 := 57) (L1 := [.ref 5, .int x1, .int x2, .int x3, .int x4, .int x5]) (S1 := [.int ((11 : Int32) - x5), .int y0]) (v1 := v) rfl ?_
  exact g
theorem bX3_reach_57 {x1 : Int32} {x2 : Int32} {x3 : Int32} {x4 : Int32} {x5 : Int32} {y0 : Int32} {y1 : Int32} {v : mmM} {c : Nat} {K : mmO → mmM → Prop} (g : mm_E kX3_reach 61 [.ref 5, .int x1, .int x2, .int (if y0 < y1 then y1 else y0), .int x4, .int x5] [] v c K) : mm_E kX3_reach 57 [.ref 5, .int x1, .int x2, .int x3, .int x4, .int x5] [.int y1, .int y0] v c K := by
  refine e_run 2 (pc1 := 61) (L1 := [.ref 5, .int x1, .int x2, .int (if y0 < y1 then y1 else y0), .int x4, .int x5]) (S1 := []) (v1 := v) rfl ?_
  exact g
theorem bX3_reach_61 {x1 : Int32} {x2 : Int32} {x3 : Int32} {x4 : Int32} {l5 : Value} {v : mmM} {c : Nat} {K : mmO → mmM → Prop} (g : mm_E kX3_reach 5 [.ref 5, .int x1, .int x2, .int x3, .int (x4 + (1 : Int32)), l5] [] v c K) : mm_E kX3_reach 61 [.ref 5, .int x1, .int x2, .int x3, .int x4, l5] [] v c K := by
  refine e_run 2 (pc1 := 5) (L1 := [.ref 5, .int x1, .int x2, .int x3, .int (x4 + (1 : Int32)), l5]) (S1 := []) (v1 := v) rfl ?_
  exact g
theorem bX3_reach_67 {x1 : Int32} {x2 : Int32} {x3 : Int32} {x4 : Int32} {l5 : Value} {v : mmM} {c : Nat} {K : mmO → mmM → Prop} (g : K (.inl (some (.int x3))) v) : mm_E kX3_reach 67 [.ref 5, .int x1, .int x2, .int x3, .int x4, l5] [] v c K := by
  refine e_run 1 (pc1 := 68) (L1 := [.ref 5, .int x1, .int x2, .int x3, .int x4, l5]) (S1 := [.int x3]) (v1 := v) rfl ?_
  exact e_iret (ty := .int) rfl rfl rfl g
theorem bX3_shortestWalk_0 {l1 : Value} {l2 : Value} {l3 : Value} {l4 : Value} {l5 : Value} {l6 : Value} {v : mmM} {c : Nat} {K : mmO → mmM → Prop} (hc : c + mm_mc kX3_lastAisle ≤ mm_mc kX3_shortestWalk) (g : mm_M kX3_lastAisle [.ref 5] v (mm_Kc kX3_shortestWalk 4 [.ref 5, l1, l2, l3, l4, l5, l6] [] (c + mm_mc kX3_lastAisle) K)) : mm_E kX3_shortestWalk 0 [.ref 5, l1, l2, l3, l4, l5, l6] [] v c K := by
  refine e_run 1 (pc1 := 1) (L1 := [.ref 5, l1, l2, l3, l4, l5, l6]) (S1 := [.ref 5]) (v1 := v) rfl ?_
  exact e_cl (j := kX3_lastAisle) rfl hc g
theorem bX3_shortestWalk_4 {l1 : Value} {l2 : Value} {l3 : Value} {l4 : Value} {l5 : Value} {l6 : Value} {y0 : Int32} {v : mmM} {c : Nat} {K : mmO → mmM → Prop} (g : mm_E kX3_shortestWalk 13 [.ref 5, .int y0, .int (0 : Int32), .int (1000000 : Int32), .int (0 : Int32), l5, l6] [] v c K) : mm_E kX3_shortestWalk 4 [.ref 5, l1, l2, l3, l4, l5, l6] [.int y0] v c K := by
  refine e_run 7 (pc1 := 13) (L1 := [.ref 5, .int y0, .int (0 : Int32), .int (1000000 : Int32), .int (0 : Int32), l5, l6]) (S1 := []) (v1 := v) rfl ?_
  exact g
theorem bX3_shortestWalk_13 {x1 : Int32} {x2 : Int32} {x3 : Int32} {x4 : Int32} {l5 : Value} {l6 : Value} {v : mmM} {c : Nat} {K : mmO → mmM → Prop} (g1 : x1 < x4 → mm_E kX3_shortestWalk 71 [.ref 5, .int x1, .int x2, .int x3, .int x4, l5, l6] [] v c K) (g2 : ¬ x1 < x4 → mm_E kX3_shortestWalk 19 [.ref 5, .int x1, .int x2, .int x3, .int x4, l5, l6] [] v c K) : mm_E kX3_shortestWalk 13 [.ref 5, .int x1, .int x2, .int x3, .int x4, l5, l6] [] v c K := by
  refine e_run 2 (pc1 := 16) (L1 := [.ref 5, .int x1, .int x2, .int x3, .int x4, l5, l6]) (S1 := [.int x1, .int x4]) (v1 := v) rfl ?_
  exact e_if (p := x1 < x4) rfl g1 g2
theorem bX3_shortestWalk_19 {x1 : Int32} {x2 : Int32} {x3 : Int32} {x4 : Int32} {l5 : Value} {l6 : Value} {v : mmM} {c : Nat} {K : mmO → mmM → Prop} (hc : c + mm_mc kX3_reach ≤ mm_mc kX3_shortestWalk) (g : mm_M kX3_reach [.ref 5, .int x4, .int (1 : Int32)] v (mm_Kc kX3_shortestWalk 28 [.ref 5, .int x1, .int x2, .int x3, .int x4, l5, l6] [.int (2 : Int32), .int x2] (c + mm_mc kX3_reach) K)) : mm_E kX3_shortestWalk 19 [.ref 5, .int x1, .int x2, .int x3, .int x4, l5, l6] [] v c K := by
  refine e_run 5 (pc1 := 25) (L1 := [.ref 5, .int x1, .int x2, .int x3, .int x4, l5, l6]) (S1 := [.int (1 : Int32), .int x4, .ref 5, .int (2 : Int32), .int x2]) (v1 := v) rfl ?_
  exact e_cl (j := kX3_reach) rfl hc g
theorem bX3_shortestWalk_28 {x1 : Int32} {x2 : Int32} {x3 : Int32} {x4 : Int32} {l5 : Value} {l6 : Value} {y0 : Int32} {y1 : Int32} {y2 : Int32} {v : mmM} {c : Nat} {K : mmO → mmM → Prop} (hc : c + mm_mc kX3_reach ≤ mm_mc kX3_shortestWalk) (g : mm_M kX3_reach [.ref 5, .int x4, .int (0 : Int32)] v (mm_Kc kX3_shortestWalk 48 [.ref 5, .int x1, .int x2, .int x3, .int x4, .int (if (x3 + (11 : Int32)) < (y0 + (y1 * y2)) then (x3 + (11 : Int32)) else (y0 + (y1 * y2))), l6] [.int (2 : Int32), .int x3] (c + mm_mc kX3_reach) K)) : mm_E kX3_shortestWalk 28 [.ref 5, .int x1, .int x2, .int x3, .int x4, l5, l6] [.int y2, .int y1, .int y0] v c K := by
  refine e_run 12 (pc1 := 45) (L1 := [.ref 5, .int x1, .int x2, .int x3, .int x4, .int (if (x3 + (11 : Int32)) < (y0 + (y1 * y2)) then (x3 + (11 : Int32)) else (y0 + (y1 * y2))), l6]) (S1 := [.int (0 : Int32), .int x4, .ref 5, .int (2 : Int32), .int x3]) (v1 := v) rfl ?_
  exact e_cl (j := kX3_reach) rfl hc g
theorem bX3_shortestWalk_48 {x1 : Int32} {x2 : Int32} {x3 : Int32} {x4 : Int32} {x5 : Int32} {l6 : Value} {y0 : Int32} {y1 : Int32} {y2 : Int32} {v : mmM} {c : Nat} {K : mmO → mmM → Prop} (g : mm_E kX3_shortestWalk 13 [.ref 5, .int x1, .int x5, .int (if (x2 + (11 : Int32)) < (y0 + (y1 * y2)) then (x2 + (11 : Int32)) else (y0 + (y1 * y2))), .int (x4 + (1 : Int32)), .int x5, .int (if (x2 + (11 : Int32)) < (y0 + (y1 * y2)) then (x2 + (11 : Int32)) else (y0 + (y1 * y2)))] [] v c K) : mm_E kX3_shortestWalk 48 [.ref 5, .int x1, .int x2, .int x3, .int x4, .int x5, l6] [.int y2, .int y1, .int y0] v c K := by
  refine e_run 13 (pc1 := 13) (L1 := [.ref 5, .int x1, .int x5, .int (if (x2 + (11 : Int32)) < (y0 + (y1 * y2)) then (x2 + (11 : Int32)) else (y0 + (y1 * y2))), .int (x4 + (1 : Int32)), .int x5, .int (if (x2 + (11 : Int32)) < (y0 + (y1 * y2)) then (x2 + (11 : Int32)) else (y0 + (y1 * y2)))]) (S1 := []) (v1 := v) rfl ?_
  exact g
theorem bX3_shortestWalk_71 {x1 : Int32} {x2 : Int32} {x3 : Int32} {x4 : Int32} {l5 : Value} {l6 : Value} {v : mmM} {c : Nat} {K : mmO → mmM → Prop} (g : K (.inl (some (.int (x2 + (((2 : Int32) * x1) * (4 : Int32)))))) v) : mm_E kX3_shortestWalk 71 [.ref 5, .int x1, .int x2, .int x3, .int x4, l5, l6] [] v c K := by
  refine e_run 7 (pc1 := 78) (L1 := [.ref 5, .int x1, .int x2, .int x3, .int x4, l5, l6]) (S1 := [.int (x2 + (((2 : Int32) * x1) * (4 : Int32)))]) (v1 := v) rfl ?_
  exact e_iret (ty := .int) rfl rfl rfl g
theorem bX3_shortestWalkByTrying_0 {l1 : Value} {l2 : Value} {l3 : Value} {l4 : Value} {v : mmM} {c : Nat} {K : mmO → mmM → Prop} (hc : c + mm_mc kX3_lastAisle ≤ mm_mc kX3_shortestWalkByTrying) (g : mm_M kX3_lastAisle [.ref 5] v (mm_Kc kX3_shortestWalkByTrying 4 [.ref 5, l1, l2, l3, l4] [] (c + mm_mc kX3_lastAisle) K)) : mm_E kX3_shortestWalkByTrying 0 [.ref 5, l1, l2, l3, l4] [] v c K := by
  refine e_run 1 (pc1 := 1) (L1 := [.ref 5, l1, l2, l3, l4]) (S1 := [.ref 5]) (v1 := v) rfl ?_
  exact e_cl (j := kX3_lastAisle) rfl hc g
theorem bX3_shortestWalkByTrying_4 {l1 : Value} {l2 : Value} {l3 : Value} {l4 : Value} {y0 : Int32} {v : mmM} {c : Nat} {K : mmO → mmM → Prop} (g : mm_E kX3_shortestWalkByTrying 17 [.ref 5, .int y0, .int (1000000 : Int32), .int ((1 : Int32) <<< ((y0 + (1 : Int32)) &&& 31)), .int (0 : Int32)] [] v c K) : mm_E kX3_shortestWalkByTrying 4 [.ref 5, l1, l2, l3, l4] [.int y0] v c K := by
  refine e_run 11 (pc1 := 17) (L1 := [.ref 5, .int y0, .int (1000000 : Int32), .int ((1 : Int32) <<< ((y0 + (1 : Int32)) &&& 31)), .int (0 : Int32)]) (S1 := []) (v1 := v) rfl ?_
  exact g
theorem bX3_shortestWalkByTrying_17 {x1 : Int32} {x2 : Int32} {x3 : Int32} {x4 : Int32} {v : mmM} {c : Nat} {K : mmO → mmM → Prop} (g1 : x3 ≤ x4 → mm_E kX3_shortestWalkByTrying 41 [.ref 5, .int x1, .int x2, .int x3, .int x4] [] v c K) (g2 : ¬ x3 ≤ x4 → mm_E kX3_shortestWalkByTrying 23 [.ref 5, .int x1, .int x2, .int x3, .int x4] [] v c K) : mm_E kX3_shortestWalkByTrying 17 [.ref 5, .int x1, .int x2, .int x3, .int x4] [] v c K := by
  refine e_run 2 (pc1 := 20) (L1 := [.ref 5, .int x1, .int x2, .int x3, .int x4]) (S1 := [.int x3, .int x4]) (v1 := v) rfl ?_
  exact e_if (p := x3 ≤ x4) rfl g1 g2
theorem bX3_shortestWalkByTrying_23 {x1 : Int32} {x2 : Int32} {x3 : Int32} {x4 : Int32} {v : mmM} {c : Nat} {K : mmO → mmM → Prop} (hc : c + mm_mc kX3_walkOf ≤ mm_mc kX3_shortestWalkByTrying) (g : mm_M kX3_walkOf [.ref 5, .int x4, .int x1] v (mm_Kc kX3_shortestWalkByTrying 31 [.ref 5, .int x1, .int x2, .int x3, .int x4] [.int x2] (c + mm_mc kX3_walkOf) K)) : mm_E kX3_shortestWalkByTrying 23 [.ref 5, .int x1, .int x2, .int x3, .int x4] [] v c K := by
  refine e_run 4 (pc1 := 28) (L1 := [.ref 5, .int x1, .int x2, .int x3, .int x4]) (S1 := [.int x1, .int x4, .ref 5, .int x2]) (v1 := v) rfl ?_
  exact e_cl (j := kX3_walkOf) rfl hc g
theorem bX3_shortestWalkByTrying_31 {x1 : Int32} {x2 : Int32} {x3 : Int32} {x4 : Int32} {y0 : Int32} {y1 : Int32} {v : mmM} {c : Nat} {K : mmO → mmM → Prop} (g : mm_E kX3_shortestWalkByTrying 17 [.ref 5, .int x1, .int (if y1 < y0 then y1 else y0), .int x3, .int (x4 + (1 : Int32))] [] v c K) : mm_E kX3_shortestWalkByTrying 31 [.ref 5, .int x1, .int x2, .int x3, .int x4] [.int y1, .int y0] v c K := by
  refine e_run 4 (pc1 := 17) (L1 := [.ref 5, .int x1, .int (if y1 < y0 then y1 else y0), .int x3, .int (x4 + (1 : Int32))]) (S1 := []) (v1 := v) rfl ?_
  exact g
theorem bX3_shortestWalkByTrying_41 {x1 : Int32} {x2 : Int32} {x3 : Int32} {x4 : Int32} {v : mmM} {c : Nat} {K : mmO → mmM → Prop} (g : K (.inl (some (.int x2))) v) : mm_E kX3_shortestWalkByTrying 41 [.ref 5, .int x1, .int x2, .int x3, .int x4] [] v c K := by
  refine e_run 1 (pc1 := 42) (L1 := [.ref 5, .int x1, .int x2, .int x3, .int x4]) (S1 := [.int x2]) (v1 := v) rfl ?_
  exact e_iret (ty := .int) rfl rfl rfl g
theorem bX3_walkOf_0 {x1 : Int32} {x2 : Int32} {l3 : Value} {l4 : Value} {l5 : Value} {l6 : Value} {v : mmM} {c : Nat} {K : mmO → mmM → Prop} (g : mm_E kX3_walkOf 12 [.ref 5, .int x1, .int x2, .int (((2 : Int32) * x2) * (4 : Int32)), .int (1 : Int32), .int (0 : Int32), l6] [] v c K) : mm_E kX3_walkOf 0 [.ref 5, .int x1, .int x2, l3, l4, l5, l6] [] v c K := by
  refine e_run 10 (pc1 := 12) (L1 := [.ref 5, .int x1, .int x2, .int (((2 : Int32) * x2) * (4 : Int32)), .int (1 : Int32), .int (0 : Int32), l6]) (S1 := []) (v1 := v) rfl ?_
  exact g
theorem bX3_walkOf_12 {x1 : Int32} {x2 : Int32} {x3 : Int32} {x4 : Int32} {x5 : Int32} {l6 : Value} {v : mmM} {c : Nat} {K : mmO → mmM → Prop} (g1 : x2 < x5 → mm_E kX3_walkOf 78 [.ref 5, .int x1, .int x2, .int x3, .int x4, .int x5, l6] [] v c K) (g2 : ¬ x2 < x5 → mm_E kX3_walkOf 18 [.ref 5, .int x1, .int x2, .int x3, .int x4, .int x5, l6] [] v c K) : mm_E kX3_walkOf 12 [.ref 5, .int x1, .int x2, .int x3, .int x4, .int x5, l6] [] v c K := by
  refine e_run 2 (pc1 := 15) (L1 := [.ref 5, .int x1, .int x2, .int x3, .int x4, .int x5, l6]) (S1 := [.int x2, .int x5]) (v1 := v) rfl ?_
  exact e_if (p := x2 < x5) rfl g1 g2
theorem bX3_walkOf_18 {x1 : Int32} {x2 : Int32} {x3 : Int32} {x4 : Int32} {x5 : Int32} {l6 : Value} {v : mmM} {c : Nat} {K : mmO → mmM → Prop} (g1 : ((x1 >>> (x5 &&& 31)) &&& (1 : Int32)) = (1 : Int32) → mm_E kX3_walkOf 28 [.ref 5, .int x1, .int x2, .int x3, .int x4, .int x5, l6] [] v c K) (g2 : ¬ ((x1 >>> (x5 &&& 31)) &&& (1 : Int32)) = (1 : Int32) → mm_E kX3_walkOf 32 [.ref 5, .int x1, .int x2, .int x3, .int x4, .int x5, l6] [] v c K) : mm_E kX3_walkOf 18 [.ref 5, .int x1, .int x2, .int x3, .int x4, .int x5, l6] [] v c K := by
  refine e_run 6 (pc1 := 25) (L1 := [.ref 5, .int x1, .int x2, .int x3, .int x4, .int x5, l6]) (S1 := [.int (1 : Int32), .int ((x1 >>> (x5 &&& 31)) &&& (1 : Int32))]) (v1 := v) rfl ?_
  exact e_if (p := ((x1 >>> (x5 &&& 31)) &&& (1 : Int32)) = (1 : Int32)) rfl g1 g2
theorem bX3_walkOf_28 {x1 : Int32} {x2 : Int32} {x3 : Int32} {x4 : Int32} {x5 : Int32} {l6 : Value} {v : mmM} {c : Nat} {K : mmO → mmM → Prop} (g : mm_E kX3_walkOf 33 [.ref 5, .int x1, .int x2, .int x3, .int x4, .int x5, l6] [.int (1 : Int32)] v c K) : mm_E kX3_walkOf 28 [.ref 5, .int x1, .int x2, .int x3, .int x4, .int x5, l6] [] v c K := by
  refine e_run 2 (pc1 := 33) (L1 := [.ref 5, .int x1, .int x2, .int x3, .int x4, .int x5, l6]) (S1 := [.int (1 : Int32)]) (v1 := v) rfl ?_
  exact g
theorem bX3_walkOf_32 {x1 : Int32} {x2 : Int32} {x3 : Int32} {x4 : Int32} {x5 : Int32} {l6 : Value} {v : mmM} {c : Nat} {K : mmO → mmM → Prop} (g : mm_E kX3_walkOf 33 [.ref 5, .int x1, .int x2, .int x3, .int x4, .int x5, l6] [.int (0 : Int32)] v c K) : mm_E kX3_walkOf 32 [.ref 5, .int x1, .int x2, .int x3, .int x4, .int x5, l6] [] v c K := by
  refine e_run 1 (pc1 := 33) (L1 := [.ref 5, .int x1, .int x2, .int x3, .int x4, .int x5, l6]) (S1 := [.int (0 : Int32)]) (v1 := v) rfl ?_
  exact g
theorem bX3_walkOf_33 {x1 : Int32} {x2 : Int32} {x3 : Int32} {x4 : Int32} {x5 : Int32} {l6 : Value} {y0 : Int32} {v : mmM} {c : Nat} {K : mmO → mmM → Prop} (g1 : y0 = 0 → mm_E kX3_walkOf 46 [.ref 5, .int x1, .int x2, .int x3, .int x4, .int x5, .int y0] [.int x3] v c K) (g2 : ¬ y0 = 0 → mm_E kX3_walkOf 41 [.ref 5, .int x1, .int x2, .int x3, .int x4, .int x5, .int y0] [.int x3] v c K) : mm_E kX3_walkOf 33 [.ref 5, .int x1, .int x2, .int x3, .int x4, .int x5, l6] [.int y0] v c K := by
  refine e_run 3 (pc1 := 38) (L1 := [.ref 5, .int x1, .int x2, .int x3, .int x4, .int x5, .int y0]) (S1 := [.int y0, .int x3]) (v1 := v) rfl ?_
  exact e_if (p := y0 = 0) rfl g1 g2
theorem bX3_walkOf_41 {x1 : Int32} {x2 : Int32} {x3 : Int32} {x4 : Int32} {x5 : Int32} {x6 : Int32} {y0 : Int32} {v : mmM} {c : Nat} {K : mmO → mmM → Prop} (g : mm_E kX3_walkOf 56 [.ref 5, .int x1, .int x2, .int x3, .int x4, .int x5, .int x6] [.int (11 : Int32), .int y0] v c K) : mm_E kX3_walkOf 41 [.ref 5, .int x1, .int x2, .int x3, .int x4, .int x5, .int x6] [.int y0] v c K := by
  refine e_run 2 (pc1 := 56) (L1 := [.ref 5, .int x1, .int x2, .int x3, .int x4, .int x5, .int x6]) (S1 := [.int (11 : Int32), .int y0]) (v1 := v) rfl ?_
  exact g
theorem bX3_walkOf_46 {x1 : Int32} {x2 : Int32} {x3 : Int32} {x4 : Int32} {x5 : Int32} {x6 : Int32} {y0 : Int32} {v : mmM} {c : Nat} {K : mmO → mmM → Prop} (hc : c + mm_mc kX3_reach ≤ mm_mc kX3_walkOf) (g : mm_M kX3_reach [.ref 5, .int x5, .int x4] v (mm_Kc kX3_walkOf 55 [.ref 5, .int x1, .int x2, .int x3, .int x4, .int x5, .int x6] [.int (2 : Int32), .int y0] (c + mm_mc kX3_reach) K)) : mm_E kX3_walkOf 46 [.ref 5, .int x1, .int x2, .int x3, .int x4, .int x5, .int x6] [.int y0] v c K := by
  refine e_run 4 (pc1 := 52) (L1 := [.ref 5, .int x1, .int x2, .int x3, .int x4, .int x5, .int x6]) (S1 := [.int x4, .int x5, .ref 5, .int (2 : Int32), .int y0]) (v1 := v) rfl ?_
  exact e_cl (j := kX3_reach) rfl hc g
theorem bX3_walkOf_55 {x1 : Int32} {x2 : Int32} {x3 : Int32} {x4 : Int32} {x5 : Int32} {x6 : Int32} {y0 : Int32} {y1 : Int32} {y2 : Int32} {v : mmM} {c : Nat} {K : mmO → mmM → Prop} (g : mm_E kX3_walkOf 56 [.ref 5, .int x1, .int x2, .int x3, .int x4, .int x5, .int x6] [.int (y1 * y2), .int y0] v c K) : mm_E kX3_walkOf 55 [.ref 5, .int x1, .int x2, .int x3, .int x4, .int x5, .int x6] [.int y2, .int y1, .int y0] v c K := by
  refine e_run 1 (pc1 := 56) (L1 := [.ref 5, .int x1, .int x2, .int x3, .int x4, .int x5, .int x6]) (S1 := [.int (y1 * y2), .int y0]) (v1 := v) rfl ?_
  exact g
theorem bX3_walkOf_56 {x1 : Int32} {x2 : Int32} {x3 : Int32} {x4 : Int32} {x5 : Int32} {x6 : Int32} {y0 : Int32} {y1 : Int32} {v : mmM} {c : Nat} {K : mmO → mmM → Prop} (g1 : x6 = x4 → mm_E kX3_walkOf 69 [.ref 5, .int x1, .int x2, .int (y0 + y1), .int x4, .int x5, .int x6] [] v c K) (g2 : ¬ x6 = x4 → mm_E kX3_walkOf 65 [.ref 5, .int x1, .int x2, .int (y0 + y1), .int x4, .int x5, .int x6] [] v c K) : mm_E kX3_walkOf 56 [.ref 5, .int x1, .int x2, .int x3, .int x4, .int x5, .int x6] [.int y1, .int y0] v c K := by
  refine e_run 4 (pc1 := 62) (L1 := [.ref 5, .int x1, .int x2, .int (y0 + y1), .int x4, .int x5, .int x6]) (S1 := [.int x4, .int x6]) (v1 := v) rfl ?_
  exact e_if (p := x6 = x4) rfl g1 g2
theorem bX3_walkOf_65 {x1 : Int32} {x2 : Int32} {x3 : Int32} {x4 : Int32} {x5 : Int32} {x6 : Int32} {v : mmM} {c : Nat} {K : mmO → mmM → Prop} (g : mm_E kX3_walkOf 70 [.ref 5, .int x1, .int x2, .int x3, .int x4, .int x5, .int x6] [.int (1 : Int32)] v c K) : mm_E kX3_walkOf 65 [.ref 5, .int x1, .int x2, .int x3, .int x4, .int x5, .int x6] [] v c K := by
  refine e_run 2 (pc1 := 70) (L1 := [.ref 5, .int x1, .int x2, .int x3, .int x4, .int x5, .int x6]) (S1 := [.int (1 : Int32)]) (v1 := v) rfl ?_
  exact g
theorem bX3_walkOf_69 {x1 : Int32} {x2 : Int32} {x3 : Int32} {x4 : Int32} {x5 : Int32} {x6 : Int32} {v : mmM} {c : Nat} {K : mmO → mmM → Prop} (g : mm_E kX3_walkOf 70 [.ref 5, .int x1, .int x2, .int x3, .int x4, .int x5, .int x6] [.int (0 : Int32)] v c K) : mm_E kX3_walkOf 69 [.ref 5, .int x1, .int x2, .int x3, .int x4, .int x5, .int x6] [] v c K := by
  refine e_run 1 (pc1 := 70) (L1 := [.ref 5, .int x1, .int x2, .int x3, .int x4, .int x5, .int x6]) (S1 := [.int (0 : Int32)]) (v1 := v) rfl ?_
  exact g
theorem bX3_walkOf_70 {x1 : Int32} {x2 : Int32} {x3 : Int32} {x4 : Int32} {x5 : Int32} {x6 : Int32} {y0 : Int32} {v : mmM} {c : Nat} {K : mmO → mmM → Prop} (g : mm_E kX3_walkOf 12 [.ref 5, .int x1, .int x2, .int x3, .int y0, .int (x5 + (1 : Int32)), .int x6] [] v c K) : mm_E kX3_walkOf 70 [.ref 5, .int x1, .int x2, .int x3, .int x4, .int x5, .int x6] [.int y0] v c K := by
  refine e_run 3 (pc1 := 12) (L1 := [.ref 5, .int x1, .int x2, .int x3, .int y0, .int (x5 + (1 : Int32)), .int x6]) (S1 := []) (v1 := v) rfl ?_
  exact g
theorem bX3_walkOf_78 {x1 : Int32} {x2 : Int32} {x3 : Int32} {x4 : Int32} {x5 : Int32} {l6 : Value} {v : mmM} {c : Nat} {K : mmO → mmM → Prop} (g1 : x4 = 0 → mm_E kX3_walkOf 87 [.ref 5, .int x1, .int x2, .int x3, .int x4, .int x5, l6] [] v c K) (g2 : ¬ x4 = 0 → mm_E kX3_walkOf 83 [.ref 5, .int x1, .int x2, .int x3, .int x4, .int x5, l6] [] v c K) : mm_E kX3_walkOf 78 [.ref 5, .int x1, .int x2, .int x3, .int x4, .int x5, l6] [] v c K := by
  refine e_run 1 (pc1 := 80) (L1 := [.ref 5, .int x1, .int x2, .int x3, .int x4, .int x5, l6]) (S1 := [.int x4]) (v1 := v) rfl ?_
  exact e_if (p := x4 = 0) rfl g1 g2
theorem bX3_walkOf_83 {x1 : Int32} {x2 : Int32} {x3 : Int32} {x4 : Int32} {x5 : Int32} {l6 : Value} {v : mmM} {c : Nat} {K : mmO → mmM → Prop} (g : mm_E kX3_walkOf 89 [.ref 5, .int x1, .int x2, .int x3, .int x4, .int x5, l6] [.int x3] v c K) : mm_E kX3_walkOf 83 [.ref 5, .int x1, .int x2, .int x3, .int x4, .int x5, l6] [] v c K := by
  refine e_run 2 (pc1 := 89) (L1 := [.ref 5, .int x1, .int x2, .int x3, .int x4, .int x5, l6]) (S1 := [.int x3]) (v1 := v) rfl ?_
  exact g
theorem bX3_walkOf_87 {x1 : Int32} {x2 : Int32} {x3 : Int32} {x4 : Int32} {x5 : Int32} {l6 : Value} {v : mmM} {c : Nat} {K : mmO → mmM → Prop} (g : mm_E kX3_walkOf 89 [.ref 5, .int x1, .int x2, .int x3, .int x4, .int x5, l6] [.int (1000000 : Int32)] v c K) : mm_E kX3_walkOf 87 [.ref 5, .int x1, .int x2, .int x3, .int x4, .int x5, l6] [] v c K := by
  refine e_run 1 (pc1 := 89) (L1 := [.ref 5, .int x1, .int x2, .int x3, .int x4, .int x5, l6]) (S1 := [.int (1000000 : Int32)]) (v1 := v) rfl ?_
  exact g
theorem bX3_walkOf_89 {x1 : Int32} {x2 : Int32} {x3 : Int32} {x4 : Int32} {x5 : Int32} {l6 : Value} {y0 : Int32} {v : mmM} {c : Nat} {K : mmO → mmM → Prop} (g : K (.inl (some (.int y0))) v) : mm_E kX3_walkOf 89 [.ref 5, .int x1, .int x2, .int x3, .int x4, .int x5, l6] [.int y0] v c K := by
  exact e_iret (ty := .int) rfl rfl rfl g
theorem bX4_append_0 {x1 : Int32} {l3 : Value} {v : mmM} {c : Nat} {K : mmO → mmM → Prop} (h1 : mm_in (v 3 0) 20 = true) (h2 : mm_in (v 3 0) 20 = true) (h3 : mm_in (v 3 0) 20 = true) (g : K (.inl (some (.int (v 3 0)))) (mm_up (mm_cp (mm_up (mm_up v 47 (v 3 0).toNatClampNeg x1) 48 (v 3 0).toNatClampNeg (111 : Int32)) 6 (0 : Int32).toNatClampNeg (50 + (v 3 0).toNatClampNeg) (0 : Int32).toNatClampNeg (6 : Int32).toNatClampNeg) 3 0 (((mm_cp (mm_up (mm_up v 47 (v 3 0).toNatClampNeg x1) 48 (v 3 0).toNatClampNeg (111 : Int32)) 6 (0 : Int32).toNatClampNeg (50 + (v 3 0).toNatClampNeg) (0 : Int32).toNatClampNeg (6 : Int32).toNatClampNeg) 3 0) + (1 : Int32)))) : mm_E kX4_append 0 [.ref 3, .int x1, .ref 6, l3] [] v c K := by
  refine e_run 7 (pc1 := 11) (L1 := [.ref 3, .int x1, .ref 6, .int (v 3 0)]) (S1 := [.int x1, .int (v 3 0), .ref 47]) (v1 := v) rfl ?_
  refine e_iast rfl rfl (by decide) h1 ?_
  refine e_run 4 (pc1 := 19) (L1 := [.ref 3, .int x1, .ref 6, .int (v 3 0)]) (S1 := [.int (111 : Int32), .int (v 3 0), .ref 48]) (v1 := mm_up v 47 (v 3 0).toNatClampNeg x1) rfl ?_
  refine e_cast rfl rfl (by decide) h2 (by decide) ?_
  refine e_run 5 (pc1 := 27) (L1 := [.ref 3, .int x1, .ref 6, .int (v 3 0)]) (S1 := [.int (v 3 0), .ref 49, .int (0 : Int32), .ref 6]) (v1 := mm_up (mm_up v 47 (v 3 0).toNatClampNeg x1) 48 (v 3 0).toNatClampNeg (111 : Int32)) rfl ?_
  refine e_aald rfl rfl (by decide) h3 ?_
  refine e_run 2 (pc1 := 31) (L1 := [.ref 3, .int x1, .ref 6, .int (v 3 0)]) (S1 := [.int (6 : Int32), .int (0 : Int32), .ref (50 + (v 3 0).toNatClampNeg), .int (0 : Int32), .ref 6]) (v1 := mm_up (mm_up v 47 (v 3 0).toNatClampNeg x1) 48 (v 3 0).toNatClampNeg (111 : Int32)) rfl ?_
  refine e_copy rfl rfl (by decide) (mm_rows (P := fun x => mm_sh (50 + x) = (0, 6, 0, [])) (by decide +kernel) (mm_in_lt h3)) (by have := (mm_in_lt h3); show _ < 81; omega) rfl (by decide) (by decide) (by decide) ?_
  refine e_run 7 (pc1 := 45) (L1 := [.ref 3, .int x1, .ref 6, .int (v 3 0)]) (S1 := [.int (v 3 0)]) (v1 := mm_up (mm_cp (mm_up (mm_up v 47 (v 3 0).toNatClampNeg x1) 48 (v 3 0).toNatClampNeg (111 : Int32)) 6 (0 : Int32).toNatClampNeg (50 + (v 3 0).toNatClampNeg) (0 : Int32).toNatClampNeg (6 : Int32).toNatClampNeg) 3 0 (((mm_cp (mm_up (mm_up v 47 (v 3 0).toNatClampNeg x1) 48 (v 3 0).toNatClampNeg (111 : Int32)) 6 (0 : Int32).toNatClampNeg (50 + (v 3 0).toNatClampNeg) (0 : Int32).toNatClampNeg (6 : Int32).toNatClampNeg) 3 0) + (1 : Int32))) rfl ?_
  exact e_iret (ty := .int) rfl rfl rfl g
theorem bX4_isOpenFrom_0 {x1 : Int32} {x2 : Int32} {v : mmM} {c : Nat} {K : mmO → mmM → Prop} (h1 : mm_in x1 20 = true) (g1 : (v 48 x1.toNatClampNeg) = (111 : Int32) → mm_E kX4_isOpenFrom 11 [.ref 3, .int x1, .int x2] [] v c K) (g2 : ¬ (v 48 x1.toNatClampNeg) = (111 : Int32) → mm_E kX4_isOpenFrom 25 [.ref 3, .int x1, .int x2] [] v c K) : mm_E kX4_isOpenFrom 0 [.ref 3, .int x1, .int x2] [] v c K := by
  refine e_run 3 (pc1 := 5) (L1 := [.ref 3, .int x1, .int x2]) (S1 := [.int x1, .ref 48]) (v1 := v) rfl ?_
  refine e_cald rfl rfl (by decide) h1 ?_
  refine e_run 1 (pc1 := 8) (L1 := [.ref 3, .int x1, .int x2]) (S1 := [.int (111 : Int32), .int (v 48 x1.toNatClampNeg)]) (v1 := v) rfl ?_
  exact e_if (p := (v 48 x1.toNatClampNeg) = (111 : Int32)) rfl g1 g2
theorem bX4_isOpenFrom_11 {x1 : Int32} {x2 : Int32} {v : mmM} {c : Nat} {K : mmO → mmM → Prop} (h1 : mm_in x1 20 = true) (g1 : (v 47 x1.toNatClampNeg) < x2 → mm_E kX4_isOpenFrom 25 [.ref 3, .int x1, .int x2] [] v c K) (g2 : ¬ (v 47 x1.toNatClampNeg) < x2 → mm_E kX4_isOpenFrom 21 [.ref 3, .int x1, .int x2] [] v c K) : mm_E kX4_isOpenFrom 11 [.ref 3, .int x1, .int x2] [] v c K := by
  refine e_run 3 (pc1 := 16) (L1 := [.ref 3, .int x1, .int x2]) (S1 := [.int x1, .ref 47]) (v1 := v) rfl ?_
  refine e_iald rfl rfl (by decide) h1 ?_
  refine e_run 1 (pc1 := 18) (L1 := [.ref 3, .int x1, .int x2]) (S1 := [.int x2, .int (v 47 x1.toNatClampNeg)]) (v1 := v) rfl ?_
  exact e_if (p := (v 47 x1.toNatClampNeg) < x2) rfl g1 g2
theorem bX4_isOpenFrom_21 {x1 : Int32} {x2 : Int32} {v : mmM} {c : Nat} {K : mmO → mmM → Prop} (g : mm_E kX4_isOpenFrom 26 [.ref 3, .int x1, .int x2] [.int (1 : Int32)] v c K) : mm_E kX4_isOpenFrom 21 [.ref 3, .int x1, .int x2] [] v c K := by
  refine e_run 2 (pc1 := 26) (L1 := [.ref 3, .int x1, .int x2]) (S1 := [.int (1 : Int32)]) (v1 := v) rfl ?_
  exact g
theorem bX4_isOpenFrom_25 {x1 : Int32} {x2 : Int32} {v : mmM} {c : Nat} {K : mmO → mmM → Prop} (g : mm_E kX4_isOpenFrom 26 [.ref 3, .int x1, .int x2] [.int (0 : Int32)] v c K) : mm_E kX4_isOpenFrom 25 [.ref 3, .int x1, .int x2] [] v c K := by
  refine e_run 1 (pc1 := 26) (L1 := [.ref 3, .int x1, .int x2]) (S1 := [.int (0 : Int32)]) (v1 := v) rfl ?_
  exact g
theorem bX4_isOpenFrom_26 {x1 : Int32} {x2 : Int32} {y0 : Int32} {v : mmM} {c : Nat} {K : mmO → mmM → Prop} (h1 : narrow .boolean (.int y0) = .int y0) (g : K (.inl (some (.int y0))) v) : mm_E kX4_isOpenFrom 26 [.ref 3, .int x1, .int x2] [.int y0] v c K := by
  exact e_iret (ty := .boolean) rfl rfl h1 g
theorem bX4_promisedFrom_0 {x1 : Int32} {x2 : Int32} {l3 : Value} {l4 : Value} {v : mmM} {c : Nat} {K : mmO → mmM → Prop} (g : mm_E kX4_promisedFrom 5 [.ref 3, .int x1, .int x2, .int (0 : Int32), .int (0 : Int32)] [] v c K) : mm_E kX4_promisedFrom 0 [.ref 3, .int x1, .int x2, l3, l4] [] v c K := by
  refine e_run 4 (pc1 := 5) (L1 := [.ref 3, .int x1, .int x2, .int (0 : Int32), .int (0 : Int32)]) (S1 := []) (v1 := v) rfl ?_
  exact g
theorem bX4_promisedFrom_5 {x1 : Int32} {x2 : Int32} {x3 : Int32} {x4 : Int32} {v : mmM} {c : Nat} {K : mmO → mmM → Prop} (g1 : (v 3 0) ≤ x4 → mm_E kX4_promisedFrom 42 [.ref 3, .int x1, .int x2, .int x3, .int x4] [] v c K) (g2 : ¬ (v 3 0) ≤ x4 → mm_E kX4_promisedFrom 14 [.ref 3, .int x1, .int x2, .int x3, .int x4] [] v c K) : mm_E kX4_promisedFrom 5 [.ref 3, .int x1, .int x2, .int x3, .int x4] [] v c K := by
  refine e_run 3 (pc1 := 11) (L1 := [.ref 3, .int x1, .int x2, .int x3, .int x4]) (S1 := [.int (v 3 0), .int x4]) (v1 := v) rfl ?_
  exact e_if (p := (v 3 0) ≤ x4) rfl g1 g2
theorem bX4_promisedFrom_14 {x1 : Int32} {x2 : Int32} {x3 : Int32} {x4 : Int32} {v : mmM} {c : Nat} {K : mmO → mmM → Prop} (hc : c + mm_mc kX4_isOpenFrom ≤ mm_mc kX4_promisedFrom) (g : mm_M kX4_isOpenFrom [.ref 3, .int x4, .int x2] v (mm_Kc kX4_promisedFrom 21 [.ref 3, .int x1, .int x2, .int x3, .int x4] [] (c + mm_mc kX4_isOpenFrom) K)) : mm_E kX4_promisedFrom 14 [.ref 3, .int x1, .int x2, .int x3, .int x4] [] v c K := by
  refine e_run 3 (pc1 := 18) (L1 := [.ref 3, .int x1, .int x2, .int x3, .int x4]) (S1 := [.int x2, .int x4, .ref 3]) (v1 := v) rfl ?_
  exact e_cl (j := kX4_isOpenFrom) rfl hc g
theorem bX4_promisedFrom_21 {x1 : Int32} {x2 : Int32} {x3 : Int32} {x4 : Int32} {y0 : Int32} {v : mmM} {c : Nat} {K : mmO → mmM → Prop} (g1 : y0 = 0 → mm_E kX4_promisedFrom 36 [.ref 3, .int x1, .int x2, .int x3, .int x4] [] v c K) (g2 : ¬ y0 = 0 → mm_E kX4_promisedFrom 24 [.ref 3, .int x1, .int x2, .int x3, .int x4] [] v c K) : mm_E kX4_promisedFrom 21 [.ref 3, .int x1, .int x2, .int x3, .int x4] [.int y0] v c K := by
  exact e_if (p := y0 = 0) rfl g1 g2
theorem bX4_promisedFrom_24 {x1 : Int32} {x2 : Int32} {x3 : Int32} {x4 : Int32} {v : mmM} {c : Nat} {K : mmO → mmM → Prop} (h1 : mm_in x4 20 = true) (h2 : mm_in x1 6 = true) (g : mm_E kX4_promisedFrom 36 [.ref 3, .int x1, .int x2, .int (x3 + (v (50 + x4.toNatClampNeg) x1.toNatClampNeg)), .int x4] [] v c K) : mm_E kX4_promisedFrom 24 [.ref 3, .int x1, .int x2, .int x3, .int x4] [] v c K := by
  refine e_run 4 (pc1 := 31) (L1 := [.ref 3, .int x1, .int x2, .int x3, .int x4]) (S1 := [.int x4, .ref 49, .int x3]) (v1 := v) rfl ?_
  refine e_aald rfl rfl (by decide) h1 ?_
  refine e_run 1 (pc1 := 33) (L1 := [.ref 3, .int x1, .int x2, .int x3, .int x4]) (S1 := [.int x1, .ref (50 + x4.toNatClampNeg), .int x3]) (v1 := v) rfl ?_
  refine e_iald rfl (mm_rows (P := fun x => mm_sh (50 + x) = (0, 6, 0, [])) (by decide +kernel) (mm_in_lt h1)) (by have := (mm_in_lt h1); show _ < 81; omega) h2 ?_
  refine e_run 2 (pc1 := 36) (L1 := [.ref 3, .int x1, .int x2, .int (x3 + (v (50 + x4.toNatClampNeg) x1.toNatClampNeg)), .int x4]) (S1 := []) (v1 := v) rfl ?_
  exact g
theorem bX4_promisedFrom_36 {x1 : Int32} {x2 : Int32} {x3 : Int32} {x4 : Int32} {v : mmM} {c : Nat} {K : mmO → mmM → Prop} (g : mm_E kX4_promisedFrom 5 [.ref 3, .int x1, .int x2, .int x3, .int (x4 + (1 : Int32))] [] v c K) : mm_E kX4_promisedFrom 36 [.ref 3, .int x1, .int x2, .int x3, .int x4] [] v c K := by
  refine e_run 2 (pc1 := 5) (L1 := [.ref 3, .int x1, .int x2, .int x3, .int (x4 + (1 : Int32))]) (S1 := []) (v1 := v) rfl ?_
  exact g
theorem bX4_promisedFrom_42 {x1 : Int32} {x2 : Int32} {x3 : Int32} {x4 : Int32} {v : mmM} {c : Nat} {K : mmO → mmM → Prop} (g : K (.inl (some (.int x3))) v) : mm_E kX4_promisedFrom 42 [.ref 3, .int x1, .int x2, .int x3, .int x4] [] v c K := by
  refine e_run 1 (pc1 := 43) (L1 := [.ref 3, .int x1, .int x2, .int x3, .int x4]) (S1 := [.int x3]) (v1 := v) rfl ?_
  exact e_iret (ty := .int) rfl rfl rfl g
theorem bX4_lastOpenFor_0 {x1 : Int32} {x2 : Int32} {l3 : Value} {v : mmM} {c : Nat} {K : mmO → mmM → Prop} (g : mm_E kX4_lastOpenFor 7 [.ref 3, .int x1, .int x2, .int ((v 3 0) - (1 : Int32))] [] v c K) : mm_E kX4_lastOpenFor 0 [.ref 3, .int x1, .int x2, l3] [] v c K := by
  refine e_run 5 (pc1 := 7) (L1 := [.ref 3, .int x1, .int x2, .int ((v 3 0) - (1 : Int32))]) (S1 := []) (v1 := v) rfl ?_
  exact g
theorem bX4_lastOpenFor_7 {x1 : Int32} {x2 : Int32} {x3 : Int32} {v : mmM} {c : Nat} {K : mmO → mmM → Prop} (g1 : x3 < 0 → mm_E kX4_lastOpenFor 39 [.ref 3, .int x1, .int x2, .int x3] [] v c K) (g2 : ¬ x3 < 0 → mm_E kX4_lastOpenFor 11 [.ref 3, .int x1, .int x2, .int x3] [] v c K) : mm_E kX4_lastOpenFor 7 [.ref 3, .int x1, .int x2, .int x3] [] v c K := by
  refine e_run 1 (pc1 := 8) (L1 := [.ref 3, .int x1, .int x2, .int x3]) (S1 := [.int x3]) (v1 := v) rfl ?_
  exact e_if (p := x3 < 0) rfl g1 g2
theorem bX4_lastOpenFor_11 {x1 : Int32} {x2 : Int32} {x3 : Int32} {v : mmM} {c : Nat} {K : mmO → mmM → Prop} (hc : c + mm_mc kX4_isOpenFrom ≤ mm_mc kX4_lastOpenFor) (g : mm_M kX4_isOpenFrom [.ref 3, .int x3, .int x2] v (mm_Kc kX4_lastOpenFor 17 [.ref 3, .int x1, .int x2, .int x3] [] (c + mm_mc kX4_isOpenFrom) K)) : mm_E kX4_lastOpenFor 11 [.ref 3, .int x1, .int x2, .int x3] [] v c K := by
  refine e_run 3 (pc1 := 14) (L1 := [.ref 3, .int x1, .int x2, .int x3]) (S1 := [.int x2, .int x3, .ref 3]) (v1 := v) rfl ?_
  exact e_cl (j := kX4_isOpenFrom) rfl hc g
theorem bX4_lastOpenFor_17 {x1 : Int32} {x2 : Int32} {x3 : Int32} {y0 : Int32} {v : mmM} {c : Nat} {K : mmO → mmM → Prop} (g1 : y0 = 0 → mm_E kX4_lastOpenFor 33 [.ref 3, .int x1, .int x2, .int x3] [] v c K) (g2 : ¬ y0 = 0 → mm_E kX4_lastOpenFor 20 [.ref 3, .int x1, .int x2, .int x3] [] v c K) : mm_E kX4_lastOpenFor 17 [.ref 3, .int x1, .int x2, .int x3] [.int y0] v c K := by
  exact e_if (p := y0 = 0) rfl g1 g2
theorem bX4_lastOpenFor_20 {x1 : Int32} {x2 : Int32} {x3 : Int32} {v : mmM} {c : Nat} {K : mmO → mmM → Prop} (h1 : mm_in x3 20 = true) (h2 : mm_in x1 6 = true) (g1 : (v (50 + x3.toNatClampNeg) x1.toNatClampNeg) ≤ 0 → mm_E kX4_lastOpenFor 33 [.ref 3, .int x1, .int x2, .int x3] [] v c K) (g2 : ¬ (v (50 + x3.toNatClampNeg) x1.toNatClampNeg) ≤ 0 → mm_E kX4_lastOpenFor 31 [.ref 3, .int x1, .int x2, .int x3] [] v c K) : mm_E kX4_lastOpenFor 20 [.ref 3, .int x1, .int x2, .int x3] [] v c K := by
  refine e_run 3 (pc1 := 25) (L1 := [.ref 3, .int x1, .int x2, .int x3]) (S1 := [.int x3, .ref 49]) (v1 := v) rfl ?_
  refine e_aald rfl rfl (by decide) h1 ?_
  refine e_run 1 (pc1 := 27) (L1 := [.ref 3, .int x1, .int x2, .int x3]) (S1 := [.int x1, .ref (50 + x3.toNatClampNeg)]) (v1 := v) rfl ?_
  refine e_iald rfl (mm_rows (P := fun x => mm_sh (50 + x) = (0, 6, 0, [])) (by decide +kernel) (mm_in_lt h1)) (by have := (mm_in_lt h1); show _ < 81; omega) h2 ?_
  exact e_if (p := (v (50 + x3.toNatClampNeg) x1.toNatClampNeg) ≤ 0) rfl g1 g2
theorem bX4_lastOpenFor_31 {x1 : Int32} {x2 : Int32} {x3 : Int32} {v : mmM} {c : Nat} {K : mmO → mmM → Prop} (g : K (.inl (some (.int x3))) v) : mm_E kX4_lastOpenFor 31 [.ref 3, .int x1, .int x2, .int x3] [] v c K := by
  refine e_run 1 (pc1 := 32) (L1 := [.ref 3, .int x1, .int x2, .int x3]) (S1 := [.int x3]) (v1 := v) rfl ?_
  exact e_iret (ty := .int) rfl rfl rfl g
theorem bX4_lastOpenFor_33 {x1 : Int32} {x2 : Int32} {x3 : Int32} {v : mmM} {c : Nat} {K : mmO → mmM → Prop} (g : mm_E kX4_lastOpenFor 7 [.ref 3, .int x1, .int x2, .int (x3 + (-1 : Int32))] [] v c K) : mm_E kX4_lastOpenFor 33 [.ref 3, .int x1, .int x2, .int x3] [] v c K := by
  refine e_run 2 (pc1 := 7) (L1 := [.ref 3, .int x1, .int x2, .int (x3 + (-1 : Int32))]) (S1 := []) (v1 := v) rfl ?_
  exact g
theorem bX4_lastOpenFor_39 {x1 : Int32} {x2 : Int32} {x3 : Int32} {v : mmM} {c : Nat} {K : mmO → mmM → Prop} (g : K (.inl (some (.int (-1 : Int32)))) v) : mm_E kX4_lastOpenFor 39 [.ref 3, .int x1, .int x2, .int x3] [] v c K := by
  refine e_run 1 (pc1 := 40) (L1 := [.ref 3, .int x1, .int x2, .int x3]) (S1 := [.int (-1 : Int32)]) (v1 := v) rfl ?_
  exact e_iret (ty := .int) rfl rfl rfl g
theorem bX4_sumOf_0 {x1 : Int32} {l2 : Value} {l3 : Value} {v : mmM} {c : Nat} {K : mmO → mmM → Prop} (g : mm_E kX4_sumOf 4 [.ref 3, .int x1, .int (0 : Int32), .int (0 : Int32)] [] v c K) : mm_E kX4_sumOf 0 [.ref 3, .int x1, l2, l3] [] v c K := by
  refine e_run 4 (pc1 := 4) (L1 := [.ref 3, .int x1, .int (0 : Int32), .int (0 : Int32)]) (S1 := []) (v1 := v) rfl ?_
  exact g
theorem bX4_sumOf_4 {x1 : Int32} {x2 : Int32} {x3 : Int32} {v : mmM} {c : Nat} {K : mmO → mmM → Prop} (g1 : (6 : Int32) ≤ x3 → mm_E kX4_sumOf 27 [.ref 3, .int x1, .int x2, .int x3] [] v c K) (g2 : ¬ (6 : Int32) ≤ x3 → mm_E kX4_sumOf 10 [.ref 3, .int x1, .int x2, .int x3] [] v c K) : mm_E kX4_sumOf 4 [.ref 3, .int x1, .int x2, .int x3] [] v c K := by
  refine e_run 2 (pc1 := 7) (L1 := [.ref 3, .int x1, .int x2, .int x3]) (S1 := [.int (6 : Int32), .int x3]) (v1 := v) rfl ?_
  exact e_if (p := (6 : Int32) ≤ x3) rfl g1 g2
theorem bX4_sumOf_10 {x1 : Int32} {x2 : Int32} {x3 : Int32} {v : mmM} {c : Nat} {K : mmO → mmM → Prop} (h1 : mm_in x1 20 = true) (h2 : mm_in x3 6 = true) (g : mm_E kX4_sumOf 4 [.ref 3, .int x1, .int (x2 + (v (50 + x1.toNatClampNeg) x3.toNatClampNeg)), .int (x3 + (1 : Int32))] [] v c K) : mm_E kX4_sumOf 10 [.ref 3, .int x1, .int x2, .int x3] [] v c K := by
  refine e_run 4 (pc1 := 16) (L1 := [.ref 3, .int x1, .int x2, .int x3]) (S1 := [.int x1, .ref 49, .int x2]) (v1 := v) rfl ?_
  refine e_aald rfl rfl (by decide) h1 ?_
  refine e_run 1 (pc1 := 18) (L1 := [.ref 3, .int x1, .int x2, .int x3]) (S1 := [.int x3, .ref (50 + x1.toNatClampNeg), .int x2]) (v1 := v) rfl ?_
  refine e_iald rfl (mm_rows (P := fun x => mm_sh (50 + x) = (0, 6, 0, [])) (by decide +kernel) (mm_in_lt h1)) (by have := (mm_in_lt h1); show _ < 81; omega) h2 ?_
  refine e_run 4 (pc1 := 4) (L1 := [.ref 3, .int x1, .int (x2 + (v (50 + x1.toNatClampNeg) x3.toNatClampNeg)), .int (x3 + (1 : Int32))]) (S1 := []) (v1 := v) rfl ?_
  exact g
theorem bX4_sumOf_27 {x1 : Int32} {x2 : Int32} {x3 : Int32} {v : mmM} {c : Nat} {K : mmO → mmM → Prop} (g : K (.inl (some (.int x2))) v) : mm_E kX4_sumOf 27 [.ref 3, .int x1, .int x2, .int x3] [] v c K := by
  refine e_run 1 (pc1 := 28) (L1 := [.ref 3, .int x1, .int x2, .int x3]) (S1 := [.int x2]) (v1 := v) rfl ?_
  exact e_iret (ty := .int) rfl rfl rfl g
theorem bX4_lapseBefore_0 {x1 : Int32} {l2 : Value} {l3 : Value} {v : mmM} {c : Nat} {K : mmO → mmM → Prop} (g : mm_E kX4_lapseBefore 4 [.ref 3, .int x1, .int (0 : Int32), .int (0 : Int32)] [] v c K) : mm_E kX4_lapseBefore 0 [.ref 3, .int x1, l2, l3] [] v c K := by
  refine e_run 4 (pc1 := 4) (L1 := [.ref 3, .int x1, .int (0 : Int32), .int (0 : Int32)]) (S1 := []) (v1 := v) rfl ?_
  exact g
theorem bX4_lapseBefore_4 {x1 : Int32} {x2 : Int32} {x3 : Int32} {v : mmM} {c : Nat} {K : mmO → mmM → Prop} (g1 : (v 3 0) ≤ x3 → mm_E kX4_lapseBefore 50 [.ref 3, .int x1, .int x2, .int x3] [] v c K) (g2 : ¬ (v 3 0) ≤ x3 → mm_E kX4_lapseBefore 12 [.ref 3, .int x1, .int x2, .int x3] [] v c K) : mm_E kX4_lapseBefore 4 [.ref 3, .int x1, .int x2, .int x3] [] v c K := by
  refine e_run 3 (pc1 := 9) (L1 := [.ref 3, .int x1, .int x2, .int x3]) (S1 := [.int (v 3 0), .int x3]) (v1 := v) rfl ?_
  exact e_if (p := (v 3 0) ≤ x3) rfl g1 g2
theorem bX4_lapseBefore_12 {x1 : Int32} {x2 : Int32} {x3 : Int32} {v : mmM} {c : Nat} {K : mmO → mmM → Prop} (h1 : mm_in x3 20 = true) (g1 : (v 48 x3.toNatClampNeg) = (111 : Int32) → mm_E kX4_lapseBefore 23 [.ref 3, .int x1, .int x2, .int x3] [] v c K) (g2 : ¬ (v 48 x3.toNatClampNeg) = (111 : Int32) → mm_E kX4_lapseBefore 44 [.ref 3, .int x1, .int x2, .int x3] [] v c K) : mm_E kX4_lapseBefore 12 [.ref 3, .int x1, .int x2, .int x3] [] v c K := by
  refine e_run 3 (pc1 := 17) (L1 := [.ref 3, .int x1, .int x2, .int x3]) (S1 := [.int x3, .ref 48]) (v1 := v) rfl ?_
  refine e_cald rfl rfl (by decide) h1 ?_
  refine e_run 1 (pc1 := 20) (L1 := [.ref 3, .int x1, .int x2, .int x3]) (S1 := [.int (111 : Int32), .int (v 48 x3.toNatClampNeg)]) (v1 := v) rfl ?_
  exact e_if (p := (v 48 x3.toNatClampNeg) = (111 : Int32)) rfl g1 g2
theorem bX4_lapseBefore_23 {x1 : Int32} {x2 : Int32} {x3 : Int32} {v : mmM} {c : Nat} {K : mmO → mmM → Prop} (h1 : mm_in x3 20 = true) (g1 : x1 ≤ (v 47 x3.toNatClampNeg) → mm_E kX4_lapseBefore 44 [.ref 3, .int x1, .int x2, .int x3] [] v c K) (g2 : ¬ x1 ≤ (v 47 x3.toNatClampNeg) → mm_E kX4_lapseBefore 33 [.ref 3, .int x1, .int x2, .int x3] [] v c K) : mm_E kX4_lapseBefore 23 [.ref 3, .int x1, .int x2, .int x3] [] v c K := by
  refine e_run 3 (pc1 := 28) (L1 := [.ref 3, .int x1, .int x2, .int x3]) (S1 := [.int x3, .ref 47]) (v1 := v) rfl ?_
  refine e_iald rfl rfl (by decide) h1 ?_
  refine e_run 1 (pc1 := 30) (L1 := [.ref 3, .int x1, .int x2, .int x3]) (S1 := [.int x1, .int (v 47 x3.toNatClampNeg)]) (v1 := v) rfl ?_
  exact e_if (p := x1 ≤ (v 47 x3.toNatClampNeg)) rfl g1 g2
theorem bX4_lapseBefore_33 {x1 : Int32} {x2 : Int32} {x3 : Int32} {v : mmM} {c : Nat} {K : mmO → mmM → Prop} (h1 : mm_in x3 20 = true) (g : mm_E kX4_lapseBefore 44 [.ref 3, .int x1, .int (x2 + (1 : Int32)), .int x3] [] (mm_up v 48 x3.toNatClampNeg (108 : Int32)) c K) : mm_E kX4_lapseBefore 33 [.ref 3, .int x1, .int x2, .int x3] [] v c K := by
  refine e_run 4 (pc1 := 40) (L1 := [.ref 3, .int x1, .int x2, .int x3]) (S1 := [.int (108 : Int32), .int x3, .ref 48]) (v1 := v) rfl ?_
  refine e_cast rfl rfl (by decide) h1 (by decide) ?_
  refine e_run 1 (pc1 := 44) (L1 := [.ref 3, .int x1, .int (x2 + (1 : Int32)), .int x3]) (S1 := []) (v1 := mm_up v 48 x3.toNatClampNeg (108 : Int32)) rfl ?_
  exact g
theorem bX4_lapseBefore_44 {x1 : Int32} {x2 : Int32} {x3 : Int32} {v : mmM} {c : Nat} {K : mmO → mmM → Prop} (g : mm_E kX4_lapseBefore 4 [.ref 3, .int x1, .int x2, .int (x3 + (1 : Int32))] [] v c K) : mm_E kX4_lapseBefore 44 [.ref 3, .int x1, .int x2, .int x3] [] v c K := by
  refine e_run 2 (pc1 := 4) (L1 := [.ref 3, .int x1, .int x2, .int (x3 + (1 : Int32))]) (S1 := []) (v1 := v) rfl ?_
  exact g
theorem bX4_lapseBefore_50 {x1 : Int32} {x2 : Int32} {x3 : Int32} {v : mmM} {c : Nat} {K : mmO → mmM → Prop} (g : K (.inl (some (.int x2))) v) : mm_E kX4_lapseBefore 50 [.ref 3, .int x1, .int x2, .int x3] [] v c K := by
  refine e_run 1 (pc1 := 51) (L1 := [.ref 3, .int x1, .int x2, .int x3]) (S1 := [.int x2]) (v1 := v) rfl ?_
  exact e_iret (ty := .int) rfl rfl rfl g
theorem bX5_addItem_0 {x1 : Int32} {v : mmM} {c : Nat} {K : mmO → mmM → Prop} (g1 : x1 = (65 : Int32) → mm_E kX5_addItem 28 [.ref 0, .int x1] [] v c K) (g2 : ¬ x1 = (65 : Int32) → mm_E kX5_addItem 6 [.ref 0, .int x1] [] v c K) : mm_E kX5_addItem 0 [.ref 0, .int x1] [] v c K := by
  refine e_run 2 (pc1 := 3) (L1 := [.ref 0, .int x1]) (S1 := [.int (65 : Int32), .int x1]) (v1 := v) rfl ?_
  exact e_if (p := x1 = (65 : Int32)) rfl g1 g2
theorem bX5_addItem_6 {x1 : Int32} {v : mmM} {c : Nat} {K : mmO → mmM → Prop} (g1 : x1 = (66 : Int32) → mm_E kX5_addItem 28 [.ref 0, .int x1] [] v c K) (g2 : ¬ x1 = (66 : Int32) → mm_E kX5_addItem 12 [.ref 0, .int x1] [] v c K) : mm_E kX5_addItem 6 [.ref 0, .int x1] [] v c K := by
  refine e_run 2 (pc1 := 9) (L1 := [.ref 0, .int x1]) (S1 := [.int (66 : Int32), .int x1]) (v1 := v) rfl ?_
  exact e_if (p := x1 = (66 : Int32)) rfl g1 g2
theorem bX5_addItem_12 {x1 : Int32} {v : mmM} {c : Nat} {K : mmO → mmM → Prop} (g1 : x1 = (67 : Int32) → mm_E kX5_addItem 28 [.ref 0, .int x1] [] v c K) (g2 : ¬ x1 = (67 : Int32) → mm_E kX5_addItem 18 [.ref 0, .int x1] [] v c K) : mm_E kX5_addItem 12 [.ref 0, .int x1] [] v c K := by
  refine e_run 2 (pc1 := 15) (L1 := [.ref 0, .int x1]) (S1 := [.int (67 : Int32), .int x1]) (v1 := v) rfl ?_
  exact e_if (p := x1 = (67 : Int32)) rfl g1 g2
theorem bX5_addItem_18 {x1 : Int32} {v : mmM} {c : Nat} {K : mmO → mmM → Prop} (hc : c + 1 ≤ mm_mc kX5_addItem) (g : K (.inr 0) v) : mm_E kX5_addItem 18 [.ref 0, .int x1] [] v c K := by
  exact e_th (e := 0) rfl hc g
theorem bX5_addItem_28 {x1 : Int32} {v : mmM} {c : Nat} {K : mmO → mmM → Prop} (g1 : (v 1 0) < (6 : Int32) → mm_E kX5_addItem 50 [.ref 0, .int x1] [] v c K) (g2 : ¬ (v 1 0) < (6 : Int32) → mm_E kX5_addItem 40 [.ref 0, .int x1] [] v c K) : mm_E kX5_addItem 28 [.ref 0, .int x1] [] v c K := by
  refine e_run 4 (pc1 := 37) (L1 := [.ref 0, .int x1]) (S1 := [.int (6 : Int32), .int (v 1 0)]) (v1 := v) rfl ?_
  exact e_if (p := (v 1 0) < (6 : Int32)) rfl g1 g2
theorem bX5_addItem_40 {x1 : Int32} {v : mmM} {c : Nat} {K : mmO → mmM → Prop} (hc : c + 1 ≤ mm_mc kX5_addItem) (g : K (.inr 1) v) : mm_E kX5_addItem 40 [.ref 0, .int x1] [] v c K := by
  exact e_th (e := 1) rfl hc g
theorem bX5_addItem_50 {x1 : Int32} {v : mmM} {c : Nat} {K : mmO → mmM → Prop} (hc : c + mm_mc kX1_append ≤ mm_mc kX5_addItem) (g : mm_M kX1_append [.ref 1, .int x1] v (mm_Kc kX5_addItem 58 [.ref 0, .int x1] [] (c + mm_mc kX1_append) K)) : mm_E kX5_addItem 50 [.ref 0, .int x1] [] v c K := by
  refine e_run 3 (pc1 := 55) (L1 := [.ref 0, .int x1]) (S1 := [.int x1, .ref 1]) (v1 := v) rfl ?_
  exact e_cl (j := kX1_append) rfl hc g
theorem bX5_addItem_58 {x1 : Int32} {y0 : Int32} {v : mmM} {c : Nat} {K : mmO → mmM → Prop} (g : K (.inl (some (.int y0))) v) : mm_E kX5_addItem 58 [.ref 0, .int x1] [.int y0] v c K := by
  exact e_iret (ty := .int) rfl rfl rfl g
theorem bX5_addSubstitute_0 {x1 : Int32} {x2 : Int32} {x3 : Int32} {v : mmM} {c : Nat} {K : mmO → mmM → Prop} (hc : c + mm_mc kX5_requireItem ≤ mm_mc kX5_addSubstitute) (g : mm_M kX5_requireItem [.ref 0, .int x1] v (mm_Kc kX5_addSubstitute 5 [.ref 0, .int x1, .int x2, .int x3] [] (c + mm_mc kX5_requireItem) K)) : mm_E kX5_addSubstitute 0 [.ref 0, .int x1, .int x2, .int x3] [] v c K := by
  refine e_run 2 (pc1 := 2) (L1 := [.ref 0, .int x1, .int x2, .int x3]) (S1 := [.int x1, .ref 0]) (v1 := v) rfl ?_
  exact e_cl (j := kX5_requireItem) rfl hc g
theorem bX5_addSubstitute_5 {x1 : Int32} {x2 : Int32} {x3 : Int32} {v : mmM} {c : Nat} {K : mmO → mmM → Prop} (hc : c + mm_mc kX5_requireItem ≤ mm_mc kX5_addSubstitute) (g : mm_M kX5_requireItem [.ref 0, .int x2] v (mm_Kc kX5_addSubstitute 10 [.ref 0, .int x1, .int x2, .int x3] [] (c + mm_mc kX5_requireItem) K)) : mm_E kX5_addSubstitute 5 [.ref 0, .int x1, .int x2, .int x3] [] v c K := by
  refine e_run 2 (pc1 := 7) (L1 := [.ref 0, .int x1, .int x2, .int x3]) (S1 := [.int x2, .ref 0]) (v1 := v) rfl ?_
  exact e_cl (j := kX5_requireItem) rfl hc g
theorem bX5_addSubstitute_10 {x1 : Int32} {x2 : Int32} {x3 : Int32} {v : mmM} {c : Nat} {K : mmO → mmM → Prop} (hc : c + mm_mc kX5_requireBetween ≤ mm_mc kX5_addSubstitute) (g : mm_M kX5_requireBetween [.ref 0, .int x3, .int (1 : Int32), .int (9 : Int32)] v (mm_Kc kX5_addSubstitute 18 [.ref 0, .int x1, .int x2, .int x3] [] (c + mm_mc kX5_requireBetween) K)) : mm_E kX5_addSubstitute 10 [.ref 0, .int x1, .int x2, .int x3] [] v c K := by
  refine e_run 4 (pc1 := 15) (L1 := [.ref 0, .int x1, .int x2, .int x3]) (S1 := [.int (9 : Int32), .int (1 : Int32), .int x3, .ref 0]) (v1 := v) rfl ?_
  exact e_cl (j := kX5_requireBetween) rfl hc g
theorem bX5_addSubstitute_18 {x1 : Int32} {x2 : Int32} {x3 : Int32} {v : mmM} {c : Nat} {K : mmO → mmM → Prop} (g1 : x1 = x2 → mm_E kX5_addSubstitute 23 [.ref 0, .int x1, .int x2, .int x3] [] v c K) (g2 : ¬ x1 = x2 → mm_E kX5_addSubstitute 33 [.ref 0, .int x1, .int x2, .int x3] [] v c K) : mm_E kX5_addSubstitute 18 [.ref 0, .int x1, .int x2, .int x3] [] v c K := by
  refine e_run 2 (pc1 := 20) (L1 := [.ref 0, .int x1, .int x2, .int x3]) (S1 := [.int x2, .int x1]) (v1 := v) rfl ?_
  exact e_if (p := x1 = x2) rfl g1 g2
theorem bX5_addSubstitute_23 {x1 : Int32} {x2 : Int32} {x3 : Int32} {v : mmM} {c : Nat} {K : mmO → mmM → Prop} (hc : c + 1 ≤ mm_mc kX5_addSubstitute) (g : K (.inr 3) v) : mm_E kX5_addSubstitute 23 [.ref 0, .int x1, .int x2, .int x3] [] v c K := by
  exact e_th (e := 3) rfl hc g
theorem bX5_addSubstitute_33 {x1 : Int32} {x2 : Int32} {x3 : Int32} {v : mmM} {c : Nat} {K : mmO → mmM → Prop} (h1 : mm_in x1 6 = true) (h2 : mm_in x2 6 = true) (g1 : (v (10 + x1.toNatClampNeg) x2.toNatClampNeg) = 0 → mm_E kX5_addSubstitute 57 [.ref 0, .int x1, .int x2, .int x3] [] v c K) (g2 : ¬ (v (10 + x1.toNatClampNeg) x2.toNatClampNeg) = 0 → mm_E kX5_addSubstitute 47 [.ref 0, .int x1, .int x2, .int x3] [] v c K) : mm_E kX5_addSubstitute 33 [.ref 0, .int x1, .int x2, .int x3] [] v c K := by
  refine e_run 4 (pc1 := 41) (L1 := [.ref 0, .int x1, .int x2, .int x3]) (S1 := [.int x1, .ref 9]) (v1 := v) rfl ?_
  refine e_aald rfl rfl (by decide) h1 ?_
  refine e_run 1 (pc1 := 43) (L1 := [.ref 0, .int x1, .int x2, .int x3]) (S1 := [.int x2, .ref (10 + x1.toNatClampNeg)]) (v1 := v) rfl ?_
  refine e_iald rfl (mm_rows (P := fun x => mm_sh (10 + x) = (0, 6, 0, [])) (by decide +kernel) (mm_in_lt h1)) (by have := (mm_in_lt h1); show _ < 81; omega) h2 ?_
  exact e_if (p := (v (10 + x1.toNatClampNeg) x2.toNatClampNeg) = 0) rfl g1 g2
theorem bX5_addSubstitute_47 {x1 : Int32} {x2 : Int32} {x3 : Int32} {v : mmM} {c : Nat} {K : mmO → mmM → Prop} (hc : c + 1 ≤ mm_mc kX5_addSubstitute) (g : K (.inr 1) v) : mm_E kX5_addSubstitute 47 [.ref 0, .int x1, .int x2, .int x3] [] v c K := by
  exact e_th (e := 1) rfl hc g
theorem bX5_addSubstitute_57 {x1 : Int32} {x2 : Int32} {x3 : Int32} {v : mmM} {c : Nat} {K : mmO → mmM → Prop} (h1 : mm_in x1 6 = true) (h2 : mm_in x2 6 = true) (hc : c + mm_mc kX1_substitutesOf ≤ mm_mc kX5_addSubstitute) (g : mm_M kX1_substitutesOf [.ref 1, .int x1] (mm_up v (10 + x1.toNatClampNeg) x2.toNatClampNeg x3) (mm_Kc kX5_addSubstitute 77 [.ref 0, .int x1, .int x2, .int x3] [] (c + mm_mc kX1_substitutesOf) K)) : mm_E kX5_addSubstitute 57 [.ref 0, .int x1, .int x2, .int x3] [] v c K := by
  refine e_run 4 (pc1 := 65) (L1 := [.ref 0, .int x1, .int x2, .int x3]) (S1 := [.int x1, .ref 9]) (v1 := v) rfl ?_
  refine e_aald rfl rfl (by decide) h1 ?_
  refine e_run 2 (pc1 := 68) (L1 := [.ref 0, .int x1, .int x2, .int x3]) (S1 := [.int x3, .int x2, .ref (10 + x1.toNatClampNeg)]) (v1 := v) rfl ?_
  refine e_iast rfl (mm_rows (P := fun x => mm_sh (10 + x) = (0, 6, 0, [])) (by decide +kernel) (mm_in_lt h1)) (by have := (mm_in_lt h1); show _ < 81; omega) h2 ?_
  refine e_run 3 (pc1 := 74) (L1 := [.ref 0, .int x1, .int x2, .int x3]) (S1 := [.int x1, .ref 1]) (v1 := mm_up v (10 + x1.toNatClampNeg) x2.toNatClampNeg x3) rfl ?_
  exact e_cl (j := kX1_substitutesOf) rfl hc g
theorem bX5_addSubstitute_77 {x1 : Int32} {x2 : Int32} {x3 : Int32} {y0 : Int32} {v : mmM} {c : Nat} {K : mmO → mmM → Prop} (g : K (.inl (some (.int y0))) v) : mm_E kX5_addSubstitute 77 [.ref 0, .int x1, .int x2, .int x3] [.int y0] v c K := by
  exact e_iret (ty := .int) rfl rfl rfl g
theorem bX5_receive_0 {x1 : Int32} {x2 : Int32} {x3 : Int32} {x4 : Int32} {l5 : Value} {v : mmM} {c : Nat} {K : mmO → mmM → Prop} (hc : c + mm_mc kX5_requireItem ≤ mm_mc kX5_receive) (g : mm_M kX5_requireItem [.ref 0, .int x1] v (mm_Kc kX5_receive 5 [.ref 0, .int x1, .int x2, .int x3, .int x4, l5] [] (c + mm_mc kX5_requireItem) K)) : mm_E kX5_receive 0 [.ref 0, .int x1, .int x2, .int x3, .int x4, l5] [] v c K := by
  refine e_run 2 (pc1 := 2) (L1 := [.ref 0, .int x1, .int x2, .int x3, .int x4, l5]) (S1 := [.int x1, .ref 0]) (v1 := v) rfl ?_
  exact e_cl (j := kX5_requireItem) rfl hc g
theorem bX5_receive_5 {x1 : Int32} {x2 : Int32} {x3 : Int32} {x4 : Int32} {l5 : Value} {v : mmM} {c : Nat} {K : mmO → mmM → Prop} (hc : c + mm_mc kX5_requireBin ≤ mm_mc kX5_receive) (g : mm_M kX5_requireBin [.ref 0, .int x4] v (mm_Kc kX5_receive 11 [.ref 0, .int x1, .int x2, .int x3, .int x4, l5] [] (c + mm_mc kX5_requireBin) K)) : mm_E kX5_receive 5 [.ref 0, .int x1, .int x2, .int x3, .int x4, l5] [] v c K := by
  refine e_run 2 (pc1 := 8) (L1 := [.ref 0, .int x1, .int x2, .int x3, .int x4, l5]) (S1 := [.int x4, .ref 0]) (v1 := v) rfl ?_
  exact e_cl (j := kX5_requireBin) rfl hc g
theorem bX5_receive_11 {x1 : Int32} {x2 : Int32} {x3 : Int32} {x4 : Int32} {l5 : Value} {v : mmM} {c : Nat} {K : mmO → mmM → Prop} (hc : c + mm_mc kX5_requireBetween ≤ mm_mc kX5_receive) (g : mm_M kX5_requireBetween [.ref 0, .int x2, .int (1 : Int32), .int (30 : Int32)] v (mm_Kc kX5_receive 19 [.ref 0, .int x1, .int x2, .int x3, .int x4, l5] [] (c + mm_mc kX5_requireBetween) K)) : mm_E kX5_receive 11 [.ref 0, .int x1, .int x2, .int x3, .int x4, l5] [] v c K := by
  refine e_run 4 (pc1 := 16) (L1 := [.ref 0, .int x1, .int x2, .int x3, .int x4, l5]) (S1 := [.int (30 : Int32), .int (1 : Int32), .int x2, .ref 0]) (v1 := v) rfl ?_
  exact e_cl (j := kX5_requireBetween) rfl hc g
theorem bX5_receive_19 {x1 : Int32} {x2 : Int32} {x3 : Int32} {x4 : Int32} {l5 : Value} {v : mmM} {c : Nat} {K : mmO → mmM → Prop} (hc : c + mm_mc kX5_requireBetween ≤ mm_mc kX5_receive) (g : mm_M kX5_requireBetween [.ref 0, .int x3, .int (v 0 7), .int ((v 0 7) + (99 : Int32))] v (mm_Kc kX5_receive 35 [.ref 0, .int x1, .int x2, .int x3, .int x4, l5] [] (c + mm_mc kX5_requireBetween) K)) : mm_E kX5_receive 19 [.ref 0, .int x1, .int x2, .int x3, .int x4, l5] [] v c K := by
  refine e_run 8 (pc1 := 32) (L1 := [.ref 0, .int x1, .int x2, .int x3, .int x4, l5]) (S1 := [.int ((v 0 7) + (99 : Int32)), .int (v 0 7), .int x3, .ref 0]) (v1 := v) rfl ?_
  exact e_cl (j := kX5_requireBetween) rfl hc g
theorem bX5_receive_35 {x1 : Int32} {x2 : Int32} {x3 : Int32} {x4 : Int32} {l5 : Value} {v : mmM} {c : Nat} {K : mmO → mmM → Prop} (g1 : (v 2 0) < (24 : Int32) → mm_E kX5_receive 57 [.ref 0, .int x1, .int x2, .int x3, .int x4, l5] [] v c K) (g2 : ¬ (v 2 0) < (24 : Int32) → mm_E kX5_receive 47 [.ref 0, .int x1, .int x2, .int x3, .int x4, l5] [] v c K) : mm_E kX5_receive 35 [.ref 0, .int x1, .int x2, .int x3, .int x4, l5] [] v c K := by
  refine e_run 4 (pc1 := 44) (L1 := [.ref 0, .int x1, .int x2, .int x3, .int x4, l5]) (S1 := [.int (24 : Int32), .int (v 2 0)]) (v1 := v) rfl ?_
  exact e_if (p := (v 2 0) < (24 : Int32)) rfl g1 g2
theorem bX5_receive_47 {x1 : Int32} {x2 : Int32} {x3 : Int32} {x4 : Int32} {l5 : Value} {v : mmM} {c : Nat} {K : mmO → mmM → Prop} (hc : c + 1 ≤ mm_mc kX5_receive) (g : K (.inr 1) v) : mm_E kX5_receive 47 [.ref 0, .int x1, .int x2, .int x3, .int x4, l5] [] v c K := by
  exact e_th (e := 1) rfl hc g
theorem bX5_receive_57 {x1 : Int32} {x2 : Int32} {x3 : Int32} {x4 : Int32} {l5 : Value} {v : mmM} {c : Nat} {K : mmO → mmM → Prop} (hc : c + mm_mc kX5_requireEntrySpace ≤ mm_mc kX5_receive) (g : mm_M kX5_requireEntrySpace [.ref 0, .int (1 : Int32)] v (mm_Kc kX5_receive 62 [.ref 0, .int x1, .int x2, .int x3, .int x4, l5] [] (c + mm_mc kX5_requireEntrySpace) K)) : mm_E kX5_receive 57 [.ref 0, .int x1, .int x2, .int x3, .int x4, l5] [] v c K := by
  refine e_run 2 (pc1 := 59) (L1 := [.ref 0, .int x1, .int x2, .int x3, .int x4, l5]) (S1 := [.int (1 : Int32), .ref 0]) (v1 := v) rfl ?_
  exact e_cl (j := kX5_requireEntrySpace) rfl hc g
theorem bX5_receive_62 {x1 : Int32} {x2 : Int32} {x3 : Int32} {x4 : Int32} {l5 : Value} {v : mmM} {c : Nat} {K : mmO → mmM → Prop} (hc : c + mm_mc kX5_requireBinSpace ≤ mm_mc kX5_receive) (g : mm_M kX5_requireBinSpace [.ref 0, .int x4, .int x2] v (mm_Kc kX5_receive 69 [.ref 0, .int x1, .int x2, .int x3, .int x4, l5] [] (c + mm_mc kX5_requireBinSpace) K)) : mm_E kX5_receive 62 [.ref 0, .int x1, .int x2, .int x3, .int x4, l5] [] v c K := by
  refine e_run 3 (pc1 := 66) (L1 := [.ref 0, .int x1, .int x2, .int x3, .int x4, l5]) (S1 := [.int x2, .int x4, .ref 0]) (v1 := v) rfl ?_
  exact e_cl (j := kX5_requireBinSpace) rfl hc g
theorem bX5_receive_69 {x1 : Int32} {x2 : Int32} {x3 : Int32} {x4 : Int32} {l5 : Value} {v : mmM} {c : Nat} {K : mmO → mmM → Prop} (hc : c + mm_mc kX0_appendLot ≤ mm_mc kX5_receive) (g : mm_M kX0_appendLot [.ref 2, .int x1, .int x3] v (mm_Kc kX5_receive 78 [.ref 0, .int x1, .int x2, .int x3, .int x4, l5] [] (c + mm_mc kX0_appendLot) K)) : mm_E kX5_receive 69 [.ref 0, .int x1, .int x2, .int x3, .int x4, l5] [] v c K := by
  refine e_run 4 (pc1 := 75) (L1 := [.ref 0, .int x1, .int x2, .int x3, .int x4, l5]) (S1 := [.int x3, .int x1, .ref 2]) (v1 := v) rfl ?_
  exact e_cl (j := kX0_appendLot) rfl hc g
theorem bX5_receive_78 {x1 : Int32} {x2 : Int32} {x3 : Int32} {x4 : Int32} {l5 : Value} {y0 : Int32} {v : mmM} {c : Nat} {K : mmO → mmM → Prop} (hc : c + mm_mc kX0_change ≤ mm_mc kX5_receive) (g : mm_M kX0_change [.ref 2, .int y0, .int x4, .int x2] v (mm_Kc kX5_receive 92 [.ref 0, .int x1, .int x2, .int x3, .int x4, .int y0] [] (c + mm_mc kX0_change) K)) : mm_E kX5_receive 78 [.ref 0, .int x1, .int x2, .int x3, .int x4, l5] [.int y0] v c K := by
  refine e_run 6 (pc1 := 89) (L1 := [.ref 0, .int x1, .int x2, .int x3, .int x4, .int y0]) (S1 := [.int x2, .int x4, .int y0, .ref 2]) (v1 := v) rfl ?_
  exact e_cl (j := kX0_change) rfl hc g
theorem bX5_receive_92 {x1 : Int32} {x2 : Int32} {x3 : Int32} {x4 : Int32} {x5 : Int32} {v : mmM} {c : Nat} {K : mmO → mmM → Prop} (hc : c + mm_mc kX2_write ≤ mm_mc kX5_receive) (g : mm_M kX2_write [.ref 4, .int (114 : Int32), .int x5, .int (-1 : Int32), .int x4, .int x2, .int (v 0 7)] v (mm_Kc kX5_receive 111 [.ref 0, .int x1, .int x2, .int x3, .int x4, .int x5] [] (c + mm_mc kX2_write) K)) : mm_E kX5_receive 92 [.ref 0, .int x1, .int x2, .int x3, .int x4, .int x5] [] v c K := by
  refine e_run 9 (pc1 := 108) (L1 := [.ref 0, .int x1, .int x2, .int x3, .int x4, .int x5]) (S1 := [.int (v 0 7), .int x2, .int x4, .int (-1 : Int32), .int x5, .int (114 : Int32), .ref 4]) (v1 := v) rfl ?_
  exact e_cl (j := kX2_write) rfl hc g
theorem bX5_receive_111 {x1 : Int32} {x2 : Int32} {x3 : Int32} {x4 : Int32} {x5 : Int32} {v : mmM} {c : Nat} {K : mmO → mmM → Prop} (g : K (.inl (some (.int x5))) v) : mm_E kX5_receive 111 [.ref 0, .int x1, .int x2, .int x3, .int x4, .int x5] [] v c K := by
  refine e_run 1 (pc1 := 113) (L1 := [.ref 0, .int x1, .int x2, .int x3, .int x4, .int x5]) (S1 := [.int x5]) (v1 := v) rfl ?_
  exact e_iret (ty := .int) rfl rfl rfl g
theorem bX5_move_0 {x1 : Int32} {x2 : Int32} {x3 : Int32} {x4 : Int32} {v : mmM} {c : Nat} {K : mmO → mmM → Prop} (hc : c + mm_mc kX5_requireLot ≤ mm_mc kX5_move) (g : mm_M kX5_requireLot [.ref 0, .int x1] v (mm_Kc kX5_move 5 [.ref 0, .int x1, .int x2, .int x3, .int x4] [] (c + mm_mc kX5_requireLot) K)) : mm_E kX5_move 0 [.ref 0, .int x1, .int x2, .int x3, .int x4] [] v c K := by
  refine e_run 2 (pc1 := 2) (L1 := [.ref 0, .int x1, .int x2, .int x3, .int x4]) (S1 := [.int x1, .ref 0]) (v1 := v) rfl ?_
  exact e_cl (j := kX5_requireLot) rfl hc g
theorem bX5_move_5 {x1 : Int32} {x2 : Int32} {x3 : Int32} {x4 : Int32} {v : mmM} {c : Nat} {K : mmO → mmM → Prop} (hc : c + mm_mc kX5_requireBin ≤ mm_mc kX5_move) (g : mm_M kX5_requireBin [.ref 0, .int x2] v (mm_Kc kX5_move 10 [.ref 0, .int x1, .int x2, .int x3, .int x4] [] (c + mm_mc kX5_requireBin) K)) : mm_E kX5_move 5 [.ref 0, .int x1, .int x2, .int x3, .int x4] [] v c K := by
  refine e_run 2 (pc1 := 7) (L1 := [.ref 0, .int x1, .int x2, .int x3, .int x4]) (S1 := [.int x2, .ref 0]) (v1 := v) rfl ?_
  exact e_cl (j := kX5_requireBin) rfl hc g
theorem bX5_move_10 {x1 : Int32} {x2 : Int32} {x3 : Int32} {x4 : Int32} {v : mmM} {c : Nat} {K : mmO → mmM → Prop} (hc : c + mm_mc kX5_requireBin ≤ mm_mc kX5_move) (g : mm_M kX5_requireBin [.ref 0, .int x3] v (mm_Kc kX5_move 15 [.ref 0, .int x1, .int x2, .int x3, .int x4] [] (c + mm_mc kX5_requireBin) K)) : mm_E kX5_move 10 [.ref 0, .int x1, .int x2, .int x3, .int x4] [] v c K := by
  refine e_run 2 (pc1 := 12) (L1 := [.ref 0, .int x1, .int x2, .int x3, .int x4]) (S1 := [.int x3, .ref 0]) (v1 := v) rfl ?_
  exact e_cl (j := kX5_requireBin) rfl hc g
theorem bX5_move_15 {x1 : Int32} {x2 : Int32} {x3 : Int32} {x4 : Int32} {v : mmM} {c : Nat} {K : mmO → mmM → Prop} (hc : c + mm_mc kX5_requireBetween ≤ mm_mc kX5_move) (g : mm_M kX5_requireBetween [.ref 0, .int x4, .int (1 : Int32), .int (30 : Int32)] v (mm_Kc kX5_move 24 [.ref 0, .int x1, .int x2, .int x3, .int x4] [] (c + mm_mc kX5_requireBetween) K)) : mm_E kX5_move 15 [.ref 0, .int x1, .int x2, .int x3, .int x4] [] v c K := by
  refine e_run 4 (pc1 := 21) (L1 := [.ref 0, .int x1, .int x2, .int x3, .int x4]) (S1 := [.int (30 : Int32), .int (1 : Int32), .int x4, .ref 0]) (v1 := v) rfl ?_
  exact e_cl (j := kX5_requireBetween) rfl hc g
theorem bX5_move_24 {x1 : Int32} {x2 : Int32} {x3 : Int32} {x4 : Int32} {v : mmM} {c : Nat} {K : mmO → mmM → Prop} (hc : c + mm_mc kX5_requireEntrySpace ≤ mm_mc kX5_move) (g : mm_M kX5_requireEntrySpace [.ref 0, .int (1 : Int32)] v (mm_Kc kX5_move 29 [.ref 0, .int x1, .int x2, .int x3, .int x4] [] (c + mm_mc kX5_requireEntrySpace) K)) : mm_E kX5_move 24 [.ref 0, .int x1, .int x2, .int x3, .int x4] [] v c K := by
  refine e_run 2 (pc1 := 26) (L1 := [.ref 0, .int x1, .int x2, .int x3, .int x4]) (S1 := [.int (1 : Int32), .ref 0]) (v1 := v) rfl ?_
  exact e_cl (j := kX5_requireEntrySpace) rfl hc g
theorem bX5_move_29 {x1 : Int32} {x2 : Int32} {x3 : Int32} {x4 : Int32} {v : mmM} {c : Nat} {K : mmO → mmM → Prop} (h1 : mm_in x1 24 = true) (h2 : mm_in x2 40 = true) (g1 : x4 ≤ (v (20 + x1.toNatClampNeg) x2.toNatClampNeg) → mm_E kX5_move 55 [.ref 0, .int x1, .int x2, .int x3, .int x4] [] v c K) (g2 : ¬ x4 ≤ (v (20 + x1.toNatClampNeg) x2.toNatClampNeg) → mm_E kX5_move 45 [.ref 0, .int x1, .int x2, .int x3, .int x4] [] v c K) : mm_E kX5_move 29 [.ref 0, .int x1, .int x2, .int x3, .int x4] [] v c K := by
  refine e_run 4 (pc1 := 37) (L1 := [.ref 0, .int x1, .int x2, .int x3, .int x4]) (S1 := [.int x1, .ref 19]) (v1 := v) rfl ?_
  refine e_aald rfl rfl (by decide) h1 ?_
  refine e_run 1 (pc1 := 39) (L1 := [.ref 0, .int x1, .int x2, .int x3, .int x4]) (S1 := [.int x2, .ref (20 + x1.toNatClampNeg)]) (v1 := v) rfl ?_
  refine e_iald rfl (mm_rows (P := fun x => mm_sh (20 + x) = (0, 40, 0, [])) (by decide +kernel) (mm_in_lt h1)) (by have := (mm_in_lt h1); show _ < 81; omega) h2 ?_
  refine e_run 1 (pc1 := 42) (L1 := [.ref 0, .int x1, .int x2, .int x3, .int x4]) (S1 := [.int x4, .int (v (20 + x1.toNatClampNeg) x2.toNatClampNeg)]) (v1 := v) rfl ?_
  exact e_if (p := x4 ≤ (v (20 + x1.toNatClampNeg) x2.toNatClampNeg)) rfl g1 g2
theorem bX5_move_45 {x1 : Int32} {x2 : Int32} {x3 : Int32} {x4 : Int32} {v : mmM} {c : Nat} {K : mmO → mmM → Prop} (hc : c + 1 ≤ mm_mc kX5_move) (g : K (.inr 4) v) : mm_E kX5_move 45 [.ref 0, .int x1, .int x2, .int x3, .int x4] [] v c K := by
  exact e_th (e := 4) rfl hc g
theorem bX5_move_55 {x1 : Int32} {x2 : Int32} {x3 : Int32} {x4 : Int32} {v : mmM} {c : Nat} {K : mmO → mmM → Prop} (g1 : x2 = x3 → mm_E kX5_move 60 [.ref 0, .int x1, .int x2, .int x3, .int x4] [] v c K) (g2 : ¬ x2 = x3 → mm_E kX5_move 70 [.ref 0, .int x1, .int x2, .int x3, .int x4] [] v c K) : mm_E kX5_move 55 [.ref 0, .int x1, .int x2, .int x3, .int x4] [] v c K := by
  refine e_run 2 (pc1 := 57) (L1 := [.ref 0, .int x1, .int x2, .int x3, .int x4]) (S1 := [.int x3, .int x2]) (v1 := v) rfl ?_
  exact e_if (p := x2 = x3) rfl g1 g2
theorem bX5_move_60 {x1 : Int32} {x2 : Int32} {x3 : Int32} {x4 : Int32} {v : mmM} {c : Nat} {K : mmO → mmM → Prop} (hc : c + 1 ≤ mm_mc kX5_move) (g : K (.inr 3) v) : mm_E kX5_move 60 [.ref 0, .int x1, .int x2, .int x3, .int x4] [] v c K := by
  exact e_th (e := 3) rfl hc g
theorem bX5_move_70 {x1 : Int32} {x2 : Int32} {x3 : Int32} {x4 : Int32} {v : mmM} {c : Nat} {K : mmO → mmM → Prop} (hc : c + mm_mc kX5_requireBinSpace ≤ mm_mc kX5_move) (g : mm_M kX5_requireBinSpace [.ref 0, .int x3, .int x4] v (mm_Kc kX5_move 77 [.ref 0, .int x1, .int x2, .int x3, .int x4] [] (c + mm_mc kX5_requireBinSpace) K)) : mm_E kX5_move 70 [.ref 0, .int x1, .int x2, .int x3, .int x4] [] v c K := by
  refine e_run 3 (pc1 := 74) (L1 := [.ref 0, .int x1, .int x2, .int x3, .int x4]) (S1 := [.int x4, .int x3, .ref 0]) (v1 := v) rfl ?_
  exact e_cl (j := kX5_requireBinSpace) rfl hc g
theorem bX5_move_77 {x1 : Int32} {x2 : Int32} {x3 : Int32} {x4 : Int32} {v : mmM} {c : Nat} {K : mmO → mmM → Prop} (hc : c + mm_mc kX0_change ≤ mm_mc kX5_move) (g : mm_M kX0_change [.ref 2, .int x1, .int x2, .int (-x4)] v (mm_Kc kX5_move 89 [.ref 0, .int x1, .int x2, .int x3, .int x4] [] (c + mm_mc kX0_change) K)) : mm_E kX5_move 77 [.ref 0, .int x1, .int x2, .int x3, .int x4] [] v c K := by
  refine e_run 6 (pc1 := 86) (L1 := [.ref 0, .int x1, .int x2, .int x3, .int x4]) (S1 := [.int (-x4), .int x2, .int x1, .ref 2]) (v1 := v) rfl ?_
  exact e_cl (j := kX0_change) rfl hc g
theorem bX5_move_89 {x1 : Int32} {x2 : Int32} {x3 : Int32} {x4 : Int32} {v : mmM} {c : Nat} {K : mmO → mmM → Prop} (hc : c + mm_mc kX0_change ≤ mm_mc kX5_move) (g : mm_M kX0_change [.ref 2, .int x1, .int x3, .int x4] v (mm_Kc kX5_move 100 [.ref 0, .int x1, .int x2, .int x3, .int x4] [] (c + mm_mc kX0_change) K)) : mm_E kX5_move 89 [.ref 0, .int x1, .int x2, .int x3, .int x4] [] v c K := by
  refine e_run 5 (pc1 := 97) (L1 := [.ref 0, .int x1, .int x2, .int x3, .int x4]) (S1 := [.int x4, .int x3, .int x1, .ref 2]) (v1 := v) rfl ?_
  exact e_cl (j := kX0_change) rfl hc g
theorem bX5_move_100 {x1 : Int32} {x2 : Int32} {x3 : Int32} {x4 : Int32} {v : mmM} {c : Nat} {K : mmO → mmM → Prop} (hc : c + mm_mc kX2_write ≤ mm_mc kX5_move) (g : mm_M kX2_write [.ref 4, .int (109 : Int32), .int x1, .int x2, .int x3, .int x4, .int (v 0 7)] v (mm_Kc kX5_move 118 [.ref 0, .int x1, .int x2, .int x3, .int x4] [] (c + mm_mc kX2_write) K)) : mm_E kX5_move 100 [.ref 0, .int x1, .int x2, .int x3, .int x4] [] v c K := by
  refine e_run 9 (pc1 := 115) (L1 := [.ref 0, .int x1, .int x2, .int x3, .int x4]) (S1 := [.int (v 0 7), .int x4, .int x3, .int x2, .int x1, .int (109 : Int32), .ref 4]) (v1 := v) rfl ?_
  exact e_cl (j := kX2_write) rfl hc g
theorem bX5_move_118 {x1 : Int32} {x2 : Int32} {x3 : Int32} {x4 : Int32} {v : mmM} {c : Nat} {K : mmO → mmM → Prop} (h1 : mm_in x1 24 = true) (h2 : mm_in x3 40 = true) (g : K (.inl (some (.int (v (20 + x1.toNatClampNeg) x3.toNatClampNeg)))) v) : mm_E kX5_move 118 [.ref 0, .int x1, .int x2, .int x3, .int x4] [] v c K := by
  refine e_run 4 (pc1 := 126) (L1 := [.ref 0, .int x1, .int x2, .int x3, .int x4]) (S1 := [.int x1, .ref 19]) (v1 := v) rfl ?_
  refine e_aald rfl rfl (by decide) h1 ?_
  refine e_run 1 (pc1 := 128) (L1 := [.ref 0, .int x1, .int x2, .int x3, .int x4]) (S1 := [.int x3, .ref (20 + x1.toNatClampNeg)]) (v1 := v) rfl ?_
  refine e_iald rfl (mm_rows (P := fun x => mm_sh (20 + x) = (0, 40, 0, [])) (by decide +kernel) (mm_in_lt h1)) (by have := (mm_in_lt h1); show _ < 81; omega) h2 ?_
  exact e_iret (ty := .int) rfl rfl rfl g
theorem bX5_dispose_0 {x1 : Int32} {l2 : Value} {l3 : Value} {l4 : Value} {l5 : Value} {v : mmM} {c : Nat} {K : mmO → mmM → Prop} (hc : c + mm_mc kX5_requireLot ≤ mm_mc kX5_dispose) (g : mm_M kX5_requireLot [.ref 0, .int x1] v (mm_Kc kX5_dispose 5 [.ref 0, .int x1, l2, l3, l4, l5] [] (c + mm_mc kX5_requireLot) K)) : mm_E kX5_dispose 0 [.ref 0, .int x1, l2, l3, l4, l5] [] v c K := by
  refine e_run 2 (pc1 := 2) (L1 := [.ref 0, .int x1, l2, l3, l4, l5]) (S1 := [.int x1, .ref 0]) (v1 := v) rfl ?_
  exact e_cl (j := kX5_requireLot) rfl hc g
theorem bX5_dispose_5 {x1 : Int32} {l2 : Value} {l3 : Value} {l4 : Value} {l5 : Value} {v : mmM} {c : Nat} {K : mmO → mmM → Prop} (h1 : mm_in x1 24 = true) (g1 : (v 44 x1.toNatClampNeg) = 0 → mm_E kX5_dispose 19 [.ref 0, .int x1, .int (v 44 x1.toNatClampNeg), l3, l4, l5] [] v c K) (g2 : ¬ (v 44 x1.toNatClampNeg) = 0 → mm_E kX5_dispose 29 [.ref 0, .int x1, .int (v 44 x1.toNatClampNeg), l3, l4, l5] [] v c K) : mm_E kX5_dispose 5 [.ref 0, .int x1, l2, l3, l4, l5] [] v c K := by
  refine e_run 4 (pc1 := 13) (L1 := [.ref 0, .int x1, l2, l3, l4, l5]) (S1 := [.int x1, .ref 44]) (v1 := v) rfl ?_
  refine e_iald rfl rfl (by decide) h1 ?_
  refine e_run 2 (pc1 := 16) (L1 := [.ref 0, .int x1, .int (v 44 x1.toNatClampNeg), l3, l4, l5]) (S1 := [.int (v 44 x1.toNatClampNeg)]) (v1 := v) rfl ?_
  exact e_if (p := (v 44 x1.toNatClampNeg) = 0) rfl g1 g2
theorem bX5_dispose_19 {x1 : Int32} {x2 : Int32} {l3 : Value} {l4 : Value} {l5 : Value} {v : mmM} {c : Nat} {K : mmO → mmM → Prop} (hc : c + 1 ≤ mm_mc kX5_dispose) (g : K (.inr 4) v) : mm_E kX5_dispose 19 [.ref 0, .int x1, .int x2, l3, l4, l5] [] v c K := by
  exact e_th (e := 4) rfl hc g
theorem bX5_dispose_29 {x1 : Int32} {x2 : Int32} {l3 : Value} {l4 : Value} {l5 : Value} {v : mmM} {c : Nat} {K : mmO → mmM → Prop} (h1 : mm_in x1 24 = true) (g1 : (v 17 x1.toNatClampNeg) < (v 0 7) → mm_E kX5_dispose 55 [.ref 0, .int x1, .int x2, l3, l4, l5] [] v c K) (g2 : ¬ (v 17 x1.toNatClampNeg) < (v 0 7) → mm_E kX5_dispose 45 [.ref 0, .int x1, .int x2, l3, l4, l5] [] v c K) : mm_E kX5_dispose 29 [.ref 0, .int x1, .int x2, l3, l4, l5] [] v c K := by
  refine e_run 4 (pc1 := 37) (L1 := [.ref 0, .int x1, .int x2, l3, l4, l5]) (S1 := [.int x1, .ref 17]) (v1 := v) rfl ?_
  refine e_iald rfl rfl (by decide) h1 ?_
  refine e_run 2 (pc1 := 42) (L1 := [.ref 0, .int x1, .int x2, l3, l4, l5]) (S1 := [.int (v 0 7), .int (v 17 x1.toNatClampNeg)]) (v1 := v) rfl ?_
  exact e_if (p := (v 17 x1.toNatClampNeg) < (v 0 7)) rfl g1 g2
theorem bX5_dispose_45 {x1 : Int32} {x2 : Int32} {l3 : Value} {l4 : Value} {l5 : Value} {v : mmM} {c : Nat} {K : mmO → mmM → Prop} (hc : c + 1 ≤ mm_mc kX5_dispose) (g : K (.inr 3) v) : mm_E kX5_dispose 45 [.ref 0, .int x1, .int x2, l3, l4, l5] [] v c K := by
  exact e_th (e := 3) rfl hc g
theorem bX5_dispose_55 {x1 : Int32} {x2 : Int32} {l3 : Value} {l4 : Value} {l5 : Value} {v : mmM} {c : Nat} {K : mmO → mmM → Prop} (hc : c + mm_mc kX0_binsWith ≤ mm_mc kX5_dispose) (g : mm_M kX0_binsWith [.ref 2, .int x1] v (mm_Kc kX5_dispose 64 [.ref 0, .int x1, .int x2, l3, l4, l5] [.ref 0] (c + mm_mc kX0_binsWith) K)) : mm_E kX5_dispose 55 [.ref 0, .int x1, .int x2, l3, l4, l5] [] v c K := by
  refine e_run 4 (pc1 := 61) (L1 := [.ref 0, .int x1, .int x2, l3, l4, l5]) (S1 := [.int x1, .ref 2, .ref 0]) (v1 := v) rfl ?_
  exact e_cl (j := kX0_binsWith) rfl hc g
theorem bX5_dispose_64 {x1 : Int32} {x2 : Int32} {l3 : Value} {l4 : Value} {l5 : Value} {y1 : Int32} {v : mmM} {c : Nat} {K : mmO → mmM → Prop} (hc : c + mm_mc kX5_requireEntrySpace ≤ mm_mc kX5_dispose) (g : mm_M kX5_requireEntrySpace [.ref 0, .int y1] v (mm_Kc kX5_dispose 67 [.ref 0, .int x1, .int x2, l3, l4, l5] [] (c + mm_mc kX5_requireEntrySpace) K)) : mm_E kX5_dispose 64 [.ref 0, .int x1, .int x2, l3, l4, l5] [.int y1, .ref 0] v c K := by
  exact e_cl (j := kX5_requireEntrySpace) rfl hc g
theorem bX5_dispose_67 {x1 : Int32} {x2 : Int32} {l3 : Value} {l4 : Value} {l5 : Value} {v : mmM} {c : Nat} {K : mmO → mmM → Prop} (g : mm_E kX5_dispose 69 [.ref 0, .int x1, .int x2, .int (0 : Int32), l4, l5] [] v c K) : mm_E kX5_dispose 67 [.ref 0, .int x1, .int x2, l3, l4, l5] [] v c K := by
  refine e_run 2 (pc1 := 69) (L1 := [.ref 0, .int x1, .int x2, .int (0 : Int32), l4, l5]) (S1 := []) (v1 := v) rfl ?_
  exact g
theorem bX5_dispose_69 {x1 : Int32} {x2 : Int32} {x3 : Int32} {l4 : Value} {l5 : Value} {v : mmM} {c : Nat} {K : mmO → mmM → Prop} (g1 : (40 : Int32) ≤ x3 → mm_E kX5_dispose 117 [.ref 0, .int x1, .int x2, .int x3, l4, l5] [] v c K) (g2 : ¬ (40 : Int32) ≤ x3 → mm_E kX5_dispose 75 [.ref 0, .int x1, .int x2, .int x3, l4, l5] [] v c K) : mm_E kX5_dispose 69 [.ref 0, .int x1, .int x2, .int x3, l4, l5] [] v c K := by
  refine e_run 2 (pc1 := 72) (L1 := [.ref 0, .int x1, .int x2, .int x3, l4, l5]) (S1 := [.int (40 : Int32), .int x3]) (v1 := v) rfl ?_
  exact e_if (p := (40 : Int32) ≤ x3) rfl g1 g2
theorem bX5_dispose_75 {x1 : Int32} {x2 : Int32} {x3 : Int32} {l4 : Value} {l5 : Value} {v : mmM} {c : Nat} {K : mmO → mmM → Prop} (hc : c + mm_mc kX5_alongRoute ≤ mm_mc kX5_dispose) (g : mm_M kX5_alongRoute [.int x3] v (mm_Kc kX5_dispose 79 [.ref 0, .int x1, .int x2, .int x3, l4, l5] [] (c + mm_mc kX5_alongRoute) K)) : mm_E kX5_dispose 75 [.ref 0, .int x1, .int x2, .int x3, l4, l5] [] v c K := by
  refine e_run 1 (pc1 := 76) (L1 := [.ref 0, .int x1, .int x2, .int x3, l4, l5]) (S1 := [.int x3]) (v1 := v) rfl ?_
  exact e_cl (j := kX5_alongRoute) rfl hc g
theorem bX5_dispose_79 {x1 : Int32} {x2 : Int32} {x3 : Int32} {l4 : Value} {l5 : Value} {y0 : Int32} {v : mmM} {c : Nat} {K : mmO → mmM → Prop} (h1 : mm_in x1 24 = true) (h2 : mm_in y0 40 = true) (g1 : (v (20 + x1.toNatClampNeg) y0.toNatClampNeg) ≤ 0 → mm_E kX5_dispose 111 [.ref 0, .int x1, .int x2, .int x3, .int y0, .int (v (20 + x1.toNatClampNeg) y0.toNatClampNeg)] [] v c K) (g2 : ¬ (v (20 + x1.toNatClampNeg) y0.toNatClampNeg) ≤ 0 → mm_E kX5_dispose 100 [.ref 0, .int x1, .int x2, .int x3, .int y0, .int (v (20 + x1.toNatClampNeg) y0.toNatClampNeg)] [] v c K) : mm_E kX5_dispose 79 [.ref 0, .int x1, .int x2, .int x3, l4, l5] [.int y0] v c K := by
  refine e_run 5 (pc1 := 89) (L1 := [.ref 0, .int x1, .int x2, .int x3, .int y0, l5]) (S1 := [.int x1, .ref 19]) (v1 := v) rfl ?_
  refine e_aald rfl rfl (by decide) h1 ?_
  refine e_run 1 (pc1 := 92) (L1 := [.ref 0, .int x1, .int x2, .int x3, .int y0, l5]) (S1 := [.int y0, .ref (20 + x1.toNatClampNeg)]) (v1 := v) rfl ?_
  refine e_iald rfl (mm_rows (P := fun x => mm_sh (20 + x) = (0, 40, 0, [])) (by decide +kernel) (mm_in_lt h1)) (by have := (mm_in_lt h1); show _ < 81; omega) h2 ?_
  refine e_run 2 (pc1 := 97) (L1 := [.ref 0, .int x1, .int x2, .int x3, .int y0, .int (v (20 + x1.toNatClampNeg) y0.toNatClampNeg)]) (S1 := [.int (v (20 + x1.toNatClampNeg) y0.toNatClampNeg)]) (v1 := v) rfl ?_
  exact e_if (p := (v (20 + x1.toNatClampNeg) y0.toNatClampNeg) ≤ 0) rfl g1 g2
theorem bX5_dispose_100 {x1 : Int32} {x2 : Int32} {x3 : Int32} {x4 : Int32} {x5 : Int32} {v : mmM} {c : Nat} {K : mmO → mmM → Prop} (hc : c + mm_mc kX5_takeOut ≤ mm_mc kX5_dispose) (g : mm_M kX5_takeOut [.ref 0, .int (100 : Int32), .int x1, .int x4, .int x5] v (mm_Kc kX5_dispose 111 [.ref 0, .int x1, .int x2, .int x3, .int x4, .int x5] [] (c + mm_mc kX5_takeOut) K)) : mm_E kX5_dispose 100 [.ref 0, .int x1, .int x2, .int x3, .int x4, .int x5] [] v c K := by
  refine e_run 5 (pc1 := 108) (L1 := [.ref 0, .int x1, .int x2, .int x3, .int x4, .int x5]) (S1 := [.int x5, .int x4, .int x1, .int (100 : Int32), .ref 0]) (v1 := v) rfl ?_
  exact e_cl (j := kX5_takeOut) rfl hc g
theorem bX5_dispose_111 {x1 : Int32} {x2 : Int32} {x3 : Int32} {x4 : Int32} {x5 : Int32} {v : mmM} {c : Nat} {K : mmO → mmM → Prop} (g : mm_E kX5_dispose 69 [.ref 0, .int x1, .int x2, .int (x3 + (1 : Int32)), .int x4, .int x5] [] v c K) : mm_E kX5_dispose 111 [.ref 0, .int x1, .int x2, .int x3, .int x4, .int x5] [] v c K := by
  refine e_run 2 (pc1 := 69) (L1 := [.ref 0, .int x1, .int x2, .int (x3 + (1 : Int32)), .int x4, .int x5]) (S1 := []) (v1 := v) rfl ?_
  exact g
theorem bX5_dispose_117 {x1 : Int32} {x2 : Int32} {x3 : Int32} {l4 : Value} {l5 : Value} {v : mmM} {c : Nat} {K : mmO → mmM → Prop} (g : K (.inl (some (.int x2))) v) : mm_E kX5_dispose 117 [.ref 0, .int x1, .int x2, .int x3, l4, l5] [] v c K := by
  refine e_run 1 (pc1 := 118) (L1 := [.ref 0, .int x1, .int x2, .int x3, l4, l5]) (S1 := [.int x2]) (v1 := v) rfl ?_
  exact e_iret (ty := .int) rfl rfl rfl g
theorem bX5_count_0 {x1 : Int32} {x2 : Int32} {x3 : Int32} {l4 : Value} {v : mmM} {c : Nat} {K : mmO → mmM → Prop} (hc : c + mm_mc kX5_requireBin ≤ mm_mc kX5_count) (g : mm_M kX5_requireBin [.ref 0, .int x1] v (mm_Kc kX5_count 5 [.ref 0, .int x1, .int x2, .int x3, l4] [] (c + mm_mc kX5_requireBin) K)) : mm_E kX5_count 0 [.ref 0, .int x1, .int x2, .int x3, l4] [] v c K := by
  refine e_run 2 (pc1 := 2) (L1 := [.ref 0, .int x1, .int x2, .int x3, l4]) (S1 := [.int x1, .ref 0]) (v1 := v) rfl ?_
  exact e_cl (j := kX5_requireBin) rfl hc g
theorem bX5_count_5 {x1 : Int32} {x2 : Int32} {x3 : Int32} {l4 : Value} {v : mmM} {c : Nat} {K : mmO → mmM → Prop} (hc : c + mm_mc kX5_requireLot ≤ mm_mc kX5_count) (g : mm_M kX5_requireLot [.ref 0, .int x2] v (mm_Kc kX5_count 10 [.ref 0, .int x1, .int x2, .int x3, l4] [] (c + mm_mc kX5_requireLot) K)) : mm_E kX5_count 5 [.ref 0, .int x1, .int x2, .int x3, l4] [] v c K := by
  refine e_run 2 (pc1 := 7) (L1 := [.ref 0, .int x1, .int x2, .int x3, l4]) (S1 := [.int x2, .ref 0]) (v1 := v) rfl ?_
  exact e_cl (j := kX5_requireLot) rfl hc g
theorem bX5_count_10 {x1 : Int32} {x2 : Int32} {x3 : Int32} {l4 : Value} {v : mmM} {c : Nat} {K : mmO → mmM → Prop} (hc : c + mm_mc kX5_requireBetween ≤ mm_mc kX5_count) (g : mm_M kX5_requireBetween [.ref 0, .int x3, .int (0 : Int32), .int (30 : Int32)] v (mm_Kc kX5_count 18 [.ref 0, .int x1, .int x2, .int x3, l4] [] (c + mm_mc kX5_requireBetween) K)) : mm_E kX5_count 10 [.ref 0, .int x1, .int x2, .int x3, l4] [] v c K := by
  refine e_run 4 (pc1 := 15) (L1 := [.ref 0, .int x1, .int x2, .int x3, l4]) (S1 := [.int (30 : Int32), .int (0 : Int32), .int x3, .ref 0]) (v1 := v) rfl ?_
  exact e_cl (j := kX5_requireBetween) rfl hc g
theorem bX5_count_18 {x1 : Int32} {x2 : Int32} {x3 : Int32} {l4 : Value} {v : mmM} {c : Nat} {K : mmO → mmM → Prop} (h1 : mm_in x2 24 = true) (h2 : mm_in x1 40 = true) (hc : c + mm_mc kX5_requireBinSpace ≤ mm_mc kX5_count) (g : mm_M kX5_requireBinSpace [.ref 0, .int x1, .int (x3 - (v (20 + x2.toNatClampNeg) x1.toNatClampNeg))] v (mm_Kc kX5_count 40 [.ref 0, .int x1, .int x2, .int x3, .int (x3 - (v (20 + x2.toNatClampNeg) x1.toNatClampNeg))] [] (c + mm_mc kX5_requireBinSpace) K)) : mm_E kX5_count 18 [.ref 0, .int x1, .int x2, .int x3, l4] [] v c K := by
  refine e_run 5 (pc1 := 27) (L1 := [.ref 0, .int x1, .int x2, .int x3, l4]) (S1 := [.int x2, .ref 19, .int x3]) (v1 := v) rfl ?_
  refine e_aald rfl rfl (by decide) h1 ?_
  refine e_run 1 (pc1 := 29) (L1 := [.ref 0, .int x1, .int x2, .int x3, l4]) (S1 := [.int x1, .ref (20 + x2.toNatClampNeg), .int x3]) (v1 := v) rfl ?_
  refine e_iald rfl (mm_rows (P := fun x => mm_sh (20 + x) = (0, 40, 0, [])) (by decide +kernel) (mm_in_lt h1)) (by have := (mm_in_lt h1); show _ < 81; omega) h2 ?_
  refine e_run 5 (pc1 := 37) (L1 := [.ref 0, .int x1, .int x2, .int x3, .int (x3 - (v (20 + x2.toNatClampNeg) x1.toNatClampNeg))]) (S1 := [.int (x3 - (v (20 + x2.toNatClampNeg) x1.toNatClampNeg)), .int x1, .ref 0]) (v1 := v) rfl ?_
  exact e_cl (j := kX5_requireBinSpace) rfl hc g
theorem bX5_count_40 {x1 : Int32} {x2 : Int32} {x3 : Int32} {x4 : Int32} {v : mmM} {c : Nat} {K : mmO → mmM → Prop} (g1 : x4 = 0 → mm_E kX5_count 50 [.ref 0, .int x1, .int x2, .int x3, .int x4] [] v c K) (g2 : ¬ x4 = 0 → mm_E kX5_count 45 [.ref 0, .int x1, .int x2, .int x3, .int x4] [] v c K) : mm_E kX5_count 40 [.ref 0, .int x1, .int x2, .int x3, .int x4] [] v c K := by
  refine e_run 1 (pc1 := 42) (L1 := [.ref 0, .int x1, .int x2, .int x3, .int x4]) (S1 := [.int x4]) (v1 := v) rfl ?_
  exact e_if (p := x4 = 0) rfl g1 g2
theorem bX5_count_45 {x1 : Int32} {x2 : Int32} {x3 : Int32} {x4 : Int32} {v : mmM} {c : Nat} {K : mmO → mmM → Prop} (hc : c + mm_mc kX5_requireEntrySpace ≤ mm_mc kX5_count) (g : mm_M kX5_requireEntrySpace [.ref 0, .int (1 : Int32)] v (mm_Kc kX5_count 50 [.ref 0, .int x1, .int x2, .int x3, .int x4] [] (c + mm_mc kX5_requireEntrySpace) K)) : mm_E kX5_count 45 [.ref 0, .int x1, .int x2, .int x3, .int x4] [] v c K := by
  refine e_run 2 (pc1 := 47) (L1 := [.ref 0, .int x1, .int x2, .int x3, .int x4]) (S1 := [.int (1 : Int32), .ref 0]) (v1 := v) rfl ?_
  exact e_cl (j := kX5_requireEntrySpace) rfl hc g
theorem bX5_count_50 {x1 : Int32} {x2 : Int32} {x3 : Int32} {x4 : Int32} {v : mmM} {c : Nat} {K : mmO → mmM → Prop} (g1 : x4 ≤ 0 → mm_E kX5_count 84 [.ref 0, .int x1, .int x2, .int x3, .int x4] [] v c K) (g2 : ¬ x4 ≤ 0 → mm_E kX5_count 55 [.ref 0, .int x1, .int x2, .int x3, .int x4] [] v c K) : mm_E kX5_count 50 [.ref 0, .int x1, .int x2, .int x3, .int x4] [] v c K := by
  refine e_run 1 (pc1 := 52) (L1 := [.ref 0, .int x1, .int x2, .int x3, .int x4]) (S1 := [.int x4]) (v1 := v) rfl ?_
  exact e_if (p := x4 ≤ 0) rfl g1 g2
theorem bX5_count_55 {x1 : Int32} {x2 : Int32} {x3 : Int32} {x4 : Int32} {v : mmM} {c : Nat} {K : mmO → mmM → Prop} (hc : c + mm_mc kX0_change ≤ mm_mc kX5_count) (g : mm_M kX0_change [.ref 2, .int x2, .int x1, .int x4] v (mm_Kc kX5_count 66 [.ref 0, .int x1, .int x2, .int x3, .int x4] [] (c + mm_mc kX0_change) K)) : mm_E kX5_count 55 [.ref 0, .int x1, .int x2, .int x3, .int x4] [] v c K := by
  refine e_run 5 (pc1 := 63) (L1 := [.ref 0, .int x1, .int x2, .int x3, .int x4]) (S1 := [.int x4, .int x1, .int x2, .ref 2]) (v1 := v) rfl ?_
  exact e_cl (j := kX0_change) rfl hc g
theorem bX5_count_66 {x1 : Int32} {x2 : Int32} {x3 : Int32} {x4 : Int32} {v : mmM} {c : Nat} {K : mmO → mmM → Prop} (hc : c + mm_mc kX2_write ≤ mm_mc kX5_count) (g : mm_M kX2_write [.ref 4, .int (99 : Int32), .int x2, .int (-1 : Int32), .int x1, .int x4, .int (v 0 7)] v (mm_Kc kX5_count 84 [.ref 0, .int x1, .int x2, .int x3, .int x4] [] (c + mm_mc kX2_write) K)) : mm_E kX5_count 66 [.ref 0, .int x1, .int x2, .int x3, .int x4] [] v c K := by
  refine e_run 9 (pc1 := 81) (L1 := [.ref 0, .int x1, .int x2, .int x3, .int x4]) (S1 := [.int (v 0 7), .int x4, .int x1, .int (-1 : Int32), .int x2, .int (99 : Int32), .ref 4]) (v1 := v) rfl ?_
  exact e_cl (j := kX2_write) rfl hc g
theorem bX5_count_84 {x1 : Int32} {x2 : Int32} {x3 : Int32} {x4 : Int32} {v : mmM} {c : Nat} {K : mmO → mmM → Prop} (g1 : 0 ≤ x4 → mm_E kX5_count 100 [.ref 0, .int x1, .int x2, .int x3, .int x4] [] v c K) (g2 : ¬ 0 ≤ x4 → mm_E kX5_count 89 [.ref 0, .int x1, .int x2, .int x3, .int x4] [] v c K) : mm_E kX5_count 84 [.ref 0, .int x1, .int x2, .int x3, .int x4] [] v c K := by
  refine e_run 1 (pc1 := 86) (L1 := [.ref 0, .int x1, .int x2, .int x3, .int x4]) (S1 := [.int x4]) (v1 := v) rfl ?_
  exact e_if (p := 0 ≤ x4) rfl g1 g2
theorem bX5_count_89 {x1 : Int32} {x2 : Int32} {x3 : Int32} {x4 : Int32} {v : mmM} {c : Nat} {K : mmO → mmM → Prop} (hc : c + mm_mc kX5_takeOut ≤ mm_mc kX5_count) (g : mm_M kX5_takeOut [.ref 0, .int (99 : Int32), .int x2, .int x1, .int (-x4)] v (mm_Kc kX5_count 100 [.ref 0, .int x1, .int x2, .int x3, .int x4] [] (c + mm_mc kX5_takeOut) K)) : mm_E kX5_count 89 [.ref 0, .int x1, .int x2, .int x3, .int x4] [] v c K := by
  refine e_run 6 (pc1 := 97) (L1 := [.ref 0, .int x1, .int x2, .int x3, .int x4]) (S1 := [.int (-x4), .int x1, .int x2, .int (99 : Int32), .ref 0]) (v1 := v) rfl ?_
  exact e_cl (j := kX5_takeOut) rfl hc g
theorem bX5_count_100 {x1 : Int32} {x2 : Int32} {x3 : Int32} {x4 : Int32} {v : mmM} {c : Nat} {K : mmO → mmM → Prop} (h1 : mm_in x1 40 = true) (h2 : mm_in x2 24 = true) (hc : c + mm_mc kX5_breakPromises ≤ mm_mc kX5_count) (g : mm_M kX5_breakPromises [.ref 0, .int (v 16 x2.toNatClampNeg)] (mm_up v 46 x1.toNatClampNeg (v 0 7)) (mm_Kc kX5_count 126 [.ref 0, .int x1, .int x2, .int x3, .int x4] [] (c + mm_mc kX5_breakPromises) K)) : mm_E kX5_count 100 [.ref 0, .int x1, .int x2, .int x3, .int x4] [] v c K := by
  refine e_run 6 (pc1 := 112) (L1 := [.ref 0, .int x1, .int x2, .int x3, .int x4]) (S1 := [.int (v 0 7), .int x1, .ref 46]) (v1 := v) rfl ?_
  refine e_iast rfl rfl (by decide) h1 ?_
  refine e_run 5 (pc1 := 122) (L1 := [.ref 0, .int x1, .int x2, .int x3, .int x4]) (S1 := [.int x2, .ref 16, .ref 0]) (v1 := mm_up v 46 x1.toNatClampNeg (v 0 7)) rfl ?_
  refine e_iald rfl rfl (by decide) h2 ?_
  exact e_cl (j := kX5_breakPromises) rfl hc g
theorem bX5_count_126 {x1 : Int32} {x2 : Int32} {x3 : Int32} {x4 : Int32} {y0 : Int32} {v : mmM} {c : Nat} {K : mmO → mmM → Prop} (g : K (.inl (some (.int y0))) v) : mm_E kX5_count 126 [.ref 0, .int x1, .int x2, .int x3, .int x4] [.int y0] v c K := by
  exact e_iret (ty := .int) rfl rfl rfl g
theorem bX5_promise_0 {x1 : Int32} {x2 : Int32} {x3 : Int32} {x4 : Int32} {v : mmM} {c : Nat} {K : mmO → mmM → Prop} (hc : c + mm_mc kX5_requireItem ≤ mm_mc kX5_promise) (g : mm_M kX5_requireItem [.ref 0, .int x1] v (mm_Kc kX5_promise 5 [.ref 0, .int x1, .int x2, .int x3, .int x4] [] (c + mm_mc kX5_requireItem) K)) : mm_E kX5_promise 0 [.ref 0, .int x1, .int x2, .int x3, .int x4] [] v c K := by
  refine e_run 2 (pc1 := 2) (L1 := [.ref 0, .int x1, .int x2, .int x3, .int x4]) (S1 := [.int x1, .ref 0]) (v1 := v) rfl ?_
  exact e_cl (j := kX5_requireItem) rfl hc g
theorem bX5_promise_5 {x1 : Int32} {x2 : Int32} {x3 : Int32} {x4 : Int32} {v : mmM} {c : Nat} {K : mmO → mmM → Prop} (hc : c + mm_mc kX5_requireBetween ≤ mm_mc kX5_promise) (g : mm_M kX5_requireBetween [.ref 0, .int x2, .int (1 : Int32), .int (60 : Int32)] v (mm_Kc kX5_promise 13 [.ref 0, .int x1, .int x2, .int x3, .int x4] [] (c + mm_mc kX5_requireBetween) K)) : mm_E kX5_promise 5 [.ref 0, .int x1, .int x2, .int x3, .int x4] [] v c K := by
  refine e_run 4 (pc1 := 10) (L1 := [.ref 0, .int x1, .int x2, .int x3, .int x4]) (S1 := [.int (60 : Int32), .int (1 : Int32), .int x2, .ref 0]) (v1 := v) rfl ?_
  exact e_cl (j := kX5_requireBetween) rfl hc g
theorem bX5_promise_13 {x1 : Int32} {x2 : Int32} {x3 : Int32} {x4 : Int32} {v : mmM} {c : Nat} {K : mmO → mmM → Prop} (hc : c + mm_mc kX5_requireBetween ≤ mm_mc kX5_promise) (g : mm_M kX5_requireBetween [.ref 0, .int x3, .int (v 0 7), .int ((v 0 7) + (60 : Int32))] v (mm_Kc kX5_promise 29 [.ref 0, .int x1, .int x2, .int x3, .int x4] [] (c + mm_mc kX5_requireBetween) K)) : mm_E kX5_promise 13 [.ref 0, .int x1, .int x2, .int x3, .int x4] [] v c K := by
  refine e_run 8 (pc1 := 26) (L1 := [.ref 0, .int x1, .int x2, .int x3, .int x4]) (S1 := [.int ((v 0 7) + (60 : Int32)), .int (v 0 7), .int x3, .ref 0]) (v1 := v) rfl ?_
  exact e_cl (j := kX5_requireBetween) rfl hc g
theorem bX5_promise_29 {x1 : Int32} {x2 : Int32} {x3 : Int32} {x4 : Int32} {v : mmM} {c : Nat} {K : mmO → mmM → Prop} (g1 : (v 3 0) < (20 : Int32) → mm_E kX5_promise 51 [.ref 0, .int x1, .int x2, .int x3, .int x4] [] v c K) (g2 : ¬ (v 3 0) < (20 : Int32) → mm_E kX5_promise 41 [.ref 0, .int x1, .int x2, .int x3, .int x4] [] v c K) : mm_E kX5_promise 29 [.ref 0, .int x1, .int x2, .int x3, .int x4] [] v c K := by
  refine e_run 4 (pc1 := 38) (L1 := [.ref 0, .int x1, .int x2, .int x3, .int x4]) (S1 := [.int (20 : Int32), .int (v 3 0)]) (v1 := v) rfl ?_
  exact e_if (p := (v 3 0) < (20 : Int32)) rfl g1 g2
theorem bX5_promise_41 {x1 : Int32} {x2 : Int32} {x3 : Int32} {x4 : Int32} {v : mmM} {c : Nat} {K : mmO → mmM → Prop} (hc : c + 1 ≤ mm_mc kX5_promise) (g : K (.inr 1) v) : mm_E kX5_promise 41 [.ref 0, .int x1, .int x2, .int x3, .int x4] [] v c K := by
  exact e_th (e := 1) rfl hc g
theorem bX5_promise_51 {x1 : Int32} {x2 : Int32} {x3 : Int32} {x4 : Int32} {v : mmM} {c : Nat} {K : mmO → mmM → Prop} (hc : c + mm_mc kX5_planPromise ≤ mm_mc kX5_promise) (g : mm_M kX5_planPromise [.ref 0, .int x1, .int x2, .int x3, .int x4] v (mm_Kc kX5_promise 60 [.ref 0, .int x1, .int x2, .int x3, .int x4] [] (c + mm_mc kX5_planPromise) K)) : mm_E kX5_promise 51 [.ref 0, .int x1, .int x2, .int x3, .int x4] [] v c K := by
  refine e_run 5 (pc1 := 57) (L1 := [.ref 0, .int x1, .int x2, .int x3, .int x4]) (S1 := [.int x4, .int x3, .int x2, .int x1, .ref 0]) (v1 := v) rfl ?_
  exact e_cl (j := kX5_planPromise) rfl hc g
theorem bX5_promise_60 {x1 : Int32} {x2 : Int32} {x3 : Int32} {x4 : Int32} {y0 : Int32} {v : mmM} {c : Nat} {K : mmO → mmM → Prop} (g1 : y0 ≤ 0 → mm_E kX5_promise 73 [.ref 0, .int x1, .int x2, .int x3, .int x4] [] v c K) (g2 : ¬ y0 ≤ 0 → mm_E kX5_promise 63 [.ref 0, .int x1, .int x2, .int x3, .int x4] [] v c K) : mm_E kX5_promise 60 [.ref 0, .int x1, .int x2, .int x3, .int x4] [.int y0] v c K := by
  exact e_if (p := y0 ≤ 0) rfl g1 g2
theorem bX5_promise_63 {x1 : Int32} {x2 : Int32} {x3 : Int32} {x4 : Int32} {v : mmM} {c : Nat} {K : mmO → mmM → Prop} (hc : c + 1 ≤ mm_mc kX5_promise) (g : K (.inr 3) v) : mm_E kX5_promise 63 [.ref 0, .int x1, .int x2, .int x3, .int x4] [] v c K := by
  exact e_th (e := 3) rfl hc g
theorem bX5_promise_73 {x1 : Int32} {x2 : Int32} {x3 : Int32} {x4 : Int32} {v : mmM} {c : Nat} {K : mmO → mmM → Prop} (hc : c + mm_mc kX4_append ≤ mm_mc kX5_promise) (g : mm_M kX4_append [.ref 3, .int x3, .ref 6] v (mm_Kc kX5_promise 85 [.ref 0, .int x1, .int x2, .int x3, .int x4] [] (c + mm_mc kX4_append) K)) : mm_E kX5_promise 73 [.ref 0, .int x1, .int x2, .int x3, .int x4] [] v c K := by
  refine e_run 5 (pc1 := 82) (L1 := [.ref 0, .int x1, .int x2, .int x3, .int x4]) (S1 := [.ref 6, .int x3, .ref 3]) (v1 := v) rfl ?_
  exact e_cl (j := kX4_append) rfl hc g
theorem bX5_promise_85 {x1 : Int32} {x2 : Int32} {x3 : Int32} {x4 : Int32} {y0 : Int32} {v : mmM} {c : Nat} {K : mmO → mmM → Prop} (g : K (.inl (some (.int y0))) v) : mm_E kX5_promise 85 [.ref 0, .int x1, .int x2, .int x3, .int x4] [.int y0] v c K := by
  exact e_iret (ty := .int) rfl rfl rfl g
theorem bX5_cancel_0 {x1 : Int32} {v : mmM} {c : Nat} {K : mmO → mmM → Prop} (hc : c + mm_mc kX5_requirePromise ≤ mm_mc kX5_cancel) (g : mm_M kX5_requirePromise [.ref 0, .int x1] v (mm_Kc kX5_cancel 5 [.ref 0, .int x1] [] (c + mm_mc kX5_requirePromise) K)) : mm_E kX5_cancel 0 [.ref 0, .int x1] [] v c K := by
  refine e_run 2 (pc1 := 2) (L1 := [.ref 0, .int x1]) (S1 := [.int x1, .ref 0]) (v1 := v) rfl ?_
  exact e_cl (j := kX5_requirePromise) rfl hc g
theorem bX5_cancel_5 {x1 : Int32} {v : mmM} {c : Nat} {K : mmO → mmM → Prop} (hc : c + mm_mc kX5_requireOpen ≤ mm_mc kX5_cancel) (g : mm_M kX5_requireOpen [.ref 0, .int x1] v (mm_Kc kX5_cancel 10 [.ref 0, .int x1] [] (c + mm_mc kX5_requireOpen) K)) : mm_E kX5_cancel 5 [.ref 0, .int x1] [] v c K := by
  refine e_run 2 (pc1 := 7) (L1 := [.ref 0, .int x1]) (S1 := [.int x1, .ref 0]) (v1 := v) rfl ?_
  exact e_cl (j := kX5_requireOpen) rfl hc g
theorem bX5_cancel_10 {x1 : Int32} {v : mmM} {c : Nat} {K : mmO → mmM → Prop} (h1 : mm_in x1 20 = true) (hc : c + mm_mc kX4_sumOf ≤ mm_mc kX5_cancel) (g : mm_M kX4_sumOf [.ref 3, .int x1] (mm_up v 48 x1.toNatClampNeg (99 : Int32)) (mm_Kc kX5_cancel 29 [.ref 0, .int x1] [] (c + mm_mc kX4_sumOf) K)) : mm_E kX5_cancel 10 [.ref 0, .int x1] [] v c K := by
  refine e_run 5 (pc1 := 20) (L1 := [.ref 0, .int x1]) (S1 := [.int (99 : Int32), .int x1, .ref 48]) (v1 := v) rfl ?_
  refine e_cast rfl rfl (by decide) h1 (by decide) ?_
  refine e_run 3 (pc1 := 26) (L1 := [.ref 0, .int x1]) (S1 := [.int x1, .ref 3]) (v1 := mm_up v 48 x1.toNatClampNeg (99 : Int32)) rfl ?_
  exact e_cl (j := kX4_sumOf) rfl hc g
theorem bX5_cancel_29 {x1 : Int32} {y0 : Int32} {v : mmM} {c : Nat} {K : mmO → mmM → Prop} (g : K (.inl (some (.int y0))) v) : mm_E kX5_cancel 29 [.ref 0, .int x1] [.int y0] v c K := by
  exact e_iret (ty := .int) rfl rfl rfl g
theorem bX5_pick_0 {x1 : Int32} {l2 : Value} {v : mmM} {c : Nat} {K : mmO → mmM → Prop} (hc : c + mm_mc kX5_requirePromise ≤ mm_mc kX5_pick) (g : mm_M kX5_requirePromise [.ref 0, .int x1] v (mm_Kc kX5_pick 5 [.ref 0, .int x1, l2] [] (c + mm_mc kX5_requirePromise) K)) : mm_E kX5_pick 0 [.ref 0, .int x1, l2] [] v c K := by
  refine e_run 2 (pc1 := 2) (L1 := [.ref 0, .int x1, l2]) (S1 := [.int x1, .ref 0]) (v1 := v) rfl ?_
  exact e_cl (j := kX5_requirePromise) rfl hc g
theorem bX5_pick_5 {x1 : Int32} {l2 : Value} {v : mmM} {c : Nat} {K : mmO → mmM → Prop} (hc : c + mm_mc kX5_requireOpen ≤ mm_mc kX5_pick) (g : mm_M kX5_requireOpen [.ref 0, .int x1] v (mm_Kc kX5_pick 10 [.ref 0, .int x1, l2] [] (c + mm_mc kX5_requireOpen) K)) : mm_E kX5_pick 5 [.ref 0, .int x1, l2] [] v c K := by
  refine e_run 2 (pc1 := 7) (L1 := [.ref 0, .int x1, l2]) (S1 := [.int x1, .ref 0]) (v1 := v) rfl ?_
  exact e_cl (j := kX5_requireOpen) rfl hc g
theorem bX5_pick_10 {x1 : Int32} {l2 : Value} {v : mmM} {c : Nat} {K : mmO → mmM → Prop} (hc : c + mm_mc kX5_findLines ≤ mm_mc kX5_pick) (g : mm_M kX5_findLines [.ref 0, .int x1] v (mm_Kc kX5_pick 15 [.ref 0, .int x1, l2] [] (c + mm_mc kX5_findLines) K)) : mm_E kX5_pick 10 [.ref 0, .int x1, l2] [] v c K := by
  refine e_run 2 (pc1 := 12) (L1 := [.ref 0, .int x1, l2]) (S1 := [.int x1, .ref 0]) (v1 := v) rfl ?_
  exact e_cl (j := kX5_findLines) rfl hc g
theorem bX5_pick_15 {x1 : Int32} {l2 : Value} {v : mmM} {c : Nat} {K : mmO → mmM → Prop} (hc : c + mm_mc kX5_requireEntrySpace ≤ mm_mc kX5_pick) (g : mm_M kX5_requireEntrySpace [.ref 0, .int (v 5 0)] v (mm_Kc kX5_pick 26 [.ref 0, .int x1, l2] [] (c + mm_mc kX5_requireEntrySpace) K)) : mm_E kX5_pick 15 [.ref 0, .int x1, l2] [] v c K := by
  refine e_run 4 (pc1 := 23) (L1 := [.ref 0, .int x1, l2]) (S1 := [.int (v 5 0), .ref 0]) (v1 := v) rfl ?_
  exact e_cl (j := kX5_requireEntrySpace) rfl hc g
theorem bX5_pick_26 {x1 : Int32} {l2 : Value} {v : mmM} {c : Nat} {K : mmO → mmM → Prop} (h1 : mm_in x1 20 = true) (h2 : mm_in x1 20 = true) (g : mm_E kX5_pick 60 [.ref 0, .int x1, .int (0 : Int32)] [] (mm_up (mm_up v 70 x1.toNatClampNeg (v 4 0)) 71 x1.toNatClampNeg (v 5 0)) c K) : mm_E kX5_pick 26 [.ref 0, .int x1, l2] [] v c K := by
  refine e_run 7 (pc1 := 41) (L1 := [.ref 0, .int x1, l2]) (S1 := [.int (v 4 0), .int x1, .ref 70]) (v1 := v) rfl ?_
  refine e_iast rfl rfl (by decide) h1 ?_
  refine e_run 7 (pc1 := 57) (L1 := [.ref 0, .int x1, l2]) (S1 := [.int (v 5 0), .int x1, .ref 71]) (v1 := mm_up v 70 x1.toNatClampNeg (v 4 0)) rfl ?_
  refine e_iast rfl rfl (by decide) h2 ?_
  refine e_run 2 (pc1 := 60) (L1 := [.ref 0, .int x1, .int (0 : Int32)]) (S1 := []) (v1 := mm_up (mm_up v 70 x1.toNatClampNeg (v 4 0)) 71 x1.toNatClampNeg (v 5 0)) rfl ?_
  exact g
theorem bX5_pick_60 {x1 : Int32} {x2 : Int32} {v : mmM} {c : Nat} {K : mmO → mmM → Prop} (g1 : (v 5 0) ≤ x2 → mm_E kX5_pick 110 [.ref 0, .int x1, .int x2] [] v c K) (g2 : ¬ (v 5 0) ≤ x2 → mm_E kX5_pick 71 [.ref 0, .int x1, .int x2] [] v c K) : mm_E kX5_pick 60 [.ref 0, .int x1, .int x2] [] v c K := by
  refine e_run 4 (pc1 := 68) (L1 := [.ref 0, .int x1, .int x2]) (S1 := [.int (v 5 0), .int x2]) (v1 := v) rfl ?_
  exact e_if (p := (v 5 0) ≤ x2) rfl g1 g2
theorem bX5_pick_71 {x1 : Int32} {x2 : Int32} {v : mmM} {c : Nat} {K : mmO → mmM → Prop} (h1 : mm_in x2 60 = true) (h2 : mm_in x2 60 = true) (h3 : mm_in x2 60 = true) (hc : c + mm_mc kX5_takeOut ≤ mm_mc kX5_pick) (g : mm_M kX5_takeOut [.ref 0, .int (112 : Int32), .int (v 79 x2.toNatClampNeg), .int (v 78 x2.toNatClampNeg), .int (v 80 x2.toNatClampNeg)] v (mm_Kc kX5_pick 104 [.ref 0, .int x1, .int x2] [] (c + mm_mc kX5_takeOut) K)) : mm_E kX5_pick 71 [.ref 0, .int x1, .int x2] [] v c K := by
  refine e_run 6 (pc1 := 82) (L1 := [.ref 0, .int x1, .int x2]) (S1 := [.int x2, .ref 79, .int (112 : Int32), .ref 0]) (v1 := v) rfl ?_
  refine e_iald rfl rfl (by decide) h1 ?_
  refine e_run 4 (pc1 := 91) (L1 := [.ref 0, .int x1, .int x2]) (S1 := [.int x2, .ref 78, .int (v 79 x2.toNatClampNeg), .int (112 : Int32), .ref 0]) (v1 := v) rfl ?_
  refine e_iald rfl rfl (by decide) h2 ?_
  refine e_run 4 (pc1 := 100) (L1 := [.ref 0, .int x1, .int x2]) (S1 := [.int x2, .ref 80, .int (v 78 x2.toNatClampNeg), .int (v 79 x2.toNatClampNeg), .int (112 : Int32), .ref 0]) (v1 := v) rfl ?_
  refine e_iald rfl rfl (by decide) h3 ?_
  exact e_cl (j := kX5_takeOut) rfl hc g
theorem bX5_pick_104 {x1 : Int32} {x2 : Int32} {v : mmM} {c : Nat} {K : mmO → mmM → Prop} (g : mm_E kX5_pick 60 [.ref 0, .int x1, .int (x2 + (1 : Int32))] [] v c K) : mm_E kX5_pick 104 [.ref 0, .int x1, .int x2] [] v c K := by
  refine e_run 2 (pc1 := 60) (L1 := [.ref 0, .int x1, .int (x2 + (1 : Int32))]) (S1 := []) (v1 := v) rfl ?_
  exact g
theorem bX5_pick_110 {x1 : Int32} {x2 : Int32} {v : mmM} {c : Nat} {K : mmO → mmM → Prop} (h1 : mm_in x1 20 = true) (g : K (.inl (some (.int (v 5 0)))) (mm_up v 48 x1.toNatClampNeg (112 : Int32))) : mm_E kX5_pick 110 [.ref 0, .int x1, .int x2] [] v c K := by
  refine e_run 5 (pc1 := 120) (L1 := [.ref 0, .int x1, .int x2]) (S1 := [.int (112 : Int32), .int x1, .ref 48]) (v1 := v) rfl ?_
  refine e_cast rfl rfl (by decide) h1 (by decide) ?_
  refine e_run 3 (pc1 := 128) (L1 := [.ref 0, .int x1, .int x2]) (S1 := [.int (v 5 0)]) (v1 := mm_up v 48 x1.toNatClampNeg (112 : Int32)) rfl ?_
  exact e_iret (ty := .int) rfl rfl rfl g
theorem bX5_status_0 {x1 : Int32} {v : mmM} {c : Nat} {K : mmO → mmM → Prop} (hc : c + mm_mc kX5_requirePromise ≤ mm_mc kX5_status) (g : mm_M kX5_requirePromise [.ref 0, .int x1] v (mm_Kc kX5_status 5 [.ref 0, .int x1] [] (c + mm_mc kX5_requirePromise) K)) : mm_E kX5_status 0 [.ref 0, .int x1] [] v c K := by
  refine e_run 2 (pc1 := 2) (L1 := [.ref 0, .int x1]) (S1 := [.int x1, .ref 0]) (v1 := v) rfl ?_
  exact e_cl (j := kX5_requirePromise) rfl hc g
theorem bX5_status_5 {x1 : Int32} {v : mmM} {c : Nat} {K : mmO → mmM → Prop} (h1 : mm_in x1 20 = true) (h2 : narrow .char (.int (v 48 x1.toNatClampNeg)) = .int (v 48 x1.toNatClampNeg)) (g : K (.inl (some (.int (v 48 x1.toNatClampNeg)))) v) : mm_E kX5_status 5 [.ref 0, .int x1] [] v c K := by
  refine e_run 4 (pc1 := 13) (L1 := [.ref 0, .int x1]) (S1 := [.int x1, .ref 48]) (v1 := v) rfl ?_
  refine e_cald rfl rfl (by decide) h1 ?_
  exact e_iret (ty := .char) rfl rfl h2 g
theorem bX5_quantity_0 {x1 : Int32} {x2 : Int32} {v : mmM} {c : Nat} {K : mmO → mmM → Prop} (hc : c + mm_mc kX5_requirePromise ≤ mm_mc kX5_quantity) (g : mm_M kX5_requirePromise [.ref 0, .int x1] v (mm_Kc kX5_quantity 5 [.ref 0, .int x1, .int x2] [] (c + mm_mc kX5_requirePromise) K)) : mm_E kX5_quantity 0 [.ref 0, .int x1, .int x2] [] v c K := by
  refine e_run 2 (pc1 := 2) (L1 := [.ref 0, .int x1, .int x2]) (S1 := [.int x1, .ref 0]) (v1 := v) rfl ?_
  exact e_cl (j := kX5_requirePromise) rfl hc g
theorem bX5_quantity_5 {x1 : Int32} {x2 : Int32} {v : mmM} {c : Nat} {K : mmO → mmM → Prop} (hc : c + mm_mc kX5_requireItem ≤ mm_mc kX5_quantity) (g : mm_M kX5_requireItem [.ref 0, .int x2] v (mm_Kc kX5_quantity 10 [.ref 0, .int x1, .int x2] [] (c + mm_mc kX5_requireItem) K)) : mm_E kX5_quantity 5 [.ref 0, .int x1, .int x2] [] v c K := by
  refine e_run 2 (pc1 := 7) (L1 := [.ref 0, .int x1, .int x2]) (S1 := [.int x2, .ref 0]) (v1 := v) rfl ?_
  exact e_cl (j := kX5_requireItem) rfl hc g
theorem bX5_quantity_10 {x1 : Int32} {x2 : Int32} {v : mmM} {c : Nat} {K : mmO → mmM → Prop} (h1 : mm_in x1 20 = true) (h2 : mm_in x2 6 = true) (g : K (.inl (some (.int (v (50 + x1.toNatClampNeg) x2.toNatClampNeg)))) v) : mm_E kX5_quantity 10 [.ref 0, .int x1, .int x2] [] v c K := by
  refine e_run 4 (pc1 := 18) (L1 := [.ref 0, .int x1, .int x2]) (S1 := [.int x1, .ref 49]) (v1 := v) rfl ?_
  refine e_aald rfl rfl (by decide) h1 ?_
  refine e_run 1 (pc1 := 20) (L1 := [.ref 0, .int x1, .int x2]) (S1 := [.int x2, .ref (50 + x1.toNatClampNeg)]) (v1 := v) rfl ?_
  refine e_iald rfl (mm_rows (P := fun x => mm_sh (50 + x) = (0, 6, 0, [])) (by decide +kernel) (mm_in_lt h1)) (by have := (mm_in_lt h1); show _ < 81; omega) h2 ?_
  exact e_iret (ty := .int) rfl rfl rfl g
theorem bX5_available_0 {x1 : Int32} {x2 : Int32} {v : mmM} {c : Nat} {K : mmO → mmM → Prop} (hc : c + mm_mc kX5_requireItem ≤ mm_mc kX5_available) (g : mm_M kX5_requireItem [.ref 0, .int x1] v (mm_Kc kX5_available 5 [.ref 0, .int x1, .int x2] [] (c + mm_mc kX5_requireItem) K)) : mm_E kX5_available 0 [.ref 0, .int x1, .int x2] [] v c K := by
  refine e_run 2 (pc1 := 2) (L1 := [.ref 0, .int x1, .int x2]) (S1 := [.int x1, .ref 0]) (v1 := v) rfl ?_
  exact e_cl (j := kX5_requireItem) rfl hc g
theorem bX5_available_5 {x1 : Int32} {x2 : Int32} {v : mmM} {c : Nat} {K : mmO → mmM → Prop} (hc : c + mm_mc kX5_requireBetween ≤ mm_mc kX5_available) (g : mm_M kX5_requireBetween [.ref 0, .int x2, .int (v 0 7), .int ((v 0 7) + (60 : Int32))] v (mm_Kc kX5_available 21 [.ref 0, .int x1, .int x2] [] (c + mm_mc kX5_requireBetween) K)) : mm_E kX5_available 5 [.ref 0, .int x1, .int x2] [] v c K := by
  refine e_run 8 (pc1 := 18) (L1 := [.ref 0, .int x1, .int x2]) (S1 := [.int ((v 0 7) + (60 : Int32)), .int (v 0 7), .int x2, .ref 0]) (v1 := v) rfl ?_
  exact e_cl (j := kX5_requireBetween) rfl hc g
theorem bX5_available_21 {x1 : Int32} {x2 : Int32} {v : mmM} {c : Nat} {K : mmO → mmM → Prop} (hc : c + mm_mc kX5_leastDifference ≤ mm_mc kX5_available) (g : mm_M kX5_leastDifference [.ref 0, .int x1, .int x2] v (mm_Kc kX5_available 27 [.ref 0, .int x1, .int x2] [] (c + mm_mc kX5_leastDifference) K)) : mm_E kX5_available 21 [.ref 0, .int x1, .int x2] [] v c K := by
  refine e_run 3 (pc1 := 24) (L1 := [.ref 0, .int x1, .int x2]) (S1 := [.int x2, .int x1, .ref 0]) (v1 := v) rfl ?_
  exact e_cl (j := kX5_leastDifference) rfl hc g
theorem bX5_available_27 {x1 : Int32} {x2 : Int32} {y0 : Int32} {v : mmM} {c : Nat} {K : mmO → mmM → Prop} (g : K (.inl (some (.int y0))) v) : mm_E kX5_available 27 [.ref 0, .int x1, .int x2] [.int y0] v c K := by
  exact e_iret (ty := .int) rfl rfl rfl g
theorem bX5_availableByTrying_0 {x1 : Int32} {x2 : Int32} {l3 : Value} {l4 : Value} {v : mmM} {c : Nat} {K : mmO → mmM → Prop} (hc : c + mm_mc kX5_requireItem ≤ mm_mc kX5_availableByTrying) (g : mm_M kX5_requireItem [.ref 0, .int x1] v (mm_Kc kX5_availableByTrying 5 [.ref 0, .int x1, .int x2, l3, l4] [] (c + mm_mc kX5_requireItem) K)) : mm_E kX5_availableByTrying 0 [.ref 0, .int x1, .int x2, l3, l4] [] v c K := by
  refine e_run 2 (pc1 := 2) (L1 := [.ref 0, .int x1, .int x2, l3, l4]) (S1 := [.int x1, .ref 0]) (v1 := v) rfl ?_
  exact e_cl (j := kX5_requireItem) rfl hc g
theorem bX5_availableByTrying_5 {x1 : Int32} {x2 : Int32} {l3 : Value} {l4 : Value} {v : mmM} {c : Nat} {K : mmO → mmM → Prop} (hc : c + mm_mc kX5_requireBetween ≤ mm_mc kX5_availableByTrying) (g : mm_M kX5_requireBetween [.ref 0, .int x2, .int (v 0 7), .int ((v 0 7) + (60 : Int32))] v (mm_Kc kX5_availableByTrying 21 [.ref 0, .int x1, .int x2, l3, l4] [] (c + mm_mc kX5_requireBetween) K)) : mm_E kX5_availableByTrying 5 [.ref 0, .int x1, .int x2, l3, l4] [] v c K := by
  refine e_run 8 (pc1 := 18) (L1 := [.ref 0, .int x1, .int x2, l3, l4]) (S1 := [.int ((v 0 7) + (60 : Int32)), .int (v 0 7), .int x2, .ref 0]) (v1 := v) rfl ?_
  exact e_cl (j := kX5_requireBetween) rfl hc g
theorem bX5_availableByTrying_21 {x1 : Int32} {x2 : Int32} {l3 : Value} {l4 : Value} {v : mmM} {c : Nat} {K : mmO → mmM → Prop} (g : mm_E kX5_availableByTrying 28 [.ref 0, .int x1, .int x2, .int (0 : Int32), .int (1024 : Int32)] [] v c K) : mm_E kX5_availableByTrying 21 [.ref 0, .int x1, .int x2, l3, l4] [] v c K := by
  refine e_run 4 (pc1 := 28) (L1 := [.ref 0, .int x1, .int x2, .int (0 : Int32), .int (1024 : Int32)]) (S1 := []) (v1 := v) rfl ?_
  exact g
theorem bX5_availableByTrying_28 {x1 : Int32} {x2 : Int32} {x3 : Int32} {x4 : Int32} {v : mmM} {c : Nat} {K : mmO → mmM → Prop} (g1 : x4 ≤ 0 → mm_E kX5_availableByTrying 60 [.ref 0, .int x1, .int x2, .int x3, .int x4] [] v c K) (g2 : ¬ x4 ≤ 0 → mm_E kX5_availableByTrying 33 [.ref 0, .int x1, .int x2, .int x3, .int x4] [] v c K) : mm_E kX5_availableByTrying 28 [.ref 0, .int x1, .int x2, .int x3, .int x4] [] v c K := by
  refine e_run 1 (pc1 := 30) (L1 := [.ref 0, .int x1, .int x2, .int x3, .int x4]) (S1 := [.int x4]) (v1 := v) rfl ?_
  exact e_if (p := x4 ≤ 0) rfl g1 g2
theorem bX5_availableByTrying_33 {x1 : Int32} {x2 : Int32} {x3 : Int32} {x4 : Int32} {v : mmM} {c : Nat} {K : mmO → mmM → Prop} (hc : c + mm_mc kX5_canGive ≤ mm_mc kX5_availableByTrying) (g : mm_M kX5_canGive [.ref 0, .int x1, .int x2, .int (x3 + x4)] v (mm_Kc kX5_availableByTrying 43 [.ref 0, .int x1, .int x2, .int x3, .int x4] [] (c + mm_mc kX5_canGive) K)) : mm_E kX5_availableByTrying 33 [.ref 0, .int x1, .int x2, .int x3, .int x4] [] v c K := by
  refine e_run 6 (pc1 := 40) (L1 := [.ref 0, .int x1, .int x2, .int x3, .int x4]) (S1 := [.int (x3 + x4), .int x2, .int x1, .ref 0]) (v1 := v) rfl ?_
  exact e_cl (j := kX5_canGive) rfl hc g
theorem bX5_availableByTrying_43 {x1 : Int32} {x2 : Int32} {x3 : Int32} {x4 : Int32} {y0 : Int32} {v : mmM} {c : Nat} {K : mmO → mmM → Prop} (g1 : y0 = 0 → mm_E kX5_availableByTrying 51 [.ref 0, .int x1, .int x2, .int x3, .int x4] [] v c K) (g2 : ¬ y0 = 0 → mm_E kX5_availableByTrying 46 [.ref 0, .int x1, .int x2, .int x3, .int x4] [] v c K) : mm_E kX5_availableByTrying 43 [.ref 0, .int x1, .int x2, .int x3, .int x4] [.int y0] v c K := by
  exact e_if (p := y0 = 0) rfl g1 g2
theorem bX5_availableByTrying_46 {x1 : Int32} {x2 : Int32} {x3 : Int32} {x4 : Int32} {v : mmM} {c : Nat} {K : mmO → mmM → Prop} (g : mm_E kX5_availableByTrying 51 [.ref 0, .int x1, .int x2, .int (x3 + x4), .int x4] [] v c K) : mm_E kX5_availableByTrying 46 [.ref 0, .int x1, .int x2, .int x3, .int x4] [] v c K := by
  refine e_run 4 (pc1 := 51) (L1 := [.ref 0, .int x1, .int x2, .int (x3 + x4), .int x4]) (S1 := []) (v1 := v) rfl ?_
  exact g
theorem bX5_availableByTrying_51 {x1 : Int32} {x2 : Int32} {x3 : Int32} {x4 : Int32} {v : mmM} {c : Nat} {K : mmO → mmM → Prop} (g : mm_E kX5_availableByTrying 28 [.ref 0, .int x1, .int x2, .int x3, .int (x4 / (2 : Int32))] [] v c K) : mm_E kX5_availableByTrying 51 [.ref 0, .int x1, .int x2, .int x3, .int x4] [] v c K := by
  refine e_run 2 (pc1 := 54) (L1 := [.ref 0, .int x1, .int x2, .int x3, .int x4]) (S1 := [.int (2 : Int32), .int x4]) (v1 := v) rfl ?_
  refine e_idiv rfl (by decide) ?_
  refine e_run 2 (pc1 := 28) (L1 := [.ref 0, .int x1, .int x2, .int x3, .int (x4 / (2 : Int32))]) (S1 := []) (v1 := v) rfl ?_
  exact g
theorem bX5_availableByTrying_60 {x1 : Int32} {x2 : Int32} {x3 : Int32} {x4 : Int32} {v : mmM} {c : Nat} {K : mmO → mmM → Prop} (g : K (.inl (some (.int x3))) v) : mm_E kX5_availableByTrying 60 [.ref 0, .int x1, .int x2, .int x3, .int x4] [] v c K := by
  refine e_run 1 (pc1 := 61) (L1 := [.ref 0, .int x1, .int x2, .int x3, .int x4]) (S1 := [.int x3]) (v1 := v) rfl ?_
  exact e_iret (ty := .int) rfl rfl rfl g
theorem bX5_pickLines_0 {x1 : Int32} {v : mmM} {c : Nat} {K : mmO → mmM → Prop} (hc : c + mm_mc kX5_loadLines ≤ mm_mc kX5_pickLines) (g : mm_M kX5_loadLines [.ref 0, .int x1] v (mm_Kc kX5_pickLines 5 [.ref 0, .int x1] [] (c + mm_mc kX5_loadLines) K)) : mm_E kX5_pickLines 0 [.ref 0, .int x1] [] v c K := by
  refine e_run 2 (pc1 := 2) (L1 := [.ref 0, .int x1]) (S1 := [.int x1, .ref 0]) (v1 := v) rfl ?_
  exact e_cl (j := kX5_loadLines) rfl hc g
theorem bX5_pickLines_5 {x1 : Int32} {v : mmM} {c : Nat} {K : mmO → mmM → Prop} (g : K (.inl (some (.int (v 5 0)))) v) : mm_E kX5_pickLines 5 [.ref 0, .int x1] [] v c K := by
  refine e_run 3 (pc1 := 12) (L1 := [.ref 0, .int x1]) (S1 := [.int (v 5 0)]) (v1 := v) rfl ?_
  exact e_iret (ty := .int) rfl rfl rfl g
theorem bX5_pickBin_0 {x1 : Int32} {x2 : Int32} {v : mmM} {c : Nat} {K : mmO → mmM → Prop} (hc : c + mm_mc kX5_loadLines ≤ mm_mc kX5_pickBin) (g : mm_M kX5_loadLines [.ref 0, .int x1] v (mm_Kc kX5_pickBin 5 [.ref 0, .int x1, .int x2] [] (c + mm_mc kX5_loadLines) K)) : mm_E kX5_pickBin 0 [.ref 0, .int x1, .int x2] [] v c K := by
  refine e_run 2 (pc1 := 2) (L1 := [.ref 0, .int x1, .int x2]) (S1 := [.int x1, .ref 0]) (v1 := v) rfl ?_
  exact e_cl (j := kX5_loadLines) rfl hc g
theorem bX5_pickBin_5 {x1 : Int32} {x2 : Int32} {v : mmM} {c : Nat} {K : mmO → mmM → Prop} (hc : c + mm_mc kX5_requireLine ≤ mm_mc kX5_pickBin) (g : mm_M kX5_requireLine [.ref 0, .int x2] v (mm_Kc kX5_pickBin 10 [.ref 0, .int x1, .int x2] [] (c + mm_mc kX5_requireLine) K)) : mm_E kX5_pickBin 5 [.ref 0, .int x1, .int x2] [] v c K := by
  refine e_run 2 (pc1 := 7) (L1 := [.ref 0, .int x1, .int x2]) (S1 := [.int x2, .ref 0]) (v1 := v) rfl ?_
  exact e_cl (j := kX5_requireLine) rfl hc g
theorem bX5_pickBin_10 {x1 : Int32} {x2 : Int32} {v : mmM} {c : Nat} {K : mmO → mmM → Prop} (h1 : mm_in x2 60 = true) (g : K (.inl (some (.int (v 78 x2.toNatClampNeg)))) v) : mm_E kX5_pickBin 10 [.ref 0, .int x1, .int x2] [] v c K := by
  refine e_run 4 (pc1 := 18) (L1 := [.ref 0, .int x1, .int x2]) (S1 := [.int x2, .ref 78]) (v1 := v) rfl ?_
  refine e_iald rfl rfl (by decide) h1 ?_
  exact e_iret (ty := .int) rfl rfl rfl g
theorem bX5_pickLot_0 {x1 : Int32} {x2 : Int32} {v : mmM} {c : Nat} {K : mmO → mmM → Prop} (hc : c + mm_mc kX5_loadLines ≤ mm_mc kX5_pickLot) (g : mm_M kX5_loadLines [.ref 0, .int x1] v (mm_Kc kX5_pickLot 5 [.ref 0, .int x1, .int x2] [] (c + mm_mc kX5_loadLines) K)) : mm_E kX5_pickLot 0 [.ref 0, .int x1, .int x2] [] v c K := by
  refine e_run 2 (pc1 := 2) (L1 := [.ref 0, .int x1, .int x2]) (S1 := [.int x1, .ref 0]) (v1 := v) rfl ?_
  exact e_cl (j := kX5_loadLines) rfl hc g
theorem bX5_pickLot_5 {x1 : Int32} {x2 : Int32} {v : mmM} {c : Nat} {K : mmO → mmM → Prop} (hc : c + mm_mc kX5_requireLine ≤ mm_mc kX5_pickLot) (g : mm_M kX5_requireLine [.ref 0, .int x2] v (mm_Kc kX5_pickLot 10 [.ref 0, .int x1, .int x2] [] (c + mm_mc kX5_requireLine) K)) : mm_E kX5_pickLot 5 [.ref 0, .int x1, .int x2] [] v c K := by
  refine e_run 2 (pc1 := 7) (L1 := [.ref 0, .int x1, .int x2]) (S1 := [.int x2, .ref 0]) (v1 := v) rfl ?_
  exact e_cl (j := kX5_requireLine) rfl hc g
theorem bX5_pickLot_10 {x1 : Int32} {x2 : Int32} {v : mmM} {c : Nat} {K : mmO → mmM → Prop} (h1 : mm_in x2 60 = true) (g : K (.inl (some (.int (v 79 x2.toNatClampNeg)))) v) : mm_E kX5_pickLot 10 [.ref 0, .int x1, .int x2] [] v c K := by
  refine e_run 4 (pc1 := 18) (L1 := [.ref 0, .int x1, .int x2]) (S1 := [.int x2, .ref 79]) (v1 := v) rfl ?_
  refine e_iald rfl rfl (by decide) h1 ?_
  exact e_iret (ty := .int) rfl rfl rfl g
theorem bX5_pickQuantity_0 {x1 : Int32} {x2 : Int32} {v : mmM} {c : Nat} {K : mmO → mmM → Prop} (hc : c + mm_mc kX5_loadLines ≤ mm_mc kX5_pickQuantity) (g : mm_M kX5_loadLines [.ref 0, .int x1] v (mm_Kc kX5_pickQuantity 5 [.ref 0, .int x1, .int x2] [] (c + mm_mc kX5_loadLines) K)) : mm_E kX5_pickQuantity 0 [.ref 0, .int x1, .int x2] [] v c K := by
  refine e_run 2 (pc1 := 2) (L1 := [.ref 0, .int x1, .int x2]) (S1 := [.int x1, .ref 0]) (v1 := v) rfl ?_
  exact e_cl (j := kX5_loadLines) rfl hc g
theorem bX5_pickQuantity_5 {x1 : Int32} {x2 : Int32} {v : mmM} {c : Nat} {K : mmO → mmM → Prop} (hc : c + mm_mc kX5_requireLine ≤ mm_mc kX5_pickQuantity) (g : mm_M kX5_requireLine [.ref 0, .int x2] v (mm_Kc kX5_pickQuantity 10 [.ref 0, .int x1, .int x2] [] (c + mm_mc kX5_requireLine) K)) : mm_E kX5_pickQuantity 5 [.ref 0, .int x1, .int x2] [] v c K := by
  refine e_run 2 (pc1 := 7) (L1 := [.ref 0, .int x1, .int x2]) (S1 := [.int x2, .ref 0]) (v1 := v) rfl ?_
  exact e_cl (j := kX5_requireLine) rfl hc g
theorem bX5_pickQuantity_10 {x1 : Int32} {x2 : Int32} {v : mmM} {c : Nat} {K : mmO → mmM → Prop} (h1 : mm_in x2 60 = true) (g : K (.inl (some (.int (v 80 x2.toNatClampNeg)))) v) : mm_E kX5_pickQuantity 10 [.ref 0, .int x1, .int x2] [] v c K := by
  refine e_run 4 (pc1 := 18) (L1 := [.ref 0, .int x1, .int x2]) (S1 := [.int x2, .ref 80]) (v1 := v) rfl ?_
  refine e_iald rfl rfl (by decide) h1 ?_
  exact e_iret (ty := .int) rfl rfl rfl g
theorem bX5_walk_0 {x1 : Int32} {v : mmM} {c : Nat} {K : mmO → mmM → Prop} (hc : c + mm_mc kX5_loadLines ≤ mm_mc kX5_walk) (g : mm_M kX5_loadLines [.ref 0, .int x1] v (mm_Kc kX5_walk 5 [.ref 0, .int x1] [] (c + mm_mc kX5_loadLines) K)) : mm_E kX5_walk 0 [.ref 0, .int x1] [] v c K := by
  refine e_run 2 (pc1 := 2) (L1 := [.ref 0, .int x1]) (S1 := [.int x1, .ref 0]) (v1 := v) rfl ?_
  exact e_cl (j := kX5_loadLines) rfl hc g
theorem bX5_walk_5 {x1 : Int32} {v : mmM} {c : Nat} {K : mmO → mmM → Prop} (hc : c + mm_mc kX3_shortestWalk ≤ mm_mc kX5_walk) (g : mm_M kX3_shortestWalk [.ref 5] v (mm_Kc kX5_walk 12 [.ref 0, .int x1] [] (c + mm_mc kX3_shortestWalk) K)) : mm_E kX5_walk 5 [.ref 0, .int x1] [] v c K := by
  refine e_run 2 (pc1 := 9) (L1 := [.ref 0, .int x1]) (S1 := [.ref 5]) (v1 := v) rfl ?_
  exact e_cl (j := kX3_shortestWalk) rfl hc g
theorem bX5_walk_12 {x1 : Int32} {y0 : Int32} {v : mmM} {c : Nat} {K : mmO → mmM → Prop} (g : K (.inl (some (.int y0))) v) : mm_E kX5_walk 12 [.ref 0, .int x1] [.int y0] v c K := by
  exact e_iret (ty := .int) rfl rfl rfl g
theorem bX5_walkByTrying_0 {x1 : Int32} {v : mmM} {c : Nat} {K : mmO → mmM → Prop} (hc : c + mm_mc kX5_loadLines ≤ mm_mc kX5_walkByTrying) (g : mm_M kX5_loadLines [.ref 0, .int x1] v (mm_Kc kX5_walkByTrying 5 [.ref 0, .int x1] [] (c + mm_mc kX5_loadLines) K)) : mm_E kX5_walkByTrying 0 [.ref 0, .int x1] [] v c K := by
  refine e_run 2 (pc1 := 2) (L1 := [.ref 0, .int x1]) (S1 := [.int x1, .ref 0]) (v1 := v) rfl ?_
  exact e_cl (j := kX5_loadLines) rfl hc g
theorem bX5_walkByTrying_5 {x1 : Int32} {v : mmM} {c : Nat} {K : mmO → mmM → Prop} (hc : c + mm_mc kX3_shortestWalkByTrying ≤ mm_mc kX5_walkByTrying) (g : mm_M kX3_shortestWalkByTrying [.ref 5] v (mm_Kc kX5_walkByTrying 12 [.ref 0, .int x1] [] (c + mm_mc kX3_shortestWalkByTrying) K)) : mm_E kX5_walkByTrying 5 [.ref 0, .int x1] [] v c K := by
  refine e_run 2 (pc1 := 9) (L1 := [.ref 0, .int x1]) (S1 := [.ref 5]) (v1 := v) rfl ?_
  exact e_cl (j := kX3_shortestWalkByTrying) rfl hc g
theorem bX5_walkByTrying_12 {x1 : Int32} {y0 : Int32} {v : mmM} {c : Nat} {K : mmO → mmM → Prop} (g : K (.inl (some (.int y0))) v) : mm_E kX5_walkByTrying 12 [.ref 0, .int x1] [.int y0] v c K := by
  exact e_iret (ty := .int) rfl rfl rfl g
theorem bX5_pass_0 {x1 : Int32} {v : mmM} {c : Nat} {K : mmO → mmM → Prop} (hc : c + mm_mc kX5_requireBetween ≤ mm_mc kX5_pass) (g : mm_M kX5_requireBetween [.ref 0, .int x1, .int (1 : Int32), .int (30 : Int32)] v (mm_Kc kX5_pass 8 [.ref 0, .int x1] [] (c + mm_mc kX5_requireBetween) K)) : mm_E kX5_pass 0 [.ref 0, .int x1] [] v c K := by
  refine e_run 4 (pc1 := 5) (L1 := [.ref 0, .int x1]) (S1 := [.int (30 : Int32), .int (1 : Int32), .int x1, .ref 0]) (v1 := v) rfl ?_
  exact e_cl (j := kX5_requireBetween) rfl hc g
theorem bX5_pass_8 {x1 : Int32} {v : mmM} {c : Nat} {K : mmO → mmM → Prop} (hc : c + mm_mc kX4_lapseBefore ≤ mm_mc kX5_pass) (g : mm_M kX4_lapseBefore [.ref 3, .int ((v 0 7) + x1)] (mm_up v 0 7 ((v 0 7) + x1)) (mm_Kc kX5_pass 29 [.ref 0, .int x1] [] (c + mm_mc kX4_lapseBefore) K)) : mm_E kX5_pass 8 [.ref 0, .int x1] [] v c K := by
  refine e_run 10 (pc1 := 26) (L1 := [.ref 0, .int x1]) (S1 := [.int ((v 0 7) + x1), .ref 3]) (v1 := mm_up v 0 7 ((v 0 7) + x1)) rfl ?_
  exact e_cl (j := kX4_lapseBefore) rfl hc g
theorem bX5_pass_29 {x1 : Int32} {y0 : Int32} {v : mmM} {c : Nat} {K : mmO → mmM → Prop} (g : K (.inl (some (.int y0))) v) : mm_E kX5_pass 29 [.ref 0, .int x1] [.int y0] v c K := by
  exact e_iret (ty := .int) rfl rfl rfl g
theorem bX5_day_0  {v : mmM} {c : Nat} {K : mmO → mmM → Prop} (g : K (.inl (some (.int (v 0 7)))) v) : mm_E kX5_day 0 [.ref 0] [] v c K := by
  refine e_run 2 (pc1 := 4) (L1 := [.ref 0]) (S1 := [.int (v 0 7)]) (v1 := v) rfl ?_
  exact e_iret (ty := .int) rfl rfl rfl g
theorem bX5_countsDue_0 {l1 : Value} {l2 : Value} {v : mmM} {c : Nat} {K : mmO → mmM → Prop} (g : mm_E kX5_countsDue 4 [.ref 0, .int (0 : Int32), .int (0 : Int32)] [] v c K) : mm_E kX5_countsDue 0 [.ref 0, l1, l2] [] v c K := by
  refine e_run 4 (pc1 := 4) (L1 := [.ref 0, .int (0 : Int32), .int (0 : Int32)]) (S1 := []) (v1 := v) rfl ?_
  exact g
theorem bX5_countsDue_4 {x1 : Int32} {x2 : Int32} {v : mmM} {c : Nat} {K : mmO → mmM → Prop} (g1 : (40 : Int32) ≤ x2 → mm_E kX5_countsDue 43 [.ref 0, .int x1, .int x2] [] v c K) (g2 : ¬ (40 : Int32) ≤ x2 → mm_E kX5_countsDue 10 [.ref 0, .int x1, .int x2] [] v c K) : mm_E kX5_countsDue 4 [.ref 0, .int x1, .int x2] [] v c K := by
  refine e_run 2 (pc1 := 7) (L1 := [.ref 0, .int x1, .int x2]) (S1 := [.int (40 : Int32), .int x2]) (v1 := v) rfl ?_
  exact e_if (p := (40 : Int32) ≤ x2) rfl g1 g2
theorem bX5_countsDue_10 {x1 : Int32} {x2 : Int32} {v : mmM} {c : Nat} {K : mmO → mmM → Prop} (h1 : mm_in x2 40 = true) (g1 : (v 45 x2.toNatClampNeg) ≤ 0 → mm_E kX5_countsDue 37 [.ref 0, .int x1, .int x2] [] v c K) (g2 : ¬ (v 45 x2.toNatClampNeg) ≤ 0 → mm_E kX5_countsDue 22 [.ref 0, .int x1, .int x2] [] v c K) : mm_E kX5_countsDue 10 [.ref 0, .int x1, .int x2] [] v c K := by
  refine e_run 4 (pc1 := 18) (L1 := [.ref 0, .int x1, .int x2]) (S1 := [.int x2, .ref 45]) (v1 := v) rfl ?_
  refine e_iald rfl rfl (by decide) h1 ?_
  exact e_if (p := (v 45 x2.toNatClampNeg) ≤ 0) rfl g1 g2
theorem bX5_countsDue_22 {x1 : Int32} {x2 : Int32} {v : mmM} {c : Nat} {K : mmO → mmM → Prop} (hc : c + mm_mc kX5_dayOfCount ≤ mm_mc kX5_countsDue) (g : mm_M kX5_dayOfCount [.ref 0, .int x2] v (mm_Kc kX5_countsDue 27 [.ref 0, .int x1, .int x2] [] (c + mm_mc kX5_dayOfCount) K)) : mm_E kX5_countsDue 22 [.ref 0, .int x1, .int x2] [] v c K := by
  refine e_run 2 (pc1 := 24) (L1 := [.ref 0, .int x1, .int x2]) (S1 := [.int x2, .ref 0]) (v1 := v) rfl ?_
  exact e_cl (j := kX5_dayOfCount) rfl hc g
theorem bX5_countsDue_27 {x1 : Int32} {x2 : Int32} {y0 : Int32} {v : mmM} {c : Nat} {K : mmO → mmM → Prop} (g1 : (v 0 7) < y0 → mm_E kX5_countsDue 37 [.ref 0, .int x1, .int x2] [] v c K) (g2 : ¬ (v 0 7) < y0 → mm_E kX5_countsDue 34 [.ref 0, .int x1, .int x2] [] v c K) : mm_E kX5_countsDue 27 [.ref 0, .int x1, .int x2] [.int y0] v c K := by
  refine e_run 2 (pc1 := 31) (L1 := [.ref 0, .int x1, .int x2]) (S1 := [.int (v 0 7), .int y0]) (v1 := v) rfl ?_
  exact e_if (p := (v 0 7) < y0) rfl g1 g2
theorem bX5_countsDue_34 {x1 : Int32} {x2 : Int32} {v : mmM} {c : Nat} {K : mmO → mmM → Prop} (g : mm_E kX5_countsDue 37 [.ref 0, .int (x1 + (1 : Int32)), .int x2] [] v c K) : mm_E kX5_countsDue 34 [.ref 0, .int x1, .int x2] [] v c K := by
  refine e_run 1 (pc1 := 37) (L1 := [.ref 0, .int (x1 + (1 : Int32)), .int x2]) (S1 := []) (v1 := v) rfl ?_
  exact g
theorem bX5_countsDue_37 {x1 : Int32} {x2 : Int32} {v : mmM} {c : Nat} {K : mmO → mmM → Prop} (g : mm_E kX5_countsDue 4 [.ref 0, .int x1, .int (x2 + (1 : Int32))] [] v c K) : mm_E kX5_countsDue 37 [.ref 0, .int x1, .int x2] [] v c K := by
  refine e_run 2 (pc1 := 4) (L1 := [.ref 0, .int x1, .int (x2 + (1 : Int32))]) (S1 := []) (v1 := v) rfl ?_
  exact g
theorem bX5_countsDue_43 {x1 : Int32} {x2 : Int32} {v : mmM} {c : Nat} {K : mmO → mmM → Prop} (g : K (.inl (some (.int x1))) v) : mm_E kX5_countsDue 43 [.ref 0, .int x1, .int x2] [] v c K := by
  refine e_run 1 (pc1 := 44) (L1 := [.ref 0, .int x1, .int x2]) (S1 := [.int x1]) (v1 := v) rfl ?_
  exact e_iret (ty := .int) rfl rfl rfl g
theorem bX5_nextCount_0 {l1 : Value} {l2 : Value} {l3 : Value} {l4 : Value} {v : mmM} {c : Nat} {K : mmO → mmM → Prop} (g : mm_E kX5_nextCount 6 [.ref 0, .int (-1 : Int32), .int (0 : Int32), .int (0 : Int32), l4] [] v c K) : mm_E kX5_nextCount 0 [.ref 0, l1, l2, l3, l4] [] v c K := by
  refine e_run 6 (pc1 := 6) (L1 := [.ref 0, .int (-1 : Int32), .int (0 : Int32), .int (0 : Int32), l4]) (S1 := []) (v1 := v) rfl ?_
  exact g
theorem bX5_nextCount_6 {x1 : Int32} {x2 : Int32} {x3 : Int32} {l4 : Value} {v : mmM} {c : Nat} {K : mmO → mmM → Prop} (g1 : (40 : Int32) ≤ x3 → mm_E kX5_nextCount 62 [.ref 0, .int x1, .int x2, .int x3, l4] [] v c K) (g2 : ¬ (40 : Int32) ≤ x3 → mm_E kX5_nextCount 12 [.ref 0, .int x1, .int x2, .int x3, l4] [] v c K) : mm_E kX5_nextCount 6 [.ref 0, .int x1, .int x2, .int x3, l4] [] v c K := by
  refine e_run 2 (pc1 := 9) (L1 := [.ref 0, .int x1, .int x2, .int x3, l4]) (S1 := [.int (40 : Int32), .int x3]) (v1 := v) rfl ?_
  exact e_if (p := (40 : Int32) ≤ x3) rfl g1 g2
theorem bX5_nextCount_12 {x1 : Int32} {x2 : Int32} {x3 : Int32} {l4 : Value} {v : mmM} {c : Nat} {K : mmO → mmM → Prop} (hc : c + mm_mc kX5_alongRoute ≤ mm_mc kX5_nextCount) (g : mm_M kX5_alongRoute [.int x3] v (mm_Kc kX5_nextCount 16 [.ref 0, .int x1, .int x2, .int x3, l4] [] (c + mm_mc kX5_alongRoute) K)) : mm_E kX5_nextCount 12 [.ref 0, .int x1, .int x2, .int x3, l4] [] v c K := by
  refine e_run 1 (pc1 := 13) (L1 := [.ref 0, .int x1, .int x2, .int x3, l4]) (S1 := [.int x3]) (v1 := v) rfl ?_
  exact e_cl (j := kX5_alongRoute) rfl hc g
theorem bX5_nextCount_16 {x1 : Int32} {x2 : Int32} {x3 : Int32} {l4 : Value} {y0 : Int32} {v : mmM} {c : Nat} {K : mmO → mmM → Prop} (h1 : mm_in y0 40 = true) (g1 : (v 45 y0.toNatClampNeg) ≤ 0 → mm_E kX5_nextCount 56 [.ref 0, .int x1, .int x2, .int x3, .int y0] [] v c K) (g2 : ¬ (v 45 y0.toNatClampNeg) ≤ 0 → mm_E kX5_nextCount 31 [.ref 0, .int x1, .int x2, .int x3, .int y0] [] v c K) : mm_E kX5_nextCount 16 [.ref 0, .int x1, .int x2, .int x3, l4] [.int y0] v c K := by
  refine e_run 5 (pc1 := 27) (L1 := [.ref 0, .int x1, .int x2, .int x3, .int y0]) (S1 := [.int y0, .ref 45]) (v1 := v) rfl ?_
  refine e_iald rfl rfl (by decide) h1 ?_
  exact e_if (p := (v 45 y0.toNatClampNeg) ≤ 0) rfl g1 g2
theorem bX5_nextCount_31 {x1 : Int32} {x2 : Int32} {x3 : Int32} {x4 : Int32} {v : mmM} {c : Nat} {K : mmO → mmM → Prop} (g1 : x1 = (-1 : Int32) → mm_E kX5_nextCount 46 [.ref 0, .int x1, .int x2, .int x3, .int x4] [] v c K) (g2 : ¬ x1 = (-1 : Int32) → mm_E kX5_nextCount 36 [.ref 0, .int x1, .int x2, .int x3, .int x4] [] v c K) : mm_E kX5_nextCount 31 [.ref 0, .int x1, .int x2, .int x3, .int x4] [] v c K := by
  refine e_run 2 (pc1 := 33) (L1 := [.ref 0, .int x1, .int x2, .int x3, .int x4]) (S1 := [.int (-1 : Int32), .int x1]) (v1 := v) rfl ?_
  exact e_if (p := x1 = (-1 : Int32)) rfl g1 g2
theorem bX5_nextCount_36 {x1 : Int32} {x2 : Int32} {x3 : Int32} {x4 : Int32} {v : mmM} {c : Nat} {K : mmO → mmM → Prop} (hc : c + mm_mc kX5_dayOfCount ≤ mm_mc kX5_nextCount) (g : mm_M kX5_dayOfCount [.ref 0, .int x4] v (mm_Kc kX5_nextCount 42 [.ref 0, .int x1, .int x2, .int x3, .int x4] [] (c + mm_mc kX5_dayOfCount) K)) : mm_E kX5_nextCount 36 [.ref 0, .int x1, .int x2, .int x3, .int x4] [] v c K := by
  refine e_run 2 (pc1 := 39) (L1 := [.ref 0, .int x1, .int x2, .int x3, .int x4]) (S1 := [.int x4, .ref 0]) (v1 := v) rfl ?_
  exact e_cl (j := kX5_dayOfCount) rfl hc g
theorem bX5_nextCount_42 {x1 : Int32} {x2 : Int32} {x3 : Int32} {x4 : Int32} {y0 : Int32} {v : mmM} {c : Nat} {K : mmO → mmM → Prop} (g1 : x2 ≤ y0 → mm_E kX5_nextCount 56 [.ref 0, .int x1, .int x2, .int x3, .int x4] [] v c K) (g2 : ¬ x2 ≤ y0 → mm_E kX5_nextCount 46 [.ref 0, .int x1, .int x2, .int x3, .int x4] [] v c K) : mm_E kX5_nextCount 42 [.ref 0, .int x1, .int x2, .int x3, .int x4] [.int y0] v c K := by
  refine e_run 1 (pc1 := 43) (L1 := [.ref 0, .int x1, .int x2, .int x3, .int x4]) (S1 := [.int x2, .int y0]) (v1 := v) rfl ?_
  exact e_if (p := x2 ≤ y0) rfl g1 g2
theorem bX5_nextCount_46 {x1 : Int32} {x2 : Int32} {x3 : Int32} {x4 : Int32} {v : mmM} {c : Nat} {K : mmO → mmM → Prop} (hc : c + mm_mc kX5_dayOfCount ≤ mm_mc kX5_nextCount) (g : mm_M kX5_dayOfCount [.ref 0, .int x4] v (mm_Kc kX5_nextCount 55 [.ref 0, .int x4, .int x2, .int x3, .int x4] [] (c + mm_mc kX5_dayOfCount) K)) : mm_E kX5_nextCount 46 [.ref 0, .int x1, .int x2, .int x3, .int x4] [] v c K := by
  refine e_run 4 (pc1 := 52) (L1 := [.ref 0, .int x4, .int x2, .int x3, .int x4]) (S1 := [.int x4, .ref 0]) (v1 := v) rfl ?_
  exact e_cl (j := kX5_dayOfCount) rfl hc g
theorem bX5_nextCount_55 {x1 : Int32} {x2 : Int32} {x3 : Int32} {x4 : Int32} {y0 : Int32} {v : mmM} {c : Nat} {K : mmO → mmM → Prop} (g : mm_E kX5_nextCount 56 [.ref 0, .int x1, .int y0, .int x3, .int x4] [] v c K) : mm_E kX5_nextCount 55 [.ref 0, .int x1, .int x2, .int x3, .int x4] [.int y0] v c K := by
  refine e_run 1 (pc1 := 56) (L1 := [.ref 0, .int x1, .int y0, .int x3, .int x4]) (S1 := []) (v1 := v) rfl ?_
  exact g
theorem bX5_nextCount_56 {x1 : Int32} {x2 : Int32} {x3 : Int32} {x4 : Int32} {v : mmM} {c : Nat} {K : mmO → mmM → Prop} (g : mm_E kX5_nextCount 6 [.ref 0, .int x1, .int x2, .int (x3 + (1 : Int32)), .int x4] [] v c K) : mm_E kX5_nextCount 56 [.ref 0, .int x1, .int x2, .int x3, .int x4] [] v c K := by
  refine e_run 2 (pc1 := 6) (L1 := [.ref 0, .int x1, .int x2, .int (x3 + (1 : Int32)), .int x4]) (S1 := []) (v1 := v) rfl ?_
  exact g
theorem bX5_nextCount_62 {x1 : Int32} {x2 : Int32} {x3 : Int32} {l4 : Value} {v : mmM} {c : Nat} {K : mmO → mmM → Prop} (g1 : x1 = (-1 : Int32) → mm_E kX5_nextCount 67 [.ref 0, .int x1, .int x2, .int x3, l4] [] v c K) (g2 : ¬ x1 = (-1 : Int32) → mm_E kX5_nextCount 77 [.ref 0, .int x1, .int x2, .int x3, l4] [] v c K) : mm_E kX5_nextCount 62 [.ref 0, .int x1, .int x2, .int x3, l4] [] v c K := by
  refine e_run 2 (pc1 := 64) (L1 := [.ref 0, .int x1, .int x2, .int x3, l4]) (S1 := [.int (-1 : Int32), .int x1]) (v1 := v) rfl ?_
  exact e_if (p := x1 = (-1 : Int32)) rfl g1 g2
theorem bX5_nextCount_67 {x1 : Int32} {x2 : Int32} {x3 : Int32} {l4 : Value} {v : mmM} {c : Nat} {K : mmO → mmM → Prop} (hc : c + 1 ≤ mm_mc kX5_nextCount) (g : K (.inr 4) v) : mm_E kX5_nextCount 67 [.ref 0, .int x1, .int x2, .int x3, l4] [] v c K := by
  exact e_th (e := 4) rfl hc g
theorem bX5_nextCount_77 {x1 : Int32} {x2 : Int32} {x3 : Int32} {l4 : Value} {v : mmM} {c : Nat} {K : mmO → mmM → Prop} (g : K (.inl (some (.int x1))) v) : mm_E kX5_nextCount 77 [.ref 0, .int x1, .int x2, .int x3, l4] [] v c K := by
  refine e_run 1 (pc1 := 78) (L1 := [.ref 0, .int x1, .int x2, .int x3, l4]) (S1 := [.int x1]) (v1 := v) rfl ?_
  exact e_iret (ty := .int) rfl rfl rfl g
theorem bX5_countDay_0 {x1 : Int32} {v : mmM} {c : Nat} {K : mmO → mmM → Prop} (hc : c + mm_mc kX5_requireBin ≤ mm_mc kX5_countDay) (g : mm_M kX5_requireBin [.ref 0, .int x1] v (mm_Kc kX5_countDay 5 [.ref 0, .int x1] [] (c + mm_mc kX5_requireBin) K)) : mm_E kX5_countDay 0 [.ref 0, .int x1] [] v c K := by
  refine e_run 2 (pc1 := 2) (L1 := [.ref 0, .int x1]) (S1 := [.int x1, .ref 0]) (v1 := v) rfl ?_
  exact e_cl (j := kX5_requireBin) rfl hc g
theorem bX5_countDay_5 {x1 : Int32} {v : mmM} {c : Nat} {K : mmO → mmM → Prop} (h1 : mm_in x1 40 = true) (g1 : (v 45 x1.toNatClampNeg) = 0 → mm_E kX5_countDay 17 [.ref 0, .int x1] [] v c K) (g2 : ¬ (v 45 x1.toNatClampNeg) = 0 → mm_E kX5_countDay 27 [.ref 0, .int x1] [] v c K) : mm_E kX5_countDay 5 [.ref 0, .int x1] [] v c K := by
  refine e_run 4 (pc1 := 13) (L1 := [.ref 0, .int x1]) (S1 := [.int x1, .ref 45]) (v1 := v) rfl ?_
  refine e_iald rfl rfl (by decide) h1 ?_
  exact e_if (p := (v 45 x1.toNatClampNeg) = 0) rfl g1 g2
theorem bX5_countDay_17 {x1 : Int32} {v : mmM} {c : Nat} {K : mmO → mmM → Prop} (hc : c + 1 ≤ mm_mc kX5_countDay) (g : K (.inr 4) v) : mm_E kX5_countDay 17 [.ref 0, .int x1] [] v c K := by
  exact e_th (e := 4) rfl hc g
theorem bX5_countDay_27 {x1 : Int32} {v : mmM} {c : Nat} {K : mmO → mmM → Prop} (hc : c + mm_mc kX5_dayOfCount ≤ mm_mc kX5_countDay) (g : mm_M kX5_dayOfCount [.ref 0, .int x1] v (mm_Kc kX5_countDay 32 [.ref 0, .int x1] [] (c + mm_mc kX5_dayOfCount) K)) : mm_E kX5_countDay 27 [.ref 0, .int x1] [] v c K := by
  refine e_run 2 (pc1 := 29) (L1 := [.ref 0, .int x1]) (S1 := [.int x1, .ref 0]) (v1 := v) rfl ?_
  exact e_cl (j := kX5_dayOfCount) rfl hc g
theorem bX5_countDay_32 {x1 : Int32} {y0 : Int32} {v : mmM} {c : Nat} {K : mmO → mmM → Prop} (g : K (.inl (some (.int y0))) v) : mm_E kX5_countDay 32 [.ref 0, .int x1] [.int y0] v c K := by
  exact e_iret (ty := .int) rfl rfl rfl g
theorem bX5_stock_0 {x1 : Int32} {x2 : Int32} {v : mmM} {c : Nat} {K : mmO → mmM → Prop} (hc : c + mm_mc kX5_requireLot ≤ mm_mc kX5_stock) (g : mm_M kX5_requireLot [.ref 0, .int x1] v (mm_Kc kX5_stock 5 [.ref 0, .int x1, .int x2] [] (c + mm_mc kX5_requireLot) K)) : mm_E kX5_stock 0 [.ref 0, .int x1, .int x2] [] v c K := by
  refine e_run 2 (pc1 := 2) (L1 := [.ref 0, .int x1, .int x2]) (S1 := [.int x1, .ref 0]) (v1 := v) rfl ?_
  exact e_cl (j := kX5_requireLot) rfl hc g
theorem bX5_stock_5 {x1 : Int32} {x2 : Int32} {v : mmM} {c : Nat} {K : mmO → mmM → Prop} (hc : c + mm_mc kX5_requireBin ≤ mm_mc kX5_stock) (g : mm_M kX5_requireBin [.ref 0, .int x2] v (mm_Kc kX5_stock 10 [.ref 0, .int x1, .int x2] [] (c + mm_mc kX5_requireBin) K)) : mm_E kX5_stock 5 [.ref 0, .int x1, .int x2] [] v c K := by
  refine e_run 2 (pc1 := 7) (L1 := [.ref 0, .int x1, .int x2]) (S1 := [.int x2, .ref 0]) (v1 := v) rfl ?_
  exact e_cl (j := kX5_requireBin) rfl hc g
theorem bX5_stock_10 {x1 : Int32} {x2 : Int32} {v : mmM} {c : Nat} {K : mmO → mmM → Prop} (h1 : mm_in x1 24 = true) (h2 : mm_in x2 40 = true) (g : K (.inl (some (.int (v (20 + x1.toNatClampNeg) x2.toNatClampNeg)))) v) : mm_E kX5_stock 10 [.ref 0, .int x1, .int x2] [] v c K := by
  refine e_run 4 (pc1 := 18) (L1 := [.ref 0, .int x1, .int x2]) (S1 := [.int x1, .ref 19]) (v1 := v) rfl ?_
  refine e_aald rfl rfl (by decide) h1 ?_
  refine e_run 1 (pc1 := 20) (L1 := [.ref 0, .int x1, .int x2]) (S1 := [.int x2, .ref (20 + x1.toNatClampNeg)]) (v1 := v) rfl ?_
  refine e_iald rfl (mm_rows (P := fun x => mm_sh (20 + x) = (0, 40, 0, [])) (by decide +kernel) (mm_in_lt h1)) (by have := (mm_in_lt h1); show _ < 81; omega) h2 ?_
  exact e_iret (ty := .int) rfl rfl rfl g
theorem bX5_stockByJournal_0 {x1 : Int32} {x2 : Int32} {v : mmM} {c : Nat} {K : mmO → mmM → Prop} (hc : c + mm_mc kX5_requireLot ≤ mm_mc kX5_stockByJournal) (g : mm_M kX5_requireLot [.ref 0, .int x1] v (mm_Kc kX5_stockByJournal 5 [.ref 0, .int x1, .int x2] [] (c + mm_mc kX5_requireLot) K)) : mm_E kX5_stockByJournal 0 [.ref 0, .int x1, .int x2] [] v c K := by
  refine e_run 2 (pc1 := 2) (L1 := [.ref 0, .int x1, .int x2]) (S1 := [.int x1, .ref 0]) (v1 := v) rfl ?_
  exact e_cl (j := kX5_requireLot) rfl hc g
theorem bX5_stockByJournal_5 {x1 : Int32} {x2 : Int32} {v : mmM} {c : Nat} {K : mmO → mmM → Prop} (hc : c + mm_mc kX5_requireBin ≤ mm_mc kX5_stockByJournal) (g : mm_M kX5_requireBin [.ref 0, .int x2] v (mm_Kc kX5_stockByJournal 10 [.ref 0, .int x1, .int x2] [] (c + mm_mc kX5_requireBin) K)) : mm_E kX5_stockByJournal 5 [.ref 0, .int x1, .int x2] [] v c K := by
  refine e_run 2 (pc1 := 7) (L1 := [.ref 0, .int x1, .int x2]) (S1 := [.int x2, .ref 0]) (v1 := v) rfl ?_
  exact e_cl (j := kX5_requireBin) rfl hc g
theorem bX5_stockByJournal_10 {x1 : Int32} {x2 : Int32} {v : mmM} {c : Nat} {K : mmO → mmM → Prop} (hc : c + mm_mc kX2_unitsIn ≤ mm_mc kX5_stockByJournal) (g : mm_M kX2_unitsIn [.ref 4, .int x1, .int x2] v (mm_Kc kX5_stockByJournal 19 [.ref 0, .int x1, .int x2] [] (c + mm_mc kX2_unitsIn) K)) : mm_E kX5_stockByJournal 10 [.ref 0, .int x1, .int x2] [] v c K := by
  refine e_run 4 (pc1 := 16) (L1 := [.ref 0, .int x1, .int x2]) (S1 := [.int x2, .int x1, .ref 4]) (v1 := v) rfl ?_
  exact e_cl (j := kX2_unitsIn) rfl hc g
theorem bX5_stockByJournal_19 {x1 : Int32} {x2 : Int32} {y0 : Int32} {v : mmM} {c : Nat} {K : mmO → mmM → Prop} (g : K (.inl (some (.int y0))) v) : mm_E kX5_stockByJournal 19 [.ref 0, .int x1, .int x2] [.int y0] v c K := by
  exact e_iret (ty := .int) rfl rfl rfl g
theorem bX5_load_0 {x1 : Int32} {v : mmM} {c : Nat} {K : mmO → mmM → Prop} (hc : c + mm_mc kX5_requireBin ≤ mm_mc kX5_load) (g : mm_M kX5_requireBin [.ref 0, .int x1] v (mm_Kc kX5_load 5 [.ref 0, .int x1] [] (c + mm_mc kX5_requireBin) K)) : mm_E kX5_load 0 [.ref 0, .int x1] [] v c K := by
  refine e_run 2 (pc1 := 2) (L1 := [.ref 0, .int x1]) (S1 := [.int x1, .ref 0]) (v1 := v) rfl ?_
  exact e_cl (j := kX5_requireBin) rfl hc g
theorem bX5_load_5 {x1 : Int32} {v : mmM} {c : Nat} {K : mmO → mmM → Prop} (h1 : mm_in x1 40 = true) (g : K (.inl (some (.int (v 45 x1.toNatClampNeg)))) v) : mm_E kX5_load 5 [.ref 0, .int x1] [] v c K := by
  refine e_run 4 (pc1 := 13) (L1 := [.ref 0, .int x1]) (S1 := [.int x1, .ref 45]) (v1 := v) rfl ?_
  refine e_iald rfl rfl (by decide) h1 ?_
  exact e_iret (ty := .int) rfl rfl rfl g
theorem bX5_lots_0  {v : mmM} {c : Nat} {K : mmO → mmM → Prop} (g : K (.inl (some (.int (v 2 0)))) v) : mm_E kX5_lots 0 [.ref 0] [] v c K := by
  refine e_run 3 (pc1 := 7) (L1 := [.ref 0]) (S1 := [.int (v 2 0)]) (v1 := v) rfl ?_
  exact e_iret (ty := .int) rfl rfl rfl g
theorem bX5_nextLot_0 {x1 : Int32} {x2 : Int32} {l3 : Value} {v : mmM} {c : Nat} {K : mmO → mmM → Prop} (hc : c + mm_mc kX5_requireItem ≤ mm_mc kX5_nextLot) (g : mm_M kX5_requireItem [.ref 0, .int x1] v (mm_Kc kX5_nextLot 5 [.ref 0, .int x1, .int x2, l3] [] (c + mm_mc kX5_requireItem) K)) : mm_E kX5_nextLot 0 [.ref 0, .int x1, .int x2, l3] [] v c K := by
  refine e_run 2 (pc1 := 2) (L1 := [.ref 0, .int x1, .int x2, l3]) (S1 := [.int x1, .ref 0]) (v1 := v) rfl ?_
  exact e_cl (j := kX5_requireItem) rfl hc g
theorem bX5_nextLot_5 {x1 : Int32} {x2 : Int32} {l3 : Value} {v : mmM} {c : Nat} {K : mmO → mmM → Prop} (hc : c + mm_mc kX0_firstLot ≤ mm_mc kX5_nextLot) (g : mm_M kX0_firstLot [.ref 2, .int x1, .int x2] v (mm_Kc kX5_nextLot 14 [.ref 0, .int x1, .int x2, l3] [] (c + mm_mc kX0_firstLot) K)) : mm_E kX5_nextLot 5 [.ref 0, .int x1, .int x2, l3] [] v c K := by
  refine e_run 4 (pc1 := 11) (L1 := [.ref 0, .int x1, .int x2, l3]) (S1 := [.int x2, .int x1, .ref 2]) (v1 := v) rfl ?_
  exact e_cl (j := kX0_firstLot) rfl hc g
theorem bX5_nextLot_14 {x1 : Int32} {x2 : Int32} {l3 : Value} {y0 : Int32} {v : mmM} {c : Nat} {K : mmO → mmM → Prop} (g1 : y0 = (-1 : Int32) → mm_E kX5_nextLot 20 [.ref 0, .int x1, .int x2, .int y0] [] v c K) (g2 : ¬ y0 = (-1 : Int32) → mm_E kX5_nextLot 30 [.ref 0, .int x1, .int x2, .int y0] [] v c K) : mm_E kX5_nextLot 14 [.ref 0, .int x1, .int x2, l3] [.int y0] v c K := by
  refine e_run 3 (pc1 := 17) (L1 := [.ref 0, .int x1, .int x2, .int y0]) (S1 := [.int (-1 : Int32), .int y0]) (v1 := v) rfl ?_
  exact e_if (p := y0 = (-1 : Int32)) rfl g1 g2
theorem bX5_nextLot_20 {x1 : Int32} {x2 : Int32} {x3 : Int32} {v : mmM} {c : Nat} {K : mmO → mmM → Prop} (hc : c + 1 ≤ mm_mc kX5_nextLot) (g : K (.inr 4) v) : mm_E kX5_nextLot 20 [.ref 0, .int x1, .int x2, .int x3] [] v c K := by
  exact e_th (e := 4) rfl hc g
theorem bX5_nextLot_30 {x1 : Int32} {x2 : Int32} {x3 : Int32} {v : mmM} {c : Nat} {K : mmO → mmM → Prop} (g : K (.inl (some (.int x3))) v) : mm_E kX5_nextLot 30 [.ref 0, .int x1, .int x2, .int x3] [] v c K := by
  refine e_run 1 (pc1 := 31) (L1 := [.ref 0, .int x1, .int x2, .int x3]) (S1 := [.int x3]) (v1 := v) rfl ?_
  exact e_iret (ty := .int) rfl rfl rfl g
theorem bX5_onHand_0 {x1 : Int32} {v : mmM} {c : Nat} {K : mmO → mmM → Prop} (hc : c + mm_mc kX5_requireItem ≤ mm_mc kX5_onHand) (g : mm_M kX5_requireItem [.ref 0, .int x1] v (mm_Kc kX5_onHand 5 [.ref 0, .int x1] [] (c + mm_mc kX5_requireItem) K)) : mm_E kX5_onHand 0 [.ref 0, .int x1] [] v c K := by
  refine e_run 2 (pc1 := 2) (L1 := [.ref 0, .int x1]) (S1 := [.int x1, .ref 0]) (v1 := v) rfl ?_
  exact e_cl (j := kX5_requireItem) rfl hc g
theorem bX5_onHand_5 {x1 : Int32} {v : mmM} {c : Nat} {K : mmO → mmM → Prop} (hc : c + mm_mc kX0_unitsFrom ≤ mm_mc kX5_onHand) (g : mm_M kX0_unitsFrom [.ref 2, .int x1, .int (v 0 7)] v (mm_Kc kX5_onHand 17 [.ref 0, .int x1] [] (c + mm_mc kX0_unitsFrom) K)) : mm_E kX5_onHand 5 [.ref 0, .int x1] [] v c K := by
  refine e_run 5 (pc1 := 14) (L1 := [.ref 0, .int x1]) (S1 := [.int (v 0 7), .int x1, .ref 2]) (v1 := v) rfl ?_
  exact e_cl (j := kX0_unitsFrom) rfl hc g
theorem bX5_onHand_17 {x1 : Int32} {y0 : Int32} {v : mmM} {c : Nat} {K : mmO → mmM → Prop} (g : K (.inl (some (.int y0))) v) : mm_E kX5_onHand 17 [.ref 0, .int x1] [.int y0] v c K := by
  exact e_iret (ty := .int) rfl rfl rfl g
theorem bX5_expired_0 {x1 : Int32} {v : mmM} {c : Nat} {K : mmO → mmM → Prop} (hc : c + mm_mc kX5_requireItem ≤ mm_mc kX5_expired) (g : mm_M kX5_requireItem [.ref 0, .int x1] v (mm_Kc kX5_expired 5 [.ref 0, .int x1] [] (c + mm_mc kX5_requireItem) K)) : mm_E kX5_expired 0 [.ref 0, .int x1] [] v c K := by
  refine e_run 2 (pc1 := 2) (L1 := [.ref 0, .int x1]) (S1 := [.int x1, .ref 0]) (v1 := v) rfl ?_
  exact e_cl (j := kX5_requireItem) rfl hc g
theorem bX5_expired_5 {x1 : Int32} {v : mmM} {c : Nat} {K : mmO → mmM → Prop} (hc : c + mm_mc kX0_unitsBefore ≤ mm_mc kX5_expired) (g : mm_M kX0_unitsBefore [.ref 2, .int x1, .int (v 0 7)] v (mm_Kc kX5_expired 17 [.ref 0, .int x1] [] (c + mm_mc kX0_unitsBefore) K)) : mm_E kX5_expired 5 [.ref 0, .int x1] [] v c K := by
  refine e_run 5 (pc1 := 14) (L1 := [.ref 0, .int x1]) (S1 := [.int (v 0 7), .int x1, .ref 2]) (v1 := v) rfl ?_
  exact e_cl (j := kX0_unitsBefore) rfl hc g
theorem bX5_expired_17 {x1 : Int32} {y0 : Int32} {v : mmM} {c : Nat} {K : mmO → mmM → Prop} (g : K (.inl (some (.int y0))) v) : mm_E kX5_expired 17 [.ref 0, .int x1] [.int y0] v c K := by
  exact e_iret (ty := .int) rfl rfl rfl g
theorem bX5_entries_0  {v : mmM} {c : Nat} {K : mmO → mmM → Prop} (g : K (.inl (some (.int (v 4 0)))) v) : mm_E kX5_entries 0 [.ref 0] [] v c K := by
  refine e_run 3 (pc1 := 7) (L1 := [.ref 0]) (S1 := [.int (v 4 0)]) (v1 := v) rfl ?_
  exact e_iret (ty := .int) rfl rfl rfl g
theorem bX5_entryKind_0 {x1 : Int32} {v : mmM} {c : Nat} {K : mmO → mmM → Prop} (hc : c + mm_mc kX5_requireEntry ≤ mm_mc kX5_entryKind) (g : mm_M kX5_requireEntry [.ref 0, .int x1] v (mm_Kc kX5_entryKind 5 [.ref 0, .int x1] [] (c + mm_mc kX5_requireEntry) K)) : mm_E kX5_entryKind 0 [.ref 0, .int x1] [] v c K := by
  refine e_run 2 (pc1 := 2) (L1 := [.ref 0, .int x1]) (S1 := [.int x1, .ref 0]) (v1 := v) rfl ?_
  exact e_cl (j := kX5_requireEntry) rfl hc g
theorem bX5_entryKind_5 {x1 : Int32} {v : mmM} {c : Nat} {K : mmO → mmM → Prop} (h1 : mm_in x1 150 = true) (h2 : narrow .char (.int (v 72 x1.toNatClampNeg)) = .int (v 72 x1.toNatClampNeg)) (g : K (.inl (some (.int (v 72 x1.toNatClampNeg)))) v) : mm_E kX5_entryKind 5 [.ref 0, .int x1] [] v c K := by
  refine e_run 4 (pc1 := 13) (L1 := [.ref 0, .int x1]) (S1 := [.int x1, .ref 72]) (v1 := v) rfl ?_
  refine e_cald rfl rfl (by decide) h1 ?_
  exact e_iret (ty := .char) rfl rfl h2 g
theorem bX5_entryLot_0 {x1 : Int32} {v : mmM} {c : Nat} {K : mmO → mmM → Prop} (hc : c + mm_mc kX5_requireEntry ≤ mm_mc kX5_entryLot) (g : mm_M kX5_requireEntry [.ref 0, .int x1] v (mm_Kc kX5_entryLot 5 [.ref 0, .int x1] [] (c + mm_mc kX5_requireEntry) K)) : mm_E kX5_entryLot 0 [.ref 0, .int x1] [] v c K := by
  refine e_run 2 (pc1 := 2) (L1 := [.ref 0, .int x1]) (S1 := [.int x1, .ref 0]) (v1 := v) rfl ?_
  exact e_cl (j := kX5_requireEntry) rfl hc g
theorem bX5_entryLot_5 {x1 : Int32} {v : mmM} {c : Nat} {K : mmO → mmM → Prop} (h1 : mm_in x1 150 = true) (g : K (.inl (some (.int (v 73 x1.toNatClampNeg)))) v) : mm_E kX5_entryLot 5 [.ref 0, .int x1] [] v c K := by
  refine e_run 4 (pc1 := 13) (L1 := [.ref 0, .int x1]) (S1 := [.int x1, .ref 73]) (v1 := v) rfl ?_
  refine e_iald rfl rfl (by decide) h1 ?_
  exact e_iret (ty := .int) rfl rfl rfl g
theorem bX5_entryFrom_0 {x1 : Int32} {v : mmM} {c : Nat} {K : mmO → mmM → Prop} (hc : c + mm_mc kX5_requireEntry ≤ mm_mc kX5_entryFrom) (g : mm_M kX5_requireEntry [.ref 0, .int x1] v (mm_Kc kX5_entryFrom 5 [.ref 0, .int x1] [] (c + mm_mc kX5_requireEntry) K)) : mm_E kX5_entryFrom 0 [.ref 0, .int x1] [] v c K := by
  refine e_run 2 (pc1 := 2) (L1 := [.ref 0, .int x1]) (S1 := [.int x1, .ref 0]) (v1 := v) rfl ?_
  exact e_cl (j := kX5_requireEntry) rfl hc g
theorem bX5_entryFrom_5 {x1 : Int32} {v : mmM} {c : Nat} {K : mmO → mmM → Prop} (h1 : mm_in x1 150 = true) (g : K (.inl (some (.int (v 74 x1.toNatClampNeg)))) v) : mm_E kX5_entryFrom 5 [.ref 0, .int x1] [] v c K := by
  refine e_run 4 (pc1 := 13) (L1 := [.ref 0, .int x1]) (S1 := [.int x1, .ref 74]) (v1 := v) rfl ?_
  refine e_iald rfl rfl (by decide) h1 ?_
  exact e_iret (ty := .int) rfl rfl rfl g
theorem bX5_entryTo_0 {x1 : Int32} {v : mmM} {c : Nat} {K : mmO → mmM → Prop} (hc : c + mm_mc kX5_requireEntry ≤ mm_mc kX5_entryTo) (g : mm_M kX5_requireEntry [.ref 0, .int x1] v (mm_Kc kX5_entryTo 5 [.ref 0, .int x1] [] (c + mm_mc kX5_requireEntry) K)) : mm_E kX5_entryTo 0 [.ref 0, .int x1] [] v c K := by
  refine e_run 2 (pc1 := 2) (L1 := [.ref 0, .int x1]) (S1 := [.int x1, .ref 0]) (v1 := v) rfl ?_
  exact e_cl (j := kX5_requireEntry) rfl hc g
theorem bX5_entryTo_5 {x1 : Int32} {v : mmM} {c : Nat} {K : mmO → mmM → Prop} (h1 : mm_in x1 150 = true) (g : K (.inl (some (.int (v 75 x1.toNatClampNeg)))) v) : mm_E kX5_entryTo 5 [.ref 0, .int x1] [] v c K := by
  refine e_run 4 (pc1 := 13) (L1 := [.ref 0, .int x1]) (S1 := [.int x1, .ref 75]) (v1 := v) rfl ?_
  refine e_iald rfl rfl (by decide) h1 ?_
  exact e_iret (ty := .int) rfl rfl rfl g
theorem bX5_entryQuantity_0 {x1 : Int32} {v : mmM} {c : Nat} {K : mmO → mmM → Prop} (hc : c + mm_mc kX5_requireEntry ≤ mm_mc kX5_entryQuantity) (g : mm_M kX5_requireEntry [.ref 0, .int x1] v (mm_Kc kX5_entryQuantity 5 [.ref 0, .int x1] [] (c + mm_mc kX5_requireEntry) K)) : mm_E kX5_entryQuantity 0 [.ref 0, .int x1] [] v c K := by
  refine e_run 2 (pc1 := 2) (L1 := [.ref 0, .int x1]) (S1 := [.int x1, .ref 0]) (v1 := v) rfl ?_
  exact e_cl (j := kX5_requireEntry) rfl hc g
theorem bX5_entryQuantity_5 {x1 : Int32} {v : mmM} {c : Nat} {K : mmO → mmM → Prop} (h1 : mm_in x1 150 = true) (g : K (.inl (some (.int (v 76 x1.toNatClampNeg)))) v) : mm_E kX5_entryQuantity 5 [.ref 0, .int x1] [] v c K := by
  refine e_run 4 (pc1 := 13) (L1 := [.ref 0, .int x1]) (S1 := [.int x1, .ref 76]) (v1 := v) rfl ?_
  refine e_iald rfl rfl (by decide) h1 ?_
  exact e_iret (ty := .int) rfl rfl rfl g
theorem bX5_onHandOn_0 {x1 : Int32} {x2 : Int32} {l3 : Value} {l4 : Value} {v : mmM} {c : Nat} {K : mmO → mmM → Prop} (hc : c + mm_mc kX5_requireItem ≤ mm_mc kX5_onHandOn) (g : mm_M kX5_requireItem [.ref 0, .int x1] v (mm_Kc kX5_onHandOn 5 [.ref 0, .int x1, .int x2, l3, l4] [] (c + mm_mc kX5_requireItem) K)) : mm_E kX5_onHandOn 0 [.ref 0, .int x1, .int x2, l3, l4] [] v c K := by
  refine e_run 2 (pc1 := 2) (L1 := [.ref 0, .int x1, .int x2, l3, l4]) (S1 := [.int x1, .ref 0]) (v1 := v) rfl ?_
  exact e_cl (j := kX5_requireItem) rfl hc g
theorem bX5_onHandOn_5 {x1 : Int32} {x2 : Int32} {l3 : Value} {l4 : Value} {v : mmM} {c : Nat} {K : mmO → mmM → Prop} (hc : c + mm_mc kX5_requireBetween ≤ mm_mc kX5_onHandOn) (g : mm_M kX5_requireBetween [.ref 0, .int x2, .int (0 : Int32), .int (v 0 7)] v (mm_Kc kX5_onHandOn 15 [.ref 0, .int x1, .int x2, l3, l4] [] (c + mm_mc kX5_requireBetween) K)) : mm_E kX5_onHandOn 5 [.ref 0, .int x1, .int x2, l3, l4] [] v c K := by
  refine e_run 5 (pc1 := 12) (L1 := [.ref 0, .int x1, .int x2, l3, l4]) (S1 := [.int (v 0 7), .int (0 : Int32), .int x2, .ref 0]) (v1 := v) rfl ?_
  exact e_cl (j := kX5_requireBetween) rfl hc g
theorem bX5_onHandOn_15 {x1 : Int32} {x2 : Int32} {l3 : Value} {l4 : Value} {v : mmM} {c : Nat} {K : mmO → mmM → Prop} (g : mm_E kX5_onHandOn 20 [.ref 0, .int x1, .int x2, .int (0 : Int32), .int (0 : Int32)] [] v c K) : mm_E kX5_onHandOn 15 [.ref 0, .int x1, .int x2, l3, l4] [] v c K := by
  refine e_run 4 (pc1 := 20) (L1 := [.ref 0, .int x1, .int x2, .int (0 : Int32), .int (0 : Int32)]) (S1 := []) (v1 := v) rfl ?_
  exact g
theorem bX5_onHandOn_20 {x1 : Int32} {x2 : Int32} {x3 : Int32} {x4 : Int32} {v : mmM} {c : Nat} {K : mmO → mmM → Prop} (g1 : (v 2 0) ≤ x4 → mm_E kX5_onHandOn 65 [.ref 0, .int x1, .int x2, .int x3, .int x4] [] v c K) (g2 : ¬ (v 2 0) ≤ x4 → mm_E kX5_onHandOn 32 [.ref 0, .int x1, .int x2, .int x3, .int x4] [] v c K) : mm_E kX5_onHandOn 20 [.ref 0, .int x1, .int x2, .int x3, .int x4] [] v c K := by
  refine e_run 4 (pc1 := 29) (L1 := [.ref 0, .int x1, .int x2, .int x3, .int x4]) (S1 := [.int (v 2 0), .int x4]) (v1 := v) rfl ?_
  exact e_if (p := (v 2 0) ≤ x4) rfl g1 g2
theorem bX5_onHandOn_32 {x1 : Int32} {x2 : Int32} {x3 : Int32} {x4 : Int32} {v : mmM} {c : Nat} {K : mmO → mmM → Prop} (h1 : mm_in x4 24 = true) (g1 : (v 16 x4.toNatClampNeg) = x1 → mm_E kX5_onHandOn 46 [.ref 0, .int x1, .int x2, .int x3, .int x4] [] v c K) (g2 : ¬ (v 16 x4.toNatClampNeg) = x1 → mm_E kX5_onHandOn 59 [.ref 0, .int x1, .int x2, .int x3, .int x4] [] v c K) : mm_E kX5_onHandOn 32 [.ref 0, .int x1, .int x2, .int x3, .int x4] [] v c K := by
  refine e_run 4 (pc1 := 41) (L1 := [.ref 0, .int x1, .int x2, .int x3, .int x4]) (S1 := [.int x4, .ref 16]) (v1 := v) rfl ?_
  refine e_iald rfl rfl (by decide) h1 ?_
  refine e_run 1 (pc1 := 43) (L1 := [.ref 0, .int x1, .int x2, .int x3, .int x4]) (S1 := [.int x1, .int (v 16 x4.toNatClampNeg)]) (v1 := v) rfl ?_
  exact e_if (p := (v 16 x4.toNatClampNeg) = x1) rfl g1 g2
theorem bX5_onHandOn_46 {x1 : Int32} {x2 : Int32} {x3 : Int32} {x4 : Int32} {v : mmM} {c : Nat} {K : mmO → mmM → Prop} (hc : c + mm_mc kX2_unitsAtEndOf ≤ mm_mc kX5_onHandOn) (g : mm_M kX2_unitsAtEndOf [.ref 4, .int x4, .int x2] v (mm_Kc kX5_onHandOn 57 [.ref 0, .int x1, .int x2, .int x3, .int x4] [.int x3] (c + mm_mc kX2_unitsAtEndOf) K)) : mm_E kX5_onHandOn 46 [.ref 0, .int x1, .int x2, .int x3, .int x4] [] v c K := by
  refine e_run 5 (pc1 := 54) (L1 := [.ref 0, .int x1, .int x2, .int x3, .int x4]) (S1 := [.int x2, .int x4, .ref 4, .int x3]) (v1 := v) rfl ?_
  exact e_cl (j := kX2_unitsAtEndOf) rfl hc g
theorem bX5_onHandOn_57 {x1 : Int32} {x2 : Int32} {x3 : Int32} {x4 : Int32} {y0 : Int32} {y1 : Int32} {v : mmM} {c : Nat} {K : mmO → mmM → Prop} (g : mm_E kX5_onHandOn 59 [.ref 0, .int x1, .int x2, .int (y0 + y1), .int x4] [] v c K) : mm_E kX5_onHandOn 57 [.ref 0, .int x1, .int x2, .int x3, .int x4] [.int y1, .int y0] v c K := by
  refine e_run 2 (pc1 := 59) (L1 := [.ref 0, .int x1, .int x2, .int (y0 + y1), .int x4]) (S1 := []) (v1 := v) rfl ?_
  exact g
theorem bX5_onHandOn_59 {x1 : Int32} {x2 : Int32} {x3 : Int32} {x4 : Int32} {v : mmM} {c : Nat} {K : mmO → mmM → Prop} (g : mm_E kX5_onHandOn 20 [.ref 0, .int x1, .int x2, .int x3, .int (x4 + (1 : Int32))] [] v c K) : mm_E kX5_onHandOn 59 [.ref 0, .int x1, .int x2, .int x3, .int x4] [] v c K := by
  refine e_run 2 (pc1 := 20) (L1 := [.ref 0, .int x1, .int x2, .int x3, .int (x4 + (1 : Int32))]) (S1 := []) (v1 := v) rfl ?_
  exact g
theorem bX5_onHandOn_65 {x1 : Int32} {x2 : Int32} {x3 : Int32} {x4 : Int32} {v : mmM} {c : Nat} {K : mmO → mmM → Prop} (g : K (.inl (some (.int x3))) v) : mm_E kX5_onHandOn 65 [.ref 0, .int x1, .int x2, .int x3, .int x4] [] v c K := by
  refine e_run 1 (pc1 := 66) (L1 := [.ref 0, .int x1, .int x2, .int x3, .int x4]) (S1 := [.int x3]) (v1 := v) rfl ?_
  exact e_iret (ty := .int) rfl rfl rfl g
theorem bX5_requireItem_0 {x1 : Int32} {v : mmM} {c : Nat} {K : mmO → mmM → Prop} (g1 : x1 < 0 → mm_E kX5_requireItem 15 [.ref 0, .int x1] [] v c K) (g2 : ¬ x1 < 0 → mm_E kX5_requireItem 4 [.ref 0, .int x1] [] v c K) : mm_E kX5_requireItem 0 [.ref 0, .int x1] [] v c K := by
  refine e_run 1 (pc1 := 1) (L1 := [.ref 0, .int x1]) (S1 := [.int x1]) (v1 := v) rfl ?_
  exact e_if (p := x1 < 0) rfl g1 g2
theorem bX5_requireItem_4 {x1 : Int32} {v : mmM} {c : Nat} {K : mmO → mmM → Prop} (g1 : x1 < (v 1 0) → mm_E kX5_requireItem 26 [.ref 0, .int x1] [] v c K) (g2 : ¬ x1 < (v 1 0) → mm_E kX5_requireItem 15 [.ref 0, .int x1] [] v c K) : mm_E kX5_requireItem 4 [.ref 0, .int x1] [] v c K := by
  refine e_run 4 (pc1 := 12) (L1 := [.ref 0, .int x1]) (S1 := [.int (v 1 0), .int x1]) (v1 := v) rfl ?_
  exact e_if (p := x1 < (v 1 0)) rfl g1 g2
theorem bX5_requireItem_15 {x1 : Int32} {v : mmM} {c : Nat} {K : mmO → mmM → Prop} (hc : c + 1 ≤ mm_mc kX5_requireItem) (g : K (.inr 2) v) : mm_E kX5_requireItem 15 [.ref 0, .int x1] [] v c K := by
  exact e_th (e := 2) rfl hc g
theorem bX5_requireItem_26 {x1 : Int32} {v : mmM} {c : Nat} {K : mmO → mmM → Prop} (g : K (.inl none) v) : mm_E kX5_requireItem 26 [.ref 0, .int x1] [] v c K := by
  exact e_rt rfl g
theorem bX5_requireBin_0 {x1 : Int32} {v : mmM} {c : Nat} {K : mmO → mmM → Prop} (g1 : x1 < 0 → mm_E kX5_requireBin 10 [.ref 0, .int x1] [] v c K) (g2 : ¬ x1 < 0 → mm_E kX5_requireBin 4 [.ref 0, .int x1] [] v c K) : mm_E kX5_requireBin 0 [.ref 0, .int x1] [] v c K := by
  refine e_run 1 (pc1 := 1) (L1 := [.ref 0, .int x1]) (S1 := [.int x1]) (v1 := v) rfl ?_
  exact e_if (p := x1 < 0) rfl g1 g2
theorem bX5_requireBin_4 {x1 : Int32} {v : mmM} {c : Nat} {K : mmO → mmM → Prop} (g1 : x1 < (40 : Int32) → mm_E kX5_requireBin 21 [.ref 0, .int x1] [] v c K) (g2 : ¬ x1 < (40 : Int32) → mm_E kX5_requireBin 10 [.ref 0, .int x1] [] v c K) : mm_E kX5_requireBin 4 [.ref 0, .int x1] [] v c K := by
  refine e_run 2 (pc1 := 7) (L1 := [.ref 0, .int x1]) (S1 := [.int (40 : Int32), .int x1]) (v1 := v) rfl ?_
  exact e_if (p := x1 < (40 : Int32)) rfl g1 g2
theorem bX5_requireBin_10 {x1 : Int32} {v : mmM} {c : Nat} {K : mmO → mmM → Prop} (hc : c + 1 ≤ mm_mc kX5_requireBin) (g : K (.inr 2) v) : mm_E kX5_requireBin 10 [.ref 0, .int x1] [] v c K := by
  exact e_th (e := 2) rfl hc g
theorem bX5_requireBin_21 {x1 : Int32} {v : mmM} {c : Nat} {K : mmO → mmM → Prop} (g : K (.inl none) v) : mm_E kX5_requireBin 21 [.ref 0, .int x1] [] v c K := by
  exact e_rt rfl g
theorem bX5_requireLot_0 {x1 : Int32} {v : mmM} {c : Nat} {K : mmO → mmM → Prop} (g1 : x1 < 0 → mm_E kX5_requireLot 15 [.ref 0, .int x1] [] v c K) (g2 : ¬ x1 < 0 → mm_E kX5_requireLot 4 [.ref 0, .int x1] [] v c K) : mm_E kX5_requireLot 0 [.ref 0, .int x1] [] v c K := by
  refine e_run 1 (pc1 := 1) (L1 := [.ref 0, .int x1]) (S1 := [.int x1]) (v1 := v) rfl ?_
  exact e_if (p := x1 < 0) rfl g1 g2
theorem bX5_requireLot_4 {x1 : Int32} {v : mmM} {c : Nat} {K : mmO → mmM → Prop} (g1 : x1 < (v 2 0) → mm_E kX5_requireLot 25 [.ref 0, .int x1] [] v c K) (g2 : ¬ x1 < (v 2 0) → mm_E kX5_requireLot 15 [.ref 0, .int x1] [] v c K) : mm_E kX5_requireLot 4 [.ref 0, .int x1] [] v c K := by
  refine e_run 4 (pc1 := 12) (L1 := [.ref 0, .int x1]) (S1 := [.int (v 2 0), .int x1]) (v1 := v) rfl ?_
  exact e_if (p := x1 < (v 2 0)) rfl g1 g2
theorem bX5_requireLot_15 {x1 : Int32} {v : mmM} {c : Nat} {K : mmO → mmM → Prop} (hc : c + 1 ≤ mm_mc kX5_requireLot) (g : K (.inr 2) v) : mm_E kX5_requireLot 15 [.ref 0, .int x1] [] v c K := by
  exact e_th (e := 2) rfl hc g
theorem bX5_requireLot_25 {x1 : Int32} {v : mmM} {c : Nat} {K : mmO → mmM → Prop} (g : K (.inl none) v) : mm_E kX5_requireLot 25 [.ref 0, .int x1] [] v c K := by
  exact e_rt rfl g
theorem bX5_requirePromise_0 {x1 : Int32} {v : mmM} {c : Nat} {K : mmO → mmM → Prop} (g1 : x1 < 0 → mm_E kX5_requirePromise 15 [.ref 0, .int x1] [] v c K) (g2 : ¬ x1 < 0 → mm_E kX5_requirePromise 4 [.ref 0, .int x1] [] v c K) : mm_E kX5_requirePromise 0 [.ref 0, .int x1] [] v c K := by
  refine e_run 1 (pc1 := 1) (L1 := [.ref 0, .int x1]) (S1 := [.int x1]) (v1 := v) rfl ?_
  exact e_if (p := x1 < 0) rfl g1 g2
theorem bX5_requirePromise_4 {x1 : Int32} {v : mmM} {c : Nat} {K : mmO → mmM → Prop} (g1 : x1 < (v 3 0) → mm_E kX5_requirePromise 26 [.ref 0, .int x1] [] v c K) (g2 : ¬ x1 < (v 3 0) → mm_E kX5_requirePromise 15 [.ref 0, .int x1] [] v c K) : mm_E kX5_requirePromise 4 [.ref 0, .int x1] [] v c K := by
  refine e_run 4 (pc1 := 12) (L1 := [.ref 0, .int x1]) (S1 := [.int (v 3 0), .int x1]) (v1 := v) rfl ?_
  exact e_if (p := x1 < (v 3 0)) rfl g1 g2
theorem bX5_requirePromise_15 {x1 : Int32} {v : mmM} {c : Nat} {K : mmO → mmM → Prop} (hc : c + 1 ≤ mm_mc kX5_requirePromise) (g : K (.inr 2) v) : mm_E kX5_requirePromise 15 [.ref 0, .int x1] [] v c K := by
  exact e_th (e := 2) rfl hc g
theorem bX5_requirePromise_26 {x1 : Int32} {v : mmM} {c : Nat} {K : mmO → mmM → Prop} (g : K (.inl none) v) : mm_E kX5_requirePromise 26 [.ref 0, .int x1] [] v c K := by
  exact e_rt rfl g
theorem bX5_requireEntry_0 {x1 : Int32} {v : mmM} {c : Nat} {K : mmO → mmM → Prop} (g1 : x1 < 0 → mm_E kX5_requireEntry 15 [.ref 0, .int x1] [] v c K) (g2 : ¬ x1 < 0 → mm_E kX5_requireEntry 4 [.ref 0, .int x1] [] v c K) : mm_E kX5_requireEntry 0 [.ref 0, .int x1] [] v c K := by
  refine e_run 1 (pc1 := 1) (L1 := [.ref 0, .int x1]) (S1 := [.int x1]) (v1 := v) rfl ?_
  exact e_if (p := x1 < 0) rfl g1 g2
theorem bX5_requireEntry_4 {x1 : Int32} {v : mmM} {c : Nat} {K : mmO → mmM → Prop} (g1 : x1 < (v 4 0) → mm_E kX5_requireEntry 26 [.ref 0, .int x1] [] v c K) (g2 : ¬ x1 < (v 4 0) → mm_E kX5_requireEntry 15 [.ref 0, .int x1] [] v c K) : mm_E kX5_requireEntry 4 [.ref 0, .int x1] [] v c K := by
  refine e_run 4 (pc1 := 12) (L1 := [.ref 0, .int x1]) (S1 := [.int (v 4 0), .int x1]) (v1 := v) rfl ?_
  exact e_if (p := x1 < (v 4 0)) rfl g1 g2
theorem bX5_requireEntry_15 {x1 : Int32} {v : mmM} {c : Nat} {K : mmO → mmM → Prop} (hc : c + 1 ≤ mm_mc kX5_requireEntry) (g : K (.inr 2) v) : mm_E kX5_requireEntry 15 [.ref 0, .int x1] [] v c K := by
  exact e_th (e := 2) rfl hc g
theorem bX5_requireEntry_26 {x1 : Int32} {v : mmM} {c : Nat} {K : mmO → mmM → Prop} (g : K (.inl none) v) : mm_E kX5_requireEntry 26 [.ref 0, .int x1] [] v c K := by
  exact e_rt rfl g
theorem bX5_requireLine_0 {x1 : Int32} {v : mmM} {c : Nat} {K : mmO → mmM → Prop} (g1 : x1 < 0 → mm_E kX5_requireLine 15 [.ref 0, .int x1] [] v c K) (g2 : ¬ x1 < 0 → mm_E kX5_requireLine 4 [.ref 0, .int x1] [] v c K) : mm_E kX5_requireLine 0 [.ref 0, .int x1] [] v c K := by
  refine e_run 1 (pc1 := 1) (L1 := [.ref 0, .int x1]) (S1 := [.int x1]) (v1 := v) rfl ?_
  exact e_if (p := x1 < 0) rfl g1 g2
theorem bX5_requireLine_4 {x1 : Int32} {v : mmM} {c : Nat} {K : mmO → mmM → Prop} (g1 : x1 < (v 5 0) → mm_E kX5_requireLine 26 [.ref 0, .int x1] [] v c K) (g2 : ¬ x1 < (v 5 0) → mm_E kX5_requireLine 15 [.ref 0, .int x1] [] v c K) : mm_E kX5_requireLine 4 [.ref 0, .int x1] [] v c K := by
  refine e_run 4 (pc1 := 12) (L1 := [.ref 0, .int x1]) (S1 := [.int (v 5 0), .int x1]) (v1 := v) rfl ?_
  exact e_if (p := x1 < (v 5 0)) rfl g1 g2
theorem bX5_requireLine_15 {x1 : Int32} {v : mmM} {c : Nat} {K : mmO → mmM → Prop} (hc : c + 1 ≤ mm_mc kX5_requireLine) (g : K (.inr 4) v) : mm_E kX5_requireLine 15 [.ref 0, .int x1] [] v c K := by
  exact e_th (e := 4) rfl hc g
theorem bX5_requireLine_26 {x1 : Int32} {v : mmM} {c : Nat} {K : mmO → mmM → Prop} (g : K (.inl none) v) : mm_E kX5_requireLine 26 [.ref 0, .int x1] [] v c K := by
  exact e_rt rfl g
theorem bX5_requireBetween_0 {x1 : Int32} {x2 : Int32} {x3 : Int32} {v : mmM} {c : Nat} {K : mmO → mmM → Prop} (g1 : x1 < x2 → mm_E kX5_requireBetween 10 [.ref 0, .int x1, .int x2, .int x3] [] v c K) (g2 : ¬ x1 < x2 → mm_E kX5_requireBetween 5 [.ref 0, .int x1, .int x2, .int x3] [] v c K) : mm_E kX5_requireBetween 0 [.ref 0, .int x1, .int x2, .int x3] [] v c K := by
  refine e_run 2 (pc1 := 2) (L1 := [.ref 0, .int x1, .int x2, .int x3]) (S1 := [.int x2, .int x1]) (v1 := v) rfl ?_
  exact e_if (p := x1 < x2) rfl g1 g2
theorem bX5_requireBetween_5 {x1 : Int32} {x2 : Int32} {x3 : Int32} {v : mmM} {c : Nat} {K : mmO → mmM → Prop} (g1 : x1 ≤ x3 → mm_E kX5_requireBetween 21 [.ref 0, .int x1, .int x2, .int x3] [] v c K) (g2 : ¬ x1 ≤ x3 → mm_E kX5_requireBetween 10 [.ref 0, .int x1, .int x2, .int x3] [] v c K) : mm_E kX5_requireBetween 5 [.ref 0, .int x1, .int x2, .int x3] [] v c K := by
  refine e_run 2 (pc1 := 7) (L1 := [.ref 0, .int x1, .int x2, .int x3]) (S1 := [.int x3, .int x1]) (v1 := v) rfl ?_
  exact e_if (p := x1 ≤ x3) rfl g1 g2
theorem bX5_requireBetween_10 {x1 : Int32} {x2 : Int32} {x3 : Int32} {v : mmM} {c : Nat} {K : mmO → mmM → Prop} (hc : c + 1 ≤ mm_mc kX5_requireBetween) (g : K (.inr 0) v) : mm_E kX5_requireBetween 10 [.ref 0, .int x1, .int x2, .int x3] [] v c K := by
  exact e_th (e := 0) rfl hc g
theorem bX5_requireBetween_21 {x1 : Int32} {x2 : Int32} {x3 : Int32} {v : mmM} {c : Nat} {K : mmO → mmM → Prop} (g : K (.inl none) v) : mm_E kX5_requireBetween 21 [.ref 0, .int x1, .int x2, .int x3] [] v c K := by
  exact e_rt rfl g
theorem bX5_requireOpen_0 {x1 : Int32} {v : mmM} {c : Nat} {K : mmO → mmM → Prop} (h1 : mm_in x1 20 = true) (g1 : (v 48 x1.toNatClampNeg) = (111 : Int32) → mm_E kX5_requireOpen 25 [.ref 0, .int x1] [] v c K) (g2 : ¬ (v 48 x1.toNatClampNeg) = (111 : Int32) → mm_E kX5_requireOpen 14 [.ref 0, .int x1] [] v c K) : mm_E kX5_requireOpen 0 [.ref 0, .int x1] [] v c K := by
  refine e_run 4 (pc1 := 8) (L1 := [.ref 0, .int x1]) (S1 := [.int x1, .ref 48]) (v1 := v) rfl ?_
  refine e_cald rfl rfl (by decide) h1 ?_
  refine e_run 1 (pc1 := 11) (L1 := [.ref 0, .int x1]) (S1 := [.int (111 : Int32), .int (v 48 x1.toNatClampNeg)]) (v1 := v) rfl ?_
  exact e_if (p := (v 48 x1.toNatClampNeg) = (111 : Int32)) rfl g1 g2
theorem bX5_requireOpen_14 {x1 : Int32} {v : mmM} {c : Nat} {K : mmO → mmM → Prop} (hc : c + 1 ≤ mm_mc kX5_requireOpen) (g : K (.inr 1) v) : mm_E kX5_requireOpen 14 [.ref 0, .int x1] [] v c K := by
  exact e_th (e := 1) rfl hc g
theorem bX5_requireOpen_25 {x1 : Int32} {v : mmM} {c : Nat} {K : mmO → mmM → Prop} (g : K (.inl none) v) : mm_E kX5_requireOpen 25 [.ref 0, .int x1] [] v c K := by
  exact e_rt rfl g
theorem bX5_requireEntrySpace_0 {x1 : Int32} {v : mmM} {c : Nat} {K : mmO → mmM → Prop} (g1 : ((v 4 0) + x1) ≤ (150 : Int32) → mm_E kX5_requireEntrySpace 26 [.ref 0, .int x1] [] v c K) (g2 : ¬ ((v 4 0) + x1) ≤ (150 : Int32) → mm_E kX5_requireEntrySpace 15 [.ref 0, .int x1] [] v c K) : mm_E kX5_requireEntrySpace 0 [.ref 0, .int x1] [] v c K := by
  refine e_run 6 (pc1 := 12) (L1 := [.ref 0, .int x1]) (S1 := [.int (150 : Int32), .int ((v 4 0) + x1)]) (v1 := v) rfl ?_
  exact e_if (p := ((v 4 0) + x1) ≤ (150 : Int32)) rfl g1 g2
theorem bX5_requireEntrySpace_15 {x1 : Int32} {v : mmM} {c : Nat} {K : mmO → mmM → Prop} (hc : c + 1 ≤ mm_mc kX5_requireEntrySpace) (g : K (.inr 1) v) : mm_E kX5_requireEntrySpace 15 [.ref 0, .int x1] [] v c K := by
  exact e_th (e := 1) rfl hc g
theorem bX5_requireEntrySpace_26 {x1 : Int32} {v : mmM} {c : Nat} {K : mmO → mmM → Prop} (g : K (.inl none) v) : mm_E kX5_requireEntrySpace 26 [.ref 0, .int x1] [] v c K := by
  exact e_rt rfl g
theorem bX5_requireBinSpace_0 {x1 : Int32} {x2 : Int32} {v : mmM} {c : Nat} {K : mmO → mmM → Prop} (h1 : mm_in x1 40 = true) (g1 : ((v 45 x1.toNatClampNeg) + x2) ≤ (30 : Int32) → mm_E kX5_requireBinSpace 27 [.ref 0, .int x1, .int x2] [] v c K) (g2 : ¬ ((v 45 x1.toNatClampNeg) + x2) ≤ (30 : Int32) → mm_E kX5_requireBinSpace 16 [.ref 0, .int x1, .int x2] [] v c K) : mm_E kX5_requireBinSpace 0 [.ref 0, .int x1, .int x2] [] v c K := by
  refine e_run 4 (pc1 := 8) (L1 := [.ref 0, .int x1, .int x2]) (S1 := [.int x1, .ref 45]) (v1 := v) rfl ?_
  refine e_iald rfl rfl (by decide) h1 ?_
  refine e_run 3 (pc1 := 13) (L1 := [.ref 0, .int x1, .int x2]) (S1 := [.int (30 : Int32), .int ((v 45 x1.toNatClampNeg) + x2)]) (v1 := v) rfl ?_
  exact e_if (p := ((v 45 x1.toNatClampNeg) + x2) ≤ (30 : Int32)) rfl g1 g2
theorem bX5_requireBinSpace_16 {x1 : Int32} {x2 : Int32} {v : mmM} {c : Nat} {K : mmO → mmM → Prop} (hc : c + 1 ≤ mm_mc kX5_requireBinSpace) (g : K (.inr 3) v) : mm_E kX5_requireBinSpace 16 [.ref 0, .int x1, .int x2] [] v c K := by
  exact e_th (e := 3) rfl hc g
theorem bX5_requireBinSpace_27 {x1 : Int32} {x2 : Int32} {v : mmM} {c : Nat} {K : mmO → mmM → Prop} (g : K (.inl none) v) : mm_E kX5_requireBinSpace 27 [.ref 0, .int x1, .int x2] [] v c K := by
  exact e_rt rfl g
theorem bX5_alongRoute_0 {x0 : Int32} {l1 : Value} {l2 : Value} {v : mmM} {c : Nat} {K : mmO → mmM → Prop} (g1 : ((x0 / (10 : Int32)) - (x0 / (10 : Int32)) / (2 : Int32) * (2 : Int32)) = 0 → mm_E kX5_alongRoute 16 [.int x0, .int (x0 / (10 : Int32)), .int (x0 - x0 / (10 : Int32) * (10 : Int32))] [] v c K) (g2 : ¬ ((x0 / (10 : Int32)) - (x0 / (10 : Int32)) / (2 : Int32) * (2 : Int32)) = 0 → mm_E kX5_alongRoute 20 [.int x0, .int (x0 / (10 : Int32)), .int (x0 - x0 / (10 : Int32) * (10 : Int32))] [] v c K) : mm_E kX5_alongRoute 0 [.int x0, l1, l2] [] v c K := by
  refine e_run 2 (pc1 := 3) (L1 := [.int x0, l1, l2]) (S1 := [.int (10 : Int32), .int x0]) (v1 := v) rfl ?_
  refine e_idiv rfl (by decide) ?_
  refine e_run 3 (pc1 := 8) (L1 := [.int x0, .int (x0 / (10 : Int32)), l2]) (S1 := [.int (10 : Int32), .int x0]) (v1 := v) rfl ?_
  refine e_irem rfl (by decide) ?_
  refine e_run 3 (pc1 := 12) (L1 := [.int x0, .int (x0 / (10 : Int32)), .int (x0 - x0 / (10 : Int32) * (10 : Int32))]) (S1 := [.int (2 : Int32), .int (x0 / (10 : Int32))]) (v1 := v) rfl ?_
  refine e_irem rfl (by decide) ?_
  exact e_if (p := ((x0 / (10 : Int32)) - (x0 / (10 : Int32)) / (2 : Int32) * (2 : Int32)) = 0) rfl g1 g2
theorem bX5_alongRoute_16 {x0 : Int32} {x1 : Int32} {x2 : Int32} {v : mmM} {c : Nat} {K : mmO → mmM → Prop} (g : mm_E kX5_alongRoute 31 [.int x0, .int x1, .int x2] [.int x0] v c K) : mm_E kX5_alongRoute 16 [.int x0, .int x1, .int x2] [] v c K := by
  refine e_run 2 (pc1 := 31) (L1 := [.int x0, .int x1, .int x2]) (S1 := [.int x0]) (v1 := v) rfl ?_
  exact g
theorem bX5_alongRoute_20 {x0 : Int32} {x1 : Int32} {x2 : Int32} {v : mmM} {c : Nat} {K : mmO → mmM → Prop} (g : mm_E kX5_alongRoute 31 [.int x0, .int x1, .int x2] [.int ((((x1 * (10 : Int32)) + (10 : Int32)) - (1 : Int32)) - x2)] v c K) : mm_E kX5_alongRoute 20 [.int x0, .int x1, .int x2] [] v c K := by
  refine e_run 9 (pc1 := 31) (L1 := [.int x0, .int x1, .int x2]) (S1 := [.int ((((x1 * (10 : Int32)) + (10 : Int32)) - (1 : Int32)) - x2)]) (v1 := v) rfl ?_
  exact g
theorem bX5_alongRoute_31 {x0 : Int32} {x1 : Int32} {x2 : Int32} {y0 : Int32} {v : mmM} {c : Nat} {K : mmO → mmM → Prop} (g : K (.inl (some (.int y0))) v) : mm_E kX5_alongRoute 31 [.int x0, .int x1, .int x2] [.int y0] v c K := by
  exact e_iret (ty := .int) rfl rfl rfl g
theorem bX5_takeOut_0 {x1 : Int32} {x2 : Int32} {x3 : Int32} {x4 : Int32} {v : mmM} {c : Nat} {K : mmO → mmM → Prop} (hc : c + mm_mc kX0_change ≤ mm_mc kX5_takeOut) (g : mm_M kX0_change [.ref 2, .int x2, .int x3, .int (-x4)] v (mm_Kc kX5_takeOut 12 [.ref 0, .int x1, .int x2, .int x3, .int x4] [] (c + mm_mc kX0_change) K)) : mm_E kX5_takeOut 0 [.ref 0, .int x1, .int x2, .int x3, .int x4] [] v c K := by
  refine e_run 6 (pc1 := 9) (L1 := [.ref 0, .int x1, .int x2, .int x3, .int x4]) (S1 := [.int (-x4), .int x3, .int x2, .ref 2]) (v1 := v) rfl ?_
  exact e_cl (j := kX0_change) rfl hc g
theorem bX5_takeOut_12 {x1 : Int32} {x2 : Int32} {x3 : Int32} {x4 : Int32} {v : mmM} {c : Nat} {K : mmO → mmM → Prop} (hc : c + mm_mc kX2_write ≤ mm_mc kX5_takeOut) (g : mm_M kX2_write [.ref 4, .int x1, .int x2, .int x3, .int (-1 : Int32), .int x4, .int (v 0 7)] v (mm_Kc kX5_takeOut 29 [.ref 0, .int x1, .int x2, .int x3, .int x4] [] (c + mm_mc kX2_write) K)) : mm_E kX5_takeOut 12 [.ref 0, .int x1, .int x2, .int x3, .int x4] [] v c K := by
  refine e_run 9 (pc1 := 26) (L1 := [.ref 0, .int x1, .int x2, .int x3, .int x4]) (S1 := [.int (v 0 7), .int x4, .int (-1 : Int32), .int x3, .int x2, .int x1, .ref 4]) (v1 := v) rfl ?_
  exact e_cl (j := kX2_write) rfl hc g
theorem bX5_takeOut_29 {x1 : Int32} {x2 : Int32} {x3 : Int32} {x4 : Int32} {v : mmM} {c : Nat} {K : mmO → mmM → Prop} (g : K (.inl none) v) : mm_E kX5_takeOut 29 [.ref 0, .int x1, .int x2, .int x3, .int x4] [] v c K := by
  exact e_rt rfl g
theorem bX5_breakPromises_0 {x1 : Int32} {l2 : Value} {l3 : Value} {l4 : Value} {l5 : Value} {v : mmM} {c : Nat} {K : mmO → mmM → Prop} (g : mm_E kX5_breakPromises 4 [.ref 0, .int x1, .int (0 : Int32), .int (0 : Int32), l4, l5] [] v c K) : mm_E kX5_breakPromises 0 [.ref 0, .int x1, l2, l3, l4, l5] [] v c K := by
  refine e_run 4 (pc1 := 4) (L1 := [.ref 0, .int x1, .int (0 : Int32), .int (0 : Int32), l4, l5]) (S1 := []) (v1 := v) rfl ?_
  exact g
theorem bX5_breakPromises_4 {x1 : Int32} {x2 : Int32} {x3 : Int32} {l4 : Value} {l5 : Value} {v : mmM} {c : Nat} {K : mmO → mmM → Prop} (g1 : (20 : Int32) ≤ x3 → mm_E kX5_breakPromises 68 [.ref 0, .int x1, .int x2, .int x3, l4, l5] [] v c K) (g2 : ¬ (20 : Int32) ≤ x3 → mm_E kX5_breakPromises 10 [.ref 0, .int x1, .int x2, .int x3, l4, l5] [] v c K) : mm_E kX5_breakPromises 4 [.ref 0, .int x1, .int x2, .int x3, l4, l5] [] v c K := by
  refine e_run 2 (pc1 := 7) (L1 := [.ref 0, .int x1, .int x2, .int x3, l4, l5]) (S1 := [.int (20 : Int32), .int x3]) (v1 := v) rfl ?_
  exact e_if (p := (20 : Int32) ≤ x3) rfl g1 g2
theorem bX5_breakPromises_10 {x1 : Int32} {x2 : Int32} {x3 : Int32} {l4 : Value} {l5 : Value} {v : mmM} {c : Nat} {K : mmO → mmM → Prop} (hc : c + mm_mc kX5_lastDayTooShort ≤ mm_mc kX5_breakPromises) (g : mm_M kX5_lastDayTooShort [.ref 0, .int x1] v (mm_Kc kX5_breakPromises 15 [.ref 0, .int x1, .int x2, .int x3, l4, l5] [] (c + mm_mc kX5_lastDayTooShort) K)) : mm_E kX5_breakPromises 10 [.ref 0, .int x1, .int x2, .int x3, l4, l5] [] v c K := by
  refine e_run 2 (pc1 := 12) (L1 := [.ref 0, .int x1, .int x2, .int x3, l4, l5]) (S1 := [.int x1, .ref 0]) (v1 := v) rfl ?_
  exact e_cl (j := kX5_lastDayTooShort) rfl hc g
theorem bX5_breakPromises_15 {x1 : Int32} {x2 : Int32} {x3 : Int32} {l4 : Value} {l5 : Value} {y0 : Int32} {v : mmM} {c : Nat} {K : mmO → mmM → Prop} (g1 : y0 = (-1 : Int32) → mm_E kX5_breakPromises 23 [.ref 0, .int x1, .int x2, .int x3, .int y0, l5] [] v c K) (g2 : ¬ y0 = (-1 : Int32) → mm_E kX5_breakPromises 27 [.ref 0, .int x1, .int x2, .int x3, .int y0, l5] [] v c K) : mm_E kX5_breakPromises 15 [.ref 0, .int x1, .int x2, .int x3, l4, l5] [.int y0] v c K := by
  refine e_run 3 (pc1 := 20) (L1 := [.ref 0, .int x1, .int x2, .int x3, .int y0, l5]) (S1 := [.int (-1 : Int32), .int y0]) (v1 := v) rfl ?_
  exact e_if (p := y0 = (-1 : Int32)) rfl g1 g2
theorem bX5_breakPromises_23 {x1 : Int32} {x2 : Int32} {x3 : Int32} {x4 : Int32} {l5 : Value} {v : mmM} {c : Nat} {K : mmO → mmM → Prop} (g : mm_E kX5_breakPromises 37 [.ref 0, .int x1, .int x2, .int x3, .int x4, l5] [.int (-1 : Int32)] v c K) : mm_E kX5_breakPromises 23 [.ref 0, .int x1, .int x2, .int x3, .int x4, l5] [] v c K := by
  refine e_run 2 (pc1 := 37) (L1 := [.ref 0, .int x1, .int x2, .int x3, .int x4, l5]) (S1 := [.int (-1 : Int32)]) (v1 := v) rfl ?_
  exact g
theorem bX5_breakPromises_27 {x1 : Int32} {x2 : Int32} {x3 : Int32} {x4 : Int32} {l5 : Value} {v : mmM} {c : Nat} {K : mmO → mmM → Prop} (hc : c + mm_mc kX4_lastOpenFor ≤ mm_mc kX5_breakPromises) (g : mm_M kX4_lastOpenFor [.ref 3, .int x1, .int x4] v (mm_Kc kX5_breakPromises 37 [.ref 0, .int x1, .int x2, .int x3, .int x4, l5] [] (c + mm_mc kX4_lastOpenFor) K)) : mm_E kX5_breakPromises 27 [.ref 0, .int x1, .int x2, .int x3, .int x4, l5] [] v c K := by
  refine e_run 4 (pc1 := 34) (L1 := [.ref 0, .int x1, .int x2, .int x3, .int x4, l5]) (S1 := [.int x4, .int x1, .ref 3]) (v1 := v) rfl ?_
  exact e_cl (j := kX4_lastOpenFor) rfl hc g
theorem bX5_breakPromises_37 {x1 : Int32} {x2 : Int32} {x3 : Int32} {x4 : Int32} {l5 : Value} {y0 : Int32} {v : mmM} {c : Nat} {K : mmO → mmM → Prop} (g1 : y0 = (-1 : Int32) → mm_E kX5_breakPromises 45 [.ref 0, .int x1, .int x2, .int x3, .int x4, .int y0] [] v c K) (g2 : ¬ y0 = (-1 : Int32) → mm_E kX5_breakPromises 47 [.ref 0, .int x1, .int x2, .int x3, .int x4, .int y0] [] v c K) : mm_E kX5_breakPromises 37 [.ref 0, .int x1, .int x2, .int x3, .int x4, l5] [.int y0] v c K := by
  refine e_run 3 (pc1 := 42) (L1 := [.ref 0, .int x1, .int x2, .int x3, .int x4, .int y0]) (S1 := [.int (-1 : Int32), .int y0]) (v1 := v) rfl ?_
  exact e_if (p := y0 = (-1 : Int32)) rfl g1 g2
theorem bX5_breakPromises_45 {x1 : Int32} {x2 : Int32} {x3 : Int32} {x4 : Int32} {x5 : Int32} {v : mmM} {c : Nat} {K : mmO → mmM → Prop} (g : K (.inl (some (.int x2))) v) : mm_E kX5_breakPromises 45 [.ref 0, .int x1, .int x2, .int x3, .int x4, .int x5] [] v c K := by
  refine e_run 1 (pc1 := 46) (L1 := [.ref 0, .int x1, .int x2, .int x3, .int x4, .int x5]) (S1 := [.int x2]) (v1 := v) rfl ?_
  exact e_iret (ty := .int) rfl rfl rfl g
theorem bX5_breakPromises_47 {x1 : Int32} {x2 : Int32} {x3 : Int32} {x4 : Int32} {x5 : Int32} {v : mmM} {c : Nat} {K : mmO → mmM → Prop} (h1 : mm_in x5 20 = true) (g : mm_E kX5_breakPromises 4 [.ref 0, .int x1, .int (x2 + (1 : Int32)), .int (x3 + (1 : Int32)), .int x4, .int x5] [] (mm_up v 48 x5.toNatClampNeg (98 : Int32)) c K) : mm_E kX5_breakPromises 47 [.ref 0, .int x1, .int x2, .int x3, .int x4, .int x5] [] v c K := by
  refine e_run 5 (pc1 := 58) (L1 := [.ref 0, .int x1, .int x2, .int x3, .int x4, .int x5]) (S1 := [.int (98 : Int32), .int x5, .ref 48]) (v1 := v) rfl ?_
  refine e_cast rfl rfl (by decide) h1 (by decide) ?_
  refine e_run 3 (pc1 := 4) (L1 := [.ref 0, .int x1, .int (x2 + (1 : Int32)), .int (x3 + (1 : Int32)), .int x4, .int x5]) (S1 := []) (v1 := mm_up v 48 x5.toNatClampNeg (98 : Int32)) rfl ?_
  exact g
theorem bX5_breakPromises_68 {x1 : Int32} {x2 : Int32} {x3 : Int32} {l4 : Value} {l5 : Value} {v : mmM} {c : Nat} {K : mmO → mmM → Prop} (g : K (.inl (some (.int x2))) v) : mm_E kX5_breakPromises 68 [.ref 0, .int x1, .int x2, .int x3, l4, l5] [] v c K := by
  refine e_run 1 (pc1 := 69) (L1 := [.ref 0, .int x1, .int x2, .int x3, l4, l5]) (S1 := [.int x2]) (v1 := v) rfl ?_
  exact e_iret (ty := .int) rfl rfl rfl g
theorem bX5_lastDayTooShort_0 {x1 : Int32} {l2 : Value} {v : mmM} {c : Nat} {K : mmO → mmM → Prop} (g : mm_E kX5_lastDayTooShort 3 [.ref 0, .int x1, .int (60 : Int32)] [] v c K) : mm_E kX5_lastDayTooShort 0 [.ref 0, .int x1, l2] [] v c K := by
  refine e_run 2 (pc1 := 3) (L1 := [.ref 0, .int x1, .int (60 : Int32)]) (S1 := []) (v1 := v) rfl ?_
  exact g
theorem bX5_lastDayTooShort_3 {x1 : Int32} {x2 : Int32} {v : mmM} {c : Nat} {K : mmO → mmM → Prop} (g1 : x2 < 0 → mm_E kX5_lastDayTooShort 34 [.ref 0, .int x1, .int x2] [] v c K) (g2 : ¬ x2 < 0 → mm_E kX5_lastDayTooShort 7 [.ref 0, .int x1, .int x2] [] v c K) : mm_E kX5_lastDayTooShort 3 [.ref 0, .int x1, .int x2] [] v c K := by
  refine e_run 1 (pc1 := 4) (L1 := [.ref 0, .int x1, .int x2]) (S1 := [.int x2]) (v1 := v) rfl ?_
  exact e_if (p := x2 < 0) rfl g1 g2
theorem bX5_lastDayTooShort_7 {x1 : Int32} {x2 : Int32} {v : mmM} {c : Nat} {K : mmO → mmM → Prop} (hc : c + mm_mc kX5_difference ≤ mm_mc kX5_lastDayTooShort) (g : mm_M kX5_difference [.ref 0, .int x1, .int ((v 0 7) + x2)] v (mm_Kc kX5_lastDayTooShort 18 [.ref 0, .int x1, .int x2] [] (c + mm_mc kX5_difference) K)) : mm_E kX5_lastDayTooShort 7 [.ref 0, .int x1, .int x2] [] v c K := by
  refine e_run 6 (pc1 := 15) (L1 := [.ref 0, .int x1, .int x2]) (S1 := [.int ((v 0 7) + x2), .int x1, .ref 0]) (v1 := v) rfl ?_
  exact e_cl (j := kX5_difference) rfl hc g
theorem bX5_lastDayTooShort_18 {x1 : Int32} {x2 : Int32} {y0 : Int32} {v : mmM} {c : Nat} {K : mmO → mmM → Prop} (g1 : 0 ≤ y0 → mm_E kX5_lastDayTooShort 28 [.ref 0, .int x1, .int x2] [] v c K) (g2 : ¬ 0 ≤ y0 → mm_E kX5_lastDayTooShort 21 [.ref 0, .int x1, .int x2] [] v c K) : mm_E kX5_lastDayTooShort 18 [.ref 0, .int x1, .int x2] [.int y0] v c K := by
  exact e_if (p := 0 ≤ y0) rfl g1 g2
theorem bX5_lastDayTooShort_21 {x1 : Int32} {x2 : Int32} {v : mmM} {c : Nat} {K : mmO → mmM → Prop} (g : K (.inl (some (.int ((v 0 7) + x2)))) v) : mm_E kX5_lastDayTooShort 21 [.ref 0, .int x1, .int x2] [] v c K := by
  refine e_run 4 (pc1 := 27) (L1 := [.ref 0, .int x1, .int x2]) (S1 := [.int ((v 0 7) + x2)]) (v1 := v) rfl ?_
  exact e_iret (ty := .int) rfl rfl rfl g
theorem bX5_lastDayTooShort_28 {x1 : Int32} {x2 : Int32} {v : mmM} {c : Nat} {K : mmO → mmM → Prop} (g : mm_E kX5_lastDayTooShort 3 [.ref 0, .int x1, .int (x2 + (-1 : Int32))] [] v c K) : mm_E kX5_lastDayTooShort 28 [.ref 0, .int x1, .int x2] [] v c K := by
  refine e_run 2 (pc1 := 3) (L1 := [.ref 0, .int x1, .int (x2 + (-1 : Int32))]) (S1 := []) (v1 := v) rfl ?_
  exact g
theorem bX5_lastDayTooShort_34 {x1 : Int32} {x2 : Int32} {v : mmM} {c : Nat} {K : mmO → mmM → Prop} (g : K (.inl (some (.int (-1 : Int32)))) v) : mm_E kX5_lastDayTooShort 34 [.ref 0, .int x1, .int x2] [] v c K := by
  refine e_run 1 (pc1 := 35) (L1 := [.ref 0, .int x1, .int x2]) (S1 := [.int (-1 : Int32)]) (v1 := v) rfl ?_
  exact e_iret (ty := .int) rfl rfl rfl g
theorem bX5_difference_0 {x1 : Int32} {x2 : Int32} {v : mmM} {c : Nat} {K : mmO → mmM → Prop} (hc : c + mm_mc kX0_unitsFrom ≤ mm_mc kX5_difference) (g : mm_M kX0_unitsFrom [.ref 2, .int x1, .int x2] v (mm_Kc kX5_difference 9 [.ref 0, .int x1, .int x2] [] (c + mm_mc kX0_unitsFrom) K)) : mm_E kX5_difference 0 [.ref 0, .int x1, .int x2] [] v c K := by
  refine e_run 4 (pc1 := 6) (L1 := [.ref 0, .int x1, .int x2]) (S1 := [.int x2, .int x1, .ref 2]) (v1 := v) rfl ?_
  exact e_cl (j := kX0_unitsFrom) rfl hc g
theorem bX5_difference_9 {x1 : Int32} {x2 : Int32} {y0 : Int32} {v : mmM} {c : Nat} {K : mmO → mmM → Prop} (hc : c + mm_mc kX4_promisedFrom ≤ mm_mc kX5_difference) (g : mm_M kX4_promisedFrom [.ref 3, .int x1, .int x2] v (mm_Kc kX5_difference 18 [.ref 0, .int x1, .int x2] [.int y0] (c + mm_mc kX4_promisedFrom) K)) : mm_E kX5_difference 9 [.ref 0, .int x1, .int x2] [.int y0] v c K := by
  refine e_run 4 (pc1 := 15) (L1 := [.ref 0, .int x1, .int x2]) (S1 := [.int x2, .int x1, .ref 3, .int y0]) (v1 := v) rfl ?_
  exact e_cl (j := kX4_promisedFrom) rfl hc g
theorem bX5_difference_18 {x1 : Int32} {x2 : Int32} {y0 : Int32} {y1 : Int32} {v : mmM} {c : Nat} {K : mmO → mmM → Prop} (g : K (.inl (some (.int (y0 - y1)))) v) : mm_E kX5_difference 18 [.ref 0, .int x1, .int x2] [.int y1, .int y0] v c K := by
  refine e_run 1 (pc1 := 19) (L1 := [.ref 0, .int x1, .int x2]) (S1 := [.int (y0 - y1)]) (v1 := v) rfl ?_
  exact e_iret (ty := .int) rfl rfl rfl g
theorem bX5_leastDifference_0 {x1 : Int32} {x2 : Int32} {l3 : Value} {l4 : Value} {l5 : Value} {v : mmM} {c : Nat} {K : mmO → mmM → Prop} (hc : c + mm_mc kX5_difference ≤ mm_mc kX5_leastDifference) (g : mm_M kX5_difference [.ref 0, .int x1, .int (v 0 7)] v (mm_Kc kX5_leastDifference 9 [.ref 0, .int x1, .int x2, l3, l4, l5] [] (c + mm_mc kX5_difference) K)) : mm_E kX5_leastDifference 0 [.ref 0, .int x1, .int x2, l3, l4, l5] [] v c K := by
  refine e_run 4 (pc1 := 6) (L1 := [.ref 0, .int x1, .int x2, l3, l4, l5]) (S1 := [.int (v 0 7), .int x1, .ref 0]) (v1 := v) rfl ?_
  exact e_cl (j := kX5_difference) rfl hc g
theorem bX5_leastDifference_9 {x1 : Int32} {x2 : Int32} {l3 : Value} {l4 : Value} {l5 : Value} {y0 : Int32} {v : mmM} {c : Nat} {K : mmO → mmM → Prop} (g : mm_E kX5_leastDifference 26 [.ref 0, .int x1, .int x2, .int y0, .int (if (60 : Int32) < (x2 - (v 0 7)) then (60 : Int32) else (x2 - (v 0 7))), .int (1 : Int32)] [] v c K) : mm_E kX5_leastDifference 9 [.ref 0, .int x1, .int x2, l3, l4, l5] [.int y0] v c K := by
  refine e_run 10 (pc1 := 26) (L1 := [.ref 0, .int x1, .int x2, .int y0, .int (if (60 : Int32) < (x2 - (v 0 7)) then (60 : Int32) else (x2 - (v 0 7))), .int (1 : Int32)]) (S1 := []) (v1 := v) rfl ?_
  exact g
theorem bX5_leastDifference_26 {x1 : Int32} {x2 : Int32} {x3 : Int32} {x4 : Int32} {x5 : Int32} {v : mmM} {c : Nat} {K : mmO → mmM → Prop} (g1 : x4 < x5 → mm_E kX5_leastDifference 56 [.ref 0, .int x1, .int x2, .int x3, .int x4, .int x5] [] v c K) (g2 : ¬ x4 < x5 → mm_E kX5_leastDifference 33 [.ref 0, .int x1, .int x2, .int x3, .int x4, .int x5] [] v c K) : mm_E kX5_leastDifference 26 [.ref 0, .int x1, .int x2, .int x3, .int x4, .int x5] [] v c K := by
  refine e_run 2 (pc1 := 30) (L1 := [.ref 0, .int x1, .int x2, .int x3, .int x4, .int x5]) (S1 := [.int x4, .int x5]) (v1 := v) rfl ?_
  exact e_if (p := x4 < x5) rfl g1 g2
theorem bX5_leastDifference_33 {x1 : Int32} {x2 : Int32} {x3 : Int32} {x4 : Int32} {x5 : Int32} {v : mmM} {c : Nat} {K : mmO → mmM → Prop} (hc : c + mm_mc kX5_difference ≤ mm_mc kX5_leastDifference) (g : mm_M kX5_difference [.ref 0, .int x1, .int ((v 0 7) + x5)] v (mm_Kc kX5_leastDifference 46 [.ref 0, .int x1, .int x2, .int x3, .int x4, .int x5] [.int x3] (c + mm_mc kX5_difference) K)) : mm_E kX5_leastDifference 33 [.ref 0, .int x1, .int x2, .int x3, .int x4, .int x5] [] v c K := by
  refine e_run 7 (pc1 := 43) (L1 := [.ref 0, .int x1, .int x2, .int x3, .int x4, .int x5]) (S1 := [.int ((v 0 7) + x5), .int x1, .ref 0, .int x3]) (v1 := v) rfl ?_
  exact e_cl (j := kX5_difference) rfl hc g
theorem bX5_leastDifference_46 {x1 : Int32} {x2 : Int32} {x3 : Int32} {x4 : Int32} {x5 : Int32} {y0 : Int32} {y1 : Int32} {v : mmM} {c : Nat} {K : mmO → mmM → Prop} (g : mm_E kX5_leastDifference 26 [.ref 0, .int x1, .int x2, .int (if y1 < y0 then y1 else y0), .int x4, .int (x5 + (1 : Int32))] [] v c K) : mm_E kX5_leastDifference 46 [.ref 0, .int x1, .int x2, .int x3, .int x4, .int x5] [.int y1, .int y0] v c K := by
  refine e_run 4 (pc1 := 26) (L1 := [.ref 0, .int x1, .int x2, .int (if y1 < y0 then y1 else y0), .int x4, .int (x5 + (1 : Int32))]) (S1 := []) (v1 := v) rfl ?_
  exact g
theorem bX5_leastDifference_56 {x1 : Int32} {x2 : Int32} {x3 : Int32} {x4 : Int32} {x5 : Int32} {v : mmM} {c : Nat} {K : mmO → mmM → Prop} (g : K (.inl (some (.int x3))) v) : mm_E kX5_leastDifference 56 [.ref 0, .int x1, .int x2, .int x3, .int x4, .int x5] [] v c K := by
  refine e_run 1 (pc1 := 57) (L1 := [.ref 0, .int x1, .int x2, .int x3, .int x4, .int x5]) (S1 := [.int x3]) (v1 := v) rfl ?_
  exact e_iret (ty := .int) rfl rfl rfl g
theorem bX5_planPromise_0 {x1 : Int32} {x2 : Int32} {x3 : Int32} {x4 : Int32} {l5 : Value} {l6 : Value} {l7 : Value} {v : mmM} {c : Nat} {K : mmO → mmM → Prop} (g : mm_E kX5_planPromise 3 [.ref 0, .int x1, .int x2, .int x3, .int x4, .int (0 : Int32), l6, l7] [] v c K) : mm_E kX5_planPromise 0 [.ref 0, .int x1, .int x2, .int x3, .int x4, l5, l6, l7] [] v c K := by
  refine e_run 2 (pc1 := 3) (L1 := [.ref 0, .int x1, .int x2, .int x3, .int x4, .int (0 : Int32), l6, l7]) (S1 := []) (v1 := v) rfl ?_
  exact g
theorem bX5_planPromise_3 {x1 : Int32} {x2 : Int32} {x3 : Int32} {x4 : Int32} {x5 : Int32} {l6 : Value} {l7 : Value} {v : mmM} {c : Nat} {K : mmO → mmM → Prop} (g1 : (6 : Int32) ≤ x5 → mm_E kX5_planPromise 24 [.ref 0, .int x1, .int x2, .int x3, .int x4, .int x5, l6, l7] [] v c K) (g2 : ¬ (6 : Int32) ≤ x5 → mm_E kX5_planPromise 10 [.ref 0, .int x1, .int x2, .int x3, .int x4, .int x5, l6, l7] [] v c K) : mm_E kX5_planPromise 3 [.ref 0, .int x1, .int x2, .int x3, .int x4, .int x5, l6, l7] [] v c K := by
  refine e_run 2 (pc1 := 7) (L1 := [.ref 0, .int x1, .int x2, .int x3, .int x4, .int x5, l6, l7]) (S1 := [.int (6 : Int32), .int x5]) (v1 := v) rfl ?_
  exact e_if (p := (6 : Int32) ≤ x5) rfl g1 g2
theorem bX5_planPromise_10 {x1 : Int32} {x2 : Int32} {x3 : Int32} {x4 : Int32} {x5 : Int32} {l6 : Value} {l7 : Value} {v : mmM} {c : Nat} {K : mmO → mmM → Prop} (h1 : mm_in x5 6 = true) (g : mm_E kX5_planPromise 3 [.ref 0, .int x1, .int x2, .int x3, .int x4, .int (x5 + (1 : Int32)), l6, l7] [] (mm_up v 6 x5.toNatClampNeg (0 : Int32)) c K) : mm_E kX5_planPromise 10 [.ref 0, .int x1, .int x2, .int x3, .int x4, .int x5, l6, l7] [] v c K := by
  refine e_run 4 (pc1 := 17) (L1 := [.ref 0, .int x1, .int x2, .int x3, .int x4, .int x5, l6, l7]) (S1 := [.int (0 : Int32), .int x5, .ref 6]) (v1 := v) rfl ?_
  refine e_iast rfl rfl (by decide) h1 ?_
  refine e_run 2 (pc1 := 3) (L1 := [.ref 0, .int x1, .int x2, .int x3, .int x4, .int (x5 + (1 : Int32)), l6, l7]) (S1 := []) (v1 := mm_up v 6 x5.toNatClampNeg (0 : Int32)) rfl ?_
  exact g
theorem bX5_planPromise_24 {x1 : Int32} {x2 : Int32} {x3 : Int32} {x4 : Int32} {x5 : Int32} {l6 : Value} {l7 : Value} {v : mmM} {c : Nat} {K : mmO → mmM → Prop} (hc : c + mm_mc kX5_planPart ≤ mm_mc kX5_planPromise) (g : mm_M kX5_planPart [.ref 0, .int x1, .int x2, .int x3] v (mm_Kc kX5_planPromise 31 [.ref 0, .int x1, .int x2, .int x3, .int x4, .int x5, l6, l7] [] (c + mm_mc kX5_planPart) K)) : mm_E kX5_planPromise 24 [.ref 0, .int x1, .int x2, .int x3, .int x4, .int x5, l6, l7] [] v c K := by
  refine e_run 4 (pc1 := 28) (L1 := [.ref 0, .int x1, .int x2, .int x3, .int x4, .int x5, l6, l7]) (S1 := [.int x3, .int x2, .int x1, .ref 0]) (v1 := v) rfl ?_
  exact e_cl (j := kX5_planPart) rfl hc g
theorem bX5_planPromise_31 {x1 : Int32} {x2 : Int32} {x3 : Int32} {x4 : Int32} {x5 : Int32} {l6 : Value} {l7 : Value} {y0 : Int32} {v : mmM} {c : Nat} {K : mmO → mmM → Prop} (g1 : x4 = 0 → mm_E kX5_planPromise 38 [.ref 0, .int x1, .int x2, .int x3, .int x4, .int y0, l6, l7] [] v c K) (g2 : ¬ x4 = 0 → mm_E kX5_planPromise 41 [.ref 0, .int x1, .int x2, .int x3, .int x4, .int y0, l6, l7] [] v c K) : mm_E kX5_planPromise 31 [.ref 0, .int x1, .int x2, .int x3, .int x4, .int x5, l6, l7] [.int y0] v c K := by
  refine e_run 2 (pc1 := 35) (L1 := [.ref 0, .int x1, .int x2, .int x3, .int x4, .int y0, l6, l7]) (S1 := [.int x4]) (v1 := v) rfl ?_
  exact e_if (p := x4 = 0) rfl g1 g2
theorem bX5_planPromise_38 {x1 : Int32} {x2 : Int32} {x3 : Int32} {x4 : Int32} {x5 : Int32} {l6 : Value} {l7 : Value} {v : mmM} {c : Nat} {K : mmO → mmM → Prop} (g : K (.inl (some (.int x5))) v) : mm_E kX5_planPromise 38 [.ref 0, .int x1, .int x2, .int x3, .int x4, .int x5, l6, l7] [] v c K := by
  refine e_run 1 (pc1 := 40) (L1 := [.ref 0, .int x1, .int x2, .int x3, .int x4, .int x5, l6, l7]) (S1 := [.int x5]) (v1 := v) rfl ?_
  exact e_iret (ty := .int) rfl rfl rfl g
theorem bX5_planPromise_41 {x1 : Int32} {x2 : Int32} {x3 : Int32} {x4 : Int32} {x5 : Int32} {l6 : Value} {l7 : Value} {v : mmM} {c : Nat} {K : mmO → mmM → Prop} (g : mm_E kX5_planPromise 44 [.ref 0, .int x1, .int x2, .int x3, .int x4, .int x5, .int (1 : Int32), l7] [] v c K) : mm_E kX5_planPromise 41 [.ref 0, .int x1, .int x2, .int x3, .int x4, .int x5, l6, l7] [] v c K := by
  refine e_run 2 (pc1 := 44) (L1 := [.ref 0, .int x1, .int x2, .int x3, .int x4, .int x5, .int (1 : Int32), l7]) (S1 := []) (v1 := v) rfl ?_
  exact g
theorem bX5_planPromise_44 {x1 : Int32} {x2 : Int32} {x3 : Int32} {x4 : Int32} {x5 : Int32} {x6 : Int32} {l7 : Value} {v : mmM} {c : Nat} {K : mmO → mmM → Prop} (g1 : (9 : Int32) < x6 → mm_E kX5_planPromise 106 [.ref 0, .int x1, .int x2, .int x3, .int x4, .int x5, .int x6, l7] [] v c K) (g2 : ¬ (9 : Int32) < x6 → mm_E kX5_planPromise 51 [.ref 0, .int x1, .int x2, .int x3, .int x4, .int x5, .int x6, l7] [] v c K) : mm_E kX5_planPromise 44 [.ref 0, .int x1, .int x2, .int x3, .int x4, .int x5, .int x6, l7] [] v c K := by
  refine e_run 2 (pc1 := 48) (L1 := [.ref 0, .int x1, .int x2, .int x3, .int x4, .int x5, .int x6, l7]) (S1 := [.int (9 : Int32), .int x6]) (v1 := v) rfl ?_
  exact e_if (p := (9 : Int32) < x6) rfl g1 g2
theorem bX5_planPromise_51 {x1 : Int32} {x2 : Int32} {x3 : Int32} {x4 : Int32} {x5 : Int32} {x6 : Int32} {l7 : Value} {v : mmM} {c : Nat} {K : mmO → mmM → Prop} (g : mm_E kX5_planPromise 54 [.ref 0, .int x1, .int x2, .int x3, .int x4, .int x5, .int x6, .int (0 : Int32)] [] v c K) : mm_E kX5_planPromise 51 [.ref 0, .int x1, .int x2, .int x3, .int x4, .int x5, .int x6, l7] [] v c K := by
  refine e_run 2 (pc1 := 54) (L1 := [.ref 0, .int x1, .int x2, .int x3, .int x4, .int x5, .int x6, .int (0 : Int32)]) (S1 := []) (v1 := v) rfl ?_
  exact g
theorem bX5_planPromise_54 {x1 : Int32} {x2 : Int32} {x3 : Int32} {x4 : Int32} {x5 : Int32} {x6 : Int32} {x7 : Int32} {v : mmM} {c : Nat} {K : mmO → mmM → Prop} (g1 : (v 1 0) ≤ x7 → mm_E kX5_planPromise 100 [.ref 0, .int x1, .int x2, .int x3, .int x4, .int x5, .int x6, .int x7] [] v c K) (g2 : ¬ (v 1 0) ≤ x7 → mm_E kX5_planPromise 66 [.ref 0, .int x1, .int x2, .int x3, .int x4, .int x5, .int x6, .int x7] [] v c K) : mm_E kX5_planPromise 54 [.ref 0, .int x1, .int x2, .int x3, .int x4, .int x5, .int x6, .int x7] [] v c K := by
  refine e_run 4 (pc1 := 63) (L1 := [.ref 0, .int x1, .int x2, .int x3, .int x4, .int x5, .int x6, .int x7]) (S1 := [.int (v 1 0), .int x7]) (v1 := v) rfl ?_
  exact e_if (p := (v 1 0) ≤ x7) rfl g1 g2
theorem bX5_planPromise_66 {x1 : Int32} {x2 : Int32} {x3 : Int32} {x4 : Int32} {x5 : Int32} {x6 : Int32} {x7 : Int32} {v : mmM} {c : Nat} {K : mmO → mmM → Prop} (h1 : mm_in x1 6 = true) (h2 : mm_in x7 6 = true) (g1 : (v (10 + x1.toNatClampNeg) x7.toNatClampNeg) = x6 → mm_E kX5_planPromise 83 [.ref 0, .int x1, .int x2, .int x3, .int x4, .int x5, .int x6, .int x7] [] v c K) (g2 : ¬ (v (10 + x1.toNatClampNeg) x7.toNatClampNeg) = x6 → mm_E kX5_planPromise 94 [.ref 0, .int x1, .int x2, .int x3, .int x4, .int x5, .int x6, .int x7] [] v c K) : mm_E kX5_planPromise 66 [.ref 0, .int x1, .int x2, .int x3, .int x4, .int x5, .int x6, .int x7] [] v c K := by
  refine e_run 4 (pc1 := 74) (L1 := [.ref 0, .int x1, .int x2, .int x3, .int x4, .int x5, .int x6, .int x7]) (S1 := [.int x1, .ref 9]) (v1 := v) rfl ?_
  refine e_aald rfl rfl (by decide) h1 ?_
  refine e_run 1 (pc1 := 77) (L1 := [.ref 0, .int x1, .int x2, .int x3, .int x4, .int x5, .int x6, .int x7]) (S1 := [.int x7, .ref (10 + x1.toNatClampNeg)]) (v1 := v) rfl ?_
  refine e_iald rfl (mm_rows (P := fun x => mm_sh (10 + x) = (0, 6, 0, [])) (by decide +kernel) (mm_in_lt h1)) (by have := (mm_in_lt h1); show _ < 81; omega) h2 ?_
  refine e_run 1 (pc1 := 80) (L1 := [.ref 0, .int x1, .int x2, .int x3, .int x4, .int x5, .int x6, .int x7]) (S1 := [.int x6, .int (v (10 + x1.toNatClampNeg) x7.toNatClampNeg)]) (v1 := v) rfl ?_
  exact e_if (p := (v (10 + x1.toNatClampNeg) x7.toNatClampNeg) = x6) rfl g1 g2
theorem bX5_planPromise_83 {x1 : Int32} {x2 : Int32} {x3 : Int32} {x4 : Int32} {x5 : Int32} {x6 : Int32} {x7 : Int32} {v : mmM} {c : Nat} {K : mmO → mmM → Prop} (hc : c + mm_mc kX5_planPart ≤ mm_mc kX5_planPromise) (g : mm_M kX5_planPart [.ref 0, .int x7, .int x5, .int x3] v (mm_Kc kX5_planPromise 92 [.ref 0, .int x1, .int x2, .int x3, .int x4, .int x5, .int x6, .int x7] [] (c + mm_mc kX5_planPart) K)) : mm_E kX5_planPromise 83 [.ref 0, .int x1, .int x2, .int x3, .int x4, .int x5, .int x6, .int x7] [] v c K := by
  refine e_run 4 (pc1 := 89) (L1 := [.ref 0, .int x1, .int x2, .int x3, .int x4, .int x5, .int x6, .int x7]) (S1 := [.int x3, .int x5, .int x7, .ref 0]) (v1 := v) rfl ?_
  exact e_cl (j := kX5_planPart) rfl hc g
theorem bX5_planPromise_92 {x1 : Int32} {x2 : Int32} {x3 : Int32} {x4 : Int32} {x5 : Int32} {x6 : Int32} {x7 : Int32} {y0 : Int32} {v : mmM} {c : Nat} {K : mmO → mmM → Prop} (g : mm_E kX5_planPromise 94 [.ref 0, .int x1, .int x2, .int x3, .int x4, .int y0, .int x6, .int x7] [] v c K) : mm_E kX5_planPromise 92 [.ref 0, .int x1, .int x2, .int x3, .int x4, .int x5, .int x6, .int x7] [.int y0] v c K := by
  refine e_run 1 (pc1 := 94) (L1 := [.ref 0, .int x1, .int x2, .int x3, .int x4, .int y0, .int x6, .int x7]) (S1 := []) (v1 := v) rfl ?_
  exact g
theorem bX5_planPromise_94 {x1 : Int32} {x2 : Int32} {x3 : Int32} {x4 : Int32} {x5 : Int32} {x6 : Int32} {x7 : Int32} {v : mmM} {c : Nat} {K : mmO → mmM → Prop} (g : mm_E kX5_planPromise 54 [.ref 0, .int x1, .int x2, .int x3, .int x4, .int x5, .int x6, .int (x7 + (1 : Int32))] [] v c K) : mm_E kX5_planPromise 94 [.ref 0, .int x1, .int x2, .int x3, .int x4, .int x5, .int x6, .int x7] [] v c K := by
  refine e_run 2 (pc1 := 54) (L1 := [.ref 0, .int x1, .int x2, .int x3, .int x4, .int x5, .int x6, .int (x7 + (1 : Int32))]) (S1 := []) (v1 := v) rfl ?_
  exact g
theorem bX5_planPromise_100 {x1 : Int32} {x2 : Int32} {x3 : Int32} {x4 : Int32} {x5 : Int32} {x6 : Int32} {x7 : Int32} {v : mmM} {c : Nat} {K : mmO → mmM → Prop} (g : mm_E kX5_planPromise 44 [.ref 0, .int x1, .int x2, .int x3, .int x4, .int x5, .int (x6 + (1 : Int32)), .int x7] [] v c K) : mm_E kX5_planPromise 100 [.ref 0, .int x1, .int x2, .int x3, .int x4, .int x5, .int x6, .int x7] [] v c K := by
  refine e_run 2 (pc1 := 44) (L1 := [.ref 0, .int x1, .int x2, .int x3, .int x4, .int x5, .int (x6 + (1 : Int32)), .int x7]) (S1 := []) (v1 := v) rfl ?_
  exact g
theorem bX5_planPromise_106 {x1 : Int32} {x2 : Int32} {x3 : Int32} {x4 : Int32} {x5 : Int32} {x6 : Int32} {l7 : Value} {v : mmM} {c : Nat} {K : mmO → mmM → Prop} (g : K (.inl (some (.int x5))) v) : mm_E kX5_planPromise 106 [.ref 0, .int x1, .int x2, .int x3, .int x4, .int x5, .int x6, l7] [] v c K := by
  refine e_run 1 (pc1 := 108) (L1 := [.ref 0, .int x1, .int x2, .int x3, .int x4, .int x5, .int x6, l7]) (S1 := [.int x5]) (v1 := v) rfl ?_
  exact e_iret (ty := .int) rfl rfl rfl g
theorem bX5_planPart_0 {x1 : Int32} {x2 : Int32} {x3 : Int32} {v : mmM} {c : Nat} {K : mmO → mmM → Prop} (g1 : x2 ≤ 0 → mm_E kX5_planPart 20 [.ref 0, .int x1, .int x2, .int x3] [] v c K) (g2 : ¬ x2 ≤ 0 → mm_E kX5_planPart 4 [.ref 0, .int x1, .int x2, .int x3] [] v c K) : mm_E kX5_planPart 0 [.ref 0, .int x1, .int x2, .int x3] [] v c K := by
  refine e_run 1 (pc1 := 1) (L1 := [.ref 0, .int x1, .int x2, .int x3]) (S1 := [.int x2]) (v1 := v) rfl ?_
  exact e_if (p := x2 ≤ 0) rfl g1 g2
theorem bX5_planPart_4 {x1 : Int32} {x2 : Int32} {x3 : Int32} {v : mmM} {c : Nat} {K : mmO → mmM → Prop} (hc : c + mm_mc kX5_leastDifference ≤ mm_mc kX5_planPart) (g : mm_M kX5_leastDifference [.ref 0, .int x1, .int x3] v (mm_Kc kX5_planPart 16 [.ref 0, .int x1, .int x2, .int x3] [.int x2, .int x1, .ref 6] (c + mm_mc kX5_leastDifference) K)) : mm_E kX5_planPart 4 [.ref 0, .int x1, .int x2, .int x3] [] v c K := by
  refine e_run 7 (pc1 := 13) (L1 := [.ref 0, .int x1, .int x2, .int x3]) (S1 := [.int x3, .int x1, .ref 0, .int x2, .int x1, .ref 6]) (v1 := v) rfl ?_
  exact e_cl (j := kX5_leastDifference) rfl hc g
theorem bX5_planPart_16 {x1 : Int32} {x2 : Int32} {x3 : Int32} {y1 : Int32} {y2 : Int32} {y3 : Int32} {v : mmM} {c : Nat} {K : mmO → mmM → Prop} (h1 : mm_in y1 6 = true) (g : mm_E kX5_planPart 20 [.ref 0, .int x1, .int x2, .int x3] [] (mm_up v 6 y1.toNatClampNeg (if y3 < y2 then y3 else y2)) c K) : mm_E kX5_planPart 16 [.ref 0, .int x1, .int x2, .int x3] [.int y3, .int y2, .int y1, .ref 6] v c K := by
  refine e_run 1 (pc1 := 19) (L1 := [.ref 0, .int x1, .int x2, .int x3]) (S1 := [.int (if y3 < y2 then y3 else y2), .int y1, .ref 6]) (v1 := v) rfl ?_
  refine e_iast rfl rfl (by decide) h1 ?_
  exact g
theorem bX5_planPart_20 {x1 : Int32} {x2 : Int32} {x3 : Int32} {v : mmM} {c : Nat} {K : mmO → mmM → Prop} (h1 : mm_in x1 6 = true) (g : K (.inl (some (.int (x2 - (v 6 x1.toNatClampNeg))))) v) : mm_E kX5_planPart 20 [.ref 0, .int x1, .int x2, .int x3] [] v c K := by
  refine e_run 4 (pc1 := 26) (L1 := [.ref 0, .int x1, .int x2, .int x3]) (S1 := [.int x1, .ref 6, .int x2]) (v1 := v) rfl ?_
  refine e_iald rfl rfl (by decide) h1 ?_
  refine e_run 1 (pc1 := 28) (L1 := [.ref 0, .int x1, .int x2, .int x3]) (S1 := [.int (x2 - (v 6 x1.toNatClampNeg))]) (v1 := v) rfl ?_
  exact e_iret (ty := .int) rfl rfl rfl g
theorem bX5_canGive_0 {x1 : Int32} {x2 : Int32} {x3 : Int32} {l4 : Value} {v : mmM} {c : Nat} {K : mmO → mmM → Prop} (hc : c + mm_mc kX5_give ≤ mm_mc kX5_canGive) (g : mm_M kX5_give [.ref 0, .int x1, .int x2, .int x3] (mm_cp v 44 (0 : Int32).toNatClampNeg 7 (0 : Int32).toNatClampNeg (24 : Int32).toNatClampNeg) (mm_Kc kX5_canGive 25 [.ref 0, .int x1, .int x2, .int x3, l4] [] (c + mm_mc kX5_give) K)) : mm_E kX5_canGive 0 [.ref 0, .int x1, .int x2, .int x3, l4] [] v c K := by
  refine e_run 8 (pc1 := 15) (L1 := [.ref 0, .int x1, .int x2, .int x3, l4]) (S1 := [.int (24 : Int32), .int (0 : Int32), .ref 7, .int (0 : Int32), .ref 44]) (v1 := v) rfl ?_
  refine e_copy rfl rfl (by decide) rfl (by decide) rfl (by decide) (by decide) (by decide) ?_
  refine e_run 4 (pc1 := 22) (L1 := [.ref 0, .int x1, .int x2, .int x3, l4]) (S1 := [.int x3, .int x2, .int x1, .ref 0]) (v1 := mm_cp v 44 (0 : Int32).toNatClampNeg 7 (0 : Int32).toNatClampNeg (24 : Int32).toNatClampNeg) rfl ?_
  exact e_cl (j := kX5_give) rfl hc g
theorem bX5_canGive_25 {x1 : Int32} {x2 : Int32} {x3 : Int32} {l4 : Value} {y0 : Int32} {v : mmM} {c : Nat} {K : mmO → mmM → Prop} (g1 : y0 = 0 → mm_E kX5_canGive 28 [.ref 0, .int x1, .int x2, .int x3, l4] [] v c K) (g2 : ¬ y0 = 0 → mm_E kX5_canGive 30 [.ref 0, .int x1, .int x2, .int x3, l4] [] v c K) : mm_E kX5_canGive 25 [.ref 0, .int x1, .int x2, .int x3, l4] [.int y0] v c K := by
  exact e_if (p := y0 = 0) rfl g1 g2
theorem bX5_canGive_28 {x1 : Int32} {x2 : Int32} {x3 : Int32} {l4 : Value} {v : mmM} {c : Nat} {K : mmO → mmM → Prop} (g : K (.inl (some (.int (0 : Int32)))) v) : mm_E kX5_canGive 28 [.ref 0, .int x1, .int x2, .int x3, l4] [] v c K := by
  refine e_run 1 (pc1 := 29) (L1 := [.ref 0, .int x1, .int x2, .int x3, l4]) (S1 := [.int (0 : Int32)]) (v1 := v) rfl ?_
  exact e_iret (ty := .boolean) rfl rfl (by decide) g
theorem bX5_canGive_30 {x1 : Int32} {x2 : Int32} {x3 : Int32} {l4 : Value} {v : mmM} {c : Nat} {K : mmO → mmM → Prop} (g : mm_E kX5_canGive 33 [.ref 0, .int x1, .int x2, .int x3, .int (0 : Int32)] [] v c K) : mm_E kX5_canGive 30 [.ref 0, .int x1, .int x2, .int x3, l4] [] v c K := by
  refine e_run 2 (pc1 := 33) (L1 := [.ref 0, .int x1, .int x2, .int x3, .int (0 : Int32)]) (S1 := []) (v1 := v) rfl ?_
  exact g
theorem bX5_canGive_33 {x1 : Int32} {x2 : Int32} {x3 : Int32} {x4 : Int32} {v : mmM} {c : Nat} {K : mmO → mmM → Prop} (g1 : (v 3 0) ≤ x4 → mm_E kX5_canGive 98 [.ref 0, .int x1, .int x2, .int x3, .int x4] [] v c K) (g2 : ¬ (v 3 0) ≤ x4 → mm_E kX5_canGive 45 [.ref 0, .int x1, .int x2, .int x3, .int x4] [] v c K) : mm_E kX5_canGive 33 [.ref 0, .int x1, .int x2, .int x3, .int x4] [] v c K := by
  refine e_run 4 (pc1 := 42) (L1 := [.ref 0, .int x1, .int x2, .int x3, .int x4]) (S1 := [.int (v 3 0), .int x4]) (v1 := v) rfl ?_
  exact e_if (p := (v 3 0) ≤ x4) rfl g1 g2
theorem bX5_canGive_45 {x1 : Int32} {x2 : Int32} {x3 : Int32} {x4 : Int32} {v : mmM} {c : Nat} {K : mmO → mmM → Prop} (h1 : mm_in x4 20 = true) (g1 : (v 48 x4.toNatClampNeg) = (111 : Int32) → mm_E kX5_canGive 60 [.ref 0, .int x1, .int x2, .int x3, .int x4] [] v c K) (g2 : ¬ (v 48 x4.toNatClampNeg) = (111 : Int32) → mm_E kX5_canGive 92 [.ref 0, .int x1, .int x2, .int x3, .int x4] [] v c K) : mm_E kX5_canGive 45 [.ref 0, .int x1, .int x2, .int x3, .int x4] [] v c K := by
  refine e_run 4 (pc1 := 54) (L1 := [.ref 0, .int x1, .int x2, .int x3, .int x4]) (S1 := [.int x4, .ref 48]) (v1 := v) rfl ?_
  refine e_cald rfl rfl (by decide) h1 ?_
  refine e_run 1 (pc1 := 57) (L1 := [.ref 0, .int x1, .int x2, .int x3, .int x4]) (S1 := [.int (111 : Int32), .int (v 48 x4.toNatClampNeg)]) (v1 := v) rfl ?_
  exact e_if (p := (v 48 x4.toNatClampNeg) = (111 : Int32)) rfl g1 g2
theorem bX5_canGive_60 {x1 : Int32} {x2 : Int32} {x3 : Int32} {x4 : Int32} {v : mmM} {c : Nat} {K : mmO → mmM → Prop} (h1 : mm_in x4 20 = true) (h2 : mm_in x4 20 = true) (h3 : mm_in x1 6 = true) (hc : c + mm_mc kX5_give ≤ mm_mc kX5_canGive) (g : mm_M kX5_give [.ref 0, .int x1, .int (v 47 x4.toNatClampNeg), .int (v (50 + x4.toNatClampNeg) x1.toNatClampNeg)] v (mm_Kc kX5_canGive 87 [.ref 0, .int x1, .int x2, .int x3, .int x4] [] (c + mm_mc kX5_give) K)) : mm_E kX5_canGive 60 [.ref 0, .int x1, .int x2, .int x3, .int x4] [] v c K := by
  refine e_run 6 (pc1 := 71) (L1 := [.ref 0, .int x1, .int x2, .int x3, .int x4]) (S1 := [.int x4, .ref 47, .int x1, .ref 0]) (v1 := v) rfl ?_
  refine e_iald rfl rfl (by decide) h1 ?_
  refine e_run 4 (pc1 := 81) (L1 := [.ref 0, .int x1, .int x2, .int x3, .int x4]) (S1 := [.int x4, .ref 49, .int (v 47 x4.toNatClampNeg), .int x1, .ref 0]) (v1 := v) rfl ?_
  refine e_aald rfl rfl (by decide) h2 ?_
  refine e_run 1 (pc1 := 83) (L1 := [.ref 0, .int x1, .int x2, .int x3, .int x4]) (S1 := [.int x1, .ref (50 + x4.toNatClampNeg), .int (v 47 x4.toNatClampNeg), .int x1, .ref 0]) (v1 := v) rfl ?_
  refine e_iald rfl (mm_rows (P := fun x => mm_sh (50 + x) = (0, 6, 0, [])) (by decide +kernel) (mm_in_lt h2)) (by have := (mm_in_lt h2); show _ < 81; omega) h3 ?_
  exact e_cl (j := kX5_give) rfl hc g
theorem bX5_canGive_87 {x1 : Int32} {x2 : Int32} {x3 : Int32} {x4 : Int32} {y0 : Int32} {v : mmM} {c : Nat} {K : mmO → mmM → Prop} (g1 : y0 = 0 → mm_E kX5_canGive 90 [.ref 0, .int x1, .int x2, .int x3, .int x4] [] v c K) (g2 : ¬ y0 = 0 → mm_E kX5_canGive 92 [.ref 0, .int x1, .int x2, .int x3, .int x4] [] v c K) : mm_E kX5_canGive 87 [.ref 0, .int x1, .int x2, .int x3, .int x4] [.int y0] v c K := by
  exact e_if (p := y0 = 0) rfl g1 g2
theorem bX5_canGive_90 {x1 : Int32} {x2 : Int32} {x3 : Int32} {x4 : Int32} {v : mmM} {c : Nat} {K : mmO → mmM → Prop} (g : K (.inl (some (.int (0 : Int32)))) v) : mm_E kX5_canGive 90 [.ref 0, .int x1, .int x2, .int x3, .int x4] [] v c K := by
  refine e_run 1 (pc1 := 91) (L1 := [.ref 0, .int x1, .int x2, .int x3, .int x4]) (S1 := [.int (0 : Int32)]) (v1 := v) rfl ?_
  exact e_iret (ty := .boolean) rfl rfl (by decide) g
theorem bX5_canGive_92 {x1 : Int32} {x2 : Int32} {x3 : Int32} {x4 : Int32} {v : mmM} {c : Nat} {K : mmO → mmM → Prop} (g : mm_E kX5_canGive 33 [.ref 0, .int x1, .int x2, .int x3, .int (x4 + (1 : Int32))] [] v c K) : mm_E kX5_canGive 92 [.ref 0, .int x1, .int x2, .int x3, .int x4] [] v c K := by
  refine e_run 2 (pc1 := 33) (L1 := [.ref 0, .int x1, .int x2, .int x3, .int (x4 + (1 : Int32))]) (S1 := []) (v1 := v) rfl ?_
  exact g
theorem bX5_canGive_98 {x1 : Int32} {x2 : Int32} {x3 : Int32} {x4 : Int32} {v : mmM} {c : Nat} {K : mmO → mmM → Prop} (g : K (.inl (some (.int (1 : Int32)))) v) : mm_E kX5_canGive 98 [.ref 0, .int x1, .int x2, .int x3, .int x4] [] v c K := by
  refine e_run 1 (pc1 := 99) (L1 := [.ref 0, .int x1, .int x2, .int x3, .int x4]) (S1 := [.int (1 : Int32)]) (v1 := v) rfl ?_
  exact e_iret (ty := .boolean) rfl rfl (by decide) g
theorem bX5_give_0 {x1 : Int32} {x2 : Int32} {x3 : Int32} {l4 : Value} {l5 : Value} {l6 : Value} {l7 : Value} {v : mmM} {c : Nat} {K : mmO → mmM → Prop} (g : mm_E kX5_give 6 [.ref 0, .int x1, .int x2, .int x3, .int x3, .int (0 : Int32), l6, l7] [] v c K) : mm_E kX5_give 0 [.ref 0, .int x1, .int x2, .int x3, l4, l5, l6, l7] [] v c K := by
  refine e_run 4 (pc1 := 6) (L1 := [.ref 0, .int x1, .int x2, .int x3, .int x3, .int (0 : Int32), l6, l7]) (S1 := []) (v1 := v) rfl ?_
  exact g
theorem bX5_give_6 {x1 : Int32} {x2 : Int32} {x3 : Int32} {x4 : Int32} {x5 : Int32} {l6 : Value} {l7 : Value} {v : mmM} {c : Nat} {K : mmO → mmM → Prop} (g1 : (v 2 0) ≤ x5 → mm_E kX5_give 88 [.ref 0, .int x1, .int x2, .int x3, .int x4, .int x5, l6, l7] [] v c K) (g2 : ¬ (v 2 0) ≤ x5 → mm_E kX5_give 18 [.ref 0, .int x1, .int x2, .int x3, .int x4, .int x5, l6, l7] [] v c K) : mm_E kX5_give 6 [.ref 0, .int x1, .int x2, .int x3, .int x4, .int x5, l6, l7] [] v c K := by
  refine e_run 4 (pc1 := 15) (L1 := [.ref 0, .int x1, .int x2, .int x3, .int x4, .int x5, l6, l7]) (S1 := [.int (v 2 0), .int x5]) (v1 := v) rfl ?_
  exact e_if (p := (v 2 0) ≤ x5) rfl g1 g2
theorem bX5_give_18 {x1 : Int32} {x2 : Int32} {x3 : Int32} {x4 : Int32} {x5 : Int32} {l6 : Value} {l7 : Value} {v : mmM} {c : Nat} {K : mmO → mmM → Prop} (g1 : x4 ≤ 0 → mm_E kX5_give 88 [.ref 0, .int x1, .int x2, .int x3, .int x4, .int x5, l6, l7] [] v c K) (g2 : ¬ x4 ≤ 0 → mm_E kX5_give 23 [.ref 0, .int x1, .int x2, .int x3, .int x4, .int x5, l6, l7] [] v c K) : mm_E kX5_give 18 [.ref 0, .int x1, .int x2, .int x3, .int x4, .int x5, l6, l7] [] v c K := by
  refine e_run 1 (pc1 := 20) (L1 := [.ref 0, .int x1, .int x2, .int x3, .int x4, .int x5, l6, l7]) (S1 := [.int x4]) (v1 := v) rfl ?_
  exact e_if (p := x4 ≤ 0) rfl g1 g2
theorem bX5_give_23 {x1 : Int32} {x2 : Int32} {x3 : Int32} {x4 : Int32} {x5 : Int32} {l6 : Value} {l7 : Value} {v : mmM} {c : Nat} {K : mmO → mmM → Prop} (h1 : mm_in x5 24 = true) (hc : c + mm_mc kX0_lasts ≤ mm_mc kX5_give) (g : mm_M kX0_lasts [.ref 2, .int (v 18 x5.toNatClampNeg), .int x1, .int x2] v (mm_Kc kX5_give 46 [.ref 0, .int x1, .int x2, .int x3, .int x4, .int x5, .int (v 18 x5.toNatClampNeg), l7] [] (c + mm_mc kX0_lasts) K)) : mm_E kX5_give 23 [.ref 0, .int x1, .int x2, .int x3, .int x4, .int x5, l6, l7] [] v c K := by
  refine e_run 4 (pc1 := 32) (L1 := [.ref 0, .int x1, .int x2, .int x3, .int x4, .int x5, l6, l7]) (S1 := [.int x5, .ref 18]) (v1 := v) rfl ?_
  refine e_iald rfl rfl (by decide) h1 ?_
  refine e_run 6 (pc1 := 43) (L1 := [.ref 0, .int x1, .int x2, .int x3, .int x4, .int x5, .int (v 18 x5.toNatClampNeg), l7]) (S1 := [.int x2, .int x1, .int (v 18 x5.toNatClampNeg), .ref 2]) (v1 := v) rfl ?_
  exact e_cl (j := kX0_lasts) rfl hc g
theorem bX5_give_46 {x1 : Int32} {x2 : Int32} {x3 : Int32} {x4 : Int32} {x5 : Int32} {x6 : Int32} {l7 : Value} {y0 : Int32} {v : mmM} {c : Nat} {K : mmO → mmM → Prop} (g1 : y0 = 0 → mm_E kX5_give 82 [.ref 0, .int x1, .int x2, .int x3, .int x4, .int x5, .int x6, l7] [] v c K) (g2 : ¬ y0 = 0 → mm_E kX5_give 49 [.ref 0, .int x1, .int x2, .int x3, .int x4, .int x5, .int x6, l7] [] v c K) : mm_E kX5_give 46 [.ref 0, .int x1, .int x2, .int x3, .int x4, .int x5, .int x6, l7] [.int y0] v c K := by
  exact e_if (p := y0 = 0) rfl g1 g2
theorem bX5_give_49 {x1 : Int32} {x2 : Int32} {x3 : Int32} {x4 : Int32} {x5 : Int32} {x6 : Int32} {l7 : Value} {v : mmM} {c : Nat} {K : mmO → mmM → Prop} (h1 : mm_in x6 24 = true) (h2 : mm_in x6 24 = true) (h3 : mm_in x6 24 = true) (g : mm_E kX5_give 82 [.ref 0, .int x1, .int x2, .int x3, .int (x4 - (if (v 7 x6.toNatClampNeg) < x4 then (v 7 x6.toNatClampNeg) else x4)), .int x5, .int x6, .int (if (v 7 x6.toNatClampNeg) < x4 then (v 7 x6.toNatClampNeg) else x4)] [] (mm_up v 7 x6.toNatClampNeg ((v 7 x6.toNatClampNeg) - (if (v 7 x6.toNatClampNeg) < x4 then (v 7 x6.toNatClampNeg) else x4))) c K) : mm_E kX5_give 49 [.ref 0, .int x1, .int x2, .int x3, .int x4, .int x5, .int x6, l7] [] v c K := by
  refine e_run 4 (pc1 := 57) (L1 := [.ref 0, .int x1, .int x2, .int x3, .int x4, .int x5, .int x6, l7]) (S1 := [.int x6, .ref 7, .int x4]) (v1 := v) rfl ?_
  refine e_iald rfl rfl (by decide) h1 ?_
  refine e_run 6 (pc1 := 70) (L1 := [.ref 0, .int x1, .int x2, .int x3, .int x4, .int x5, .int x6, .int (if (v 7 x6.toNatClampNeg) < x4 then (v 7 x6.toNatClampNeg) else x4)]) (S1 := [.int x6, .ref 7, .int x6, .ref 7]) (v1 := v) rfl ?_
  refine e_iald rfl rfl (by decide) h2 ?_
  refine e_run 2 (pc1 := 74) (L1 := [.ref 0, .int x1, .int x2, .int x3, .int x4, .int x5, .int x6, .int (if (v 7 x6.toNatClampNeg) < x4 then (v 7 x6.toNatClampNeg) else x4)]) (S1 := [.int ((v 7 x6.toNatClampNeg) - (if (v 7 x6.toNatClampNeg) < x4 then (v 7 x6.toNatClampNeg) else x4)), .int x6, .ref 7]) (v1 := v) rfl ?_
  refine e_iast rfl rfl (by decide) h3 ?_
  refine e_run 4 (pc1 := 82) (L1 := [.ref 0, .int x1, .int x2, .int x3, .int (x4 - (if (v 7 x6.toNatClampNeg) < x4 then (v 7 x6.toNatClampNeg) else x4)), .int x5, .int x6, .int (if (v 7 x6.toNatClampNeg) < x4 then (v 7 x6.toNatClampNeg) else x4)]) (S1 := []) (v1 := mm_up v 7 x6.toNatClampNeg ((v 7 x6.toNatClampNeg) - (if (v 7 x6.toNatClampNeg) < x4 then (v 7 x6.toNatClampNeg) else x4))) rfl ?_
  exact g
theorem bX5_give_82 {x1 : Int32} {x2 : Int32} {x3 : Int32} {x4 : Int32} {x5 : Int32} {x6 : Int32} {l7 : Value} {v : mmM} {c : Nat} {K : mmO → mmM → Prop} (g : mm_E kX5_give 6 [.ref 0, .int x1, .int x2, .int x3, .int x4, .int (x5 + (1 : Int32)), .int x6, l7] [] v c K) : mm_E kX5_give 82 [.ref 0, .int x1, .int x2, .int x3, .int x4, .int x5, .int x6, l7] [] v c K := by
  refine e_run 2 (pc1 := 6) (L1 := [.ref 0, .int x1, .int x2, .int x3, .int x4, .int (x5 + (1 : Int32)), .int x6, l7]) (S1 := []) (v1 := v) rfl ?_
  exact g
theorem bX5_give_88 {x1 : Int32} {x2 : Int32} {x3 : Int32} {x4 : Int32} {x5 : Int32} {l6 : Value} {l7 : Value} {v : mmM} {c : Nat} {K : mmO → mmM → Prop} (g1 : x4 = 0 → mm_E kX5_give 93 [.ref 0, .int x1, .int x2, .int x3, .int x4, .int x5, l6, l7] [] v c K) (g2 : ¬ x4 = 0 → mm_E kX5_give 97 [.ref 0, .int x1, .int x2, .int x3, .int x4, .int x5, l6, l7] [] v c K) : mm_E kX5_give 88 [.ref 0, .int x1, .int x2, .int x3, .int x4, .int x5, l6, l7] [] v c K := by
  refine e_run 1 (pc1 := 90) (L1 := [.ref 0, .int x1, .int x2, .int x3, .int x4, .int x5, l6, l7]) (S1 := [.int x4]) (v1 := v) rfl ?_
  exact e_if (p := x4 = 0) rfl g1 g2
theorem bX5_give_93 {x1 : Int32} {x2 : Int32} {x3 : Int32} {x4 : Int32} {x5 : Int32} {l6 : Value} {l7 : Value} {v : mmM} {c : Nat} {K : mmO → mmM → Prop} (g : mm_E kX5_give 98 [.ref 0, .int x1, .int x2, .int x3, .int x4, .int x5, l6, l7] [.int (1 : Int32)] v c K) : mm_E kX5_give 93 [.ref 0, .int x1, .int x2, .int x3, .int x4, .int x5, l6, l7] [] v c K := by
  refine e_run 2 (pc1 := 98) (L1 := [.ref 0, .int x1, .int x2, .int x3, .int x4, .int x5, l6, l7]) (S1 := [.int (1 : Int32)]) (v1 := v) rfl ?_
  exact g
theorem bX5_give_97 {x1 : Int32} {x2 : Int32} {x3 : Int32} {x4 : Int32} {x5 : Int32} {l6 : Value} {l7 : Value} {v : mmM} {c : Nat} {K : mmO → mmM → Prop} (g : mm_E kX5_give 98 [.ref 0, .int x1, .int x2, .int x3, .int x4, .int x5, l6, l7] [.int (0 : Int32)] v c K) : mm_E kX5_give 97 [.ref 0, .int x1, .int x2, .int x3, .int x4, .int x5, l6, l7] [] v c K := by
  refine e_run 1 (pc1 := 98) (L1 := [.ref 0, .int x1, .int x2, .int x3, .int x4, .int x5, l6, l7]) (S1 := [.int (0 : Int32)]) (v1 := v) rfl ?_
  exact g
theorem bX5_give_98 {x1 : Int32} {x2 : Int32} {x3 : Int32} {x4 : Int32} {x5 : Int32} {l6 : Value} {l7 : Value} {y0 : Int32} {v : mmM} {c : Nat} {K : mmO → mmM → Prop} (h1 : narrow .boolean (.int y0) = .int y0) (g : K (.inl (some (.int y0))) v) : mm_E kX5_give 98 [.ref 0, .int x1, .int x2, .int x3, .int x4, .int x5, l6, l7] [.int y0] v c K := by
  exact e_iret (ty := .boolean) rfl rfl h1 g
theorem bX5_loadLines_0 {x1 : Int32} {l2 : Value} {v : mmM} {c : Nat} {K : mmO → mmM → Prop} (hc : c + mm_mc kX5_requirePromise ≤ mm_mc kX5_loadLines) (g : mm_M kX5_requirePromise [.ref 0, .int x1] v (mm_Kc kX5_loadLines 5 [.ref 0, .int x1, l2] [] (c + mm_mc kX5_requirePromise) K)) : mm_E kX5_loadLines 0 [.ref 0, .int x1, l2] [] v c K := by
  refine e_run 2 (pc1 := 2) (L1 := [.ref 0, .int x1, l2]) (S1 := [.int x1, .ref 0]) (v1 := v) rfl ?_
  exact e_cl (j := kX5_requirePromise) rfl hc g
theorem bX5_loadLines_5 {x1 : Int32} {l2 : Value} {v : mmM} {c : Nat} {K : mmO → mmM → Prop} (h1 : mm_in x1 20 = true) (g1 : (v 48 x1.toNatClampNeg) = (111 : Int32) → mm_E kX5_loadLines 38 [.ref 0, .int x1, .int (v 48 x1.toNatClampNeg)] [] v c K) (g2 : ¬ (v 48 x1.toNatClampNeg) = (111 : Int32) → mm_E kX5_loadLines 21 [.ref 0, .int x1, .int (v 48 x1.toNatClampNeg)] [] v c K) : mm_E kX5_loadLines 5 [.ref 0, .int x1, l2] [] v c K := by
  refine e_run 4 (pc1 := 13) (L1 := [.ref 0, .int x1, l2]) (S1 := [.int x1, .ref 48]) (v1 := v) rfl ?_
  refine e_cald rfl rfl (by decide) h1 ?_
  refine e_run 3 (pc1 := 18) (L1 := [.ref 0, .int x1, .int (v 48 x1.toNatClampNeg)]) (S1 := [.int (111 : Int32), .int (v 48 x1.toNatClampNeg)]) (v1 := v) rfl ?_
  exact e_if (p := (v 48 x1.toNatClampNeg) = (111 : Int32)) rfl g1 g2
theorem bX5_loadLines_21 {x1 : Int32} {x2 : Int32} {v : mmM} {c : Nat} {K : mmO → mmM → Prop} (g1 : x2 = (112 : Int32) → mm_E kX5_loadLines 38 [.ref 0, .int x1, .int x2] [] v c K) (g2 : ¬ x2 = (112 : Int32) → mm_E kX5_loadLines 27 [.ref 0, .int x1, .int x2] [] v c K) : mm_E kX5_loadLines 21 [.ref 0, .int x1, .int x2] [] v c K := by
  refine e_run 2 (pc1 := 24) (L1 := [.ref 0, .int x1, .int x2]) (S1 := [.int (112 : Int32), .int x2]) (v1 := v) rfl ?_
  exact e_if (p := x2 = (112 : Int32)) rfl g1 g2
theorem bX5_loadLines_27 {x1 : Int32} {x2 : Int32} {v : mmM} {c : Nat} {K : mmO → mmM → Prop} (hc : c + 1 ≤ mm_mc kX5_loadLines) (g : K (.inr 1) v) : mm_E kX5_loadLines 27 [.ref 0, .int x1, .int x2] [] v c K := by
  exact e_th (e := 1) rfl hc g
theorem bX5_loadLines_38 {x1 : Int32} {x2 : Int32} {v : mmM} {c : Nat} {K : mmO → mmM → Prop} (g1 : x2 = (111 : Int32) → mm_E kX5_loadLines 44 [.ref 0, .int x1, .int x2] [] v c K) (g2 : ¬ x2 = (111 : Int32) → mm_E kX5_loadLines 52 [.ref 0, .int x1, .int x2] [] v c K) : mm_E kX5_loadLines 38 [.ref 0, .int x1, .int x2] [] v c K := by
  refine e_run 2 (pc1 := 41) (L1 := [.ref 0, .int x1, .int x2]) (S1 := [.int (111 : Int32), .int x2]) (v1 := v) rfl ?_
  exact e_if (p := x2 = (111 : Int32)) rfl g1 g2
theorem bX5_loadLines_44 {x1 : Int32} {x2 : Int32} {v : mmM} {c : Nat} {K : mmO → mmM → Prop} (hc : c + mm_mc kX5_findLines ≤ mm_mc kX5_loadLines) (g : mm_M kX5_findLines [.ref 0, .int x1] v (mm_Kc kX5_loadLines 49 [.ref 0, .int x1, .int x2] [] (c + mm_mc kX5_findLines) K)) : mm_E kX5_loadLines 44 [.ref 0, .int x1, .int x2] [] v c K := by
  refine e_run 2 (pc1 := 46) (L1 := [.ref 0, .int x1, .int x2]) (S1 := [.int x1, .ref 0]) (v1 := v) rfl ?_
  exact e_cl (j := kX5_findLines) rfl hc g
theorem bX5_loadLines_49 {x1 : Int32} {x2 : Int32} {v : mmM} {c : Nat} {K : mmO → mmM → Prop} (g : mm_E kX5_loadLines 57 [.ref 0, .int x1, .int x2] [] v c K) : mm_E kX5_loadLines 49 [.ref 0, .int x1, .int x2] [] v c K := by
  refine e_run 1 (pc1 := 57) (L1 := [.ref 0, .int x1, .int x2]) (S1 := []) (v1 := v) rfl ?_
  exact g
theorem bX5_loadLines_52 {x1 : Int32} {x2 : Int32} {v : mmM} {c : Nat} {K : mmO → mmM → Prop} (hc : c + mm_mc kX5_recallLines ≤ mm_mc kX5_loadLines) (g : mm_M kX5_recallLines [.ref 0, .int x1] v (mm_Kc kX5_loadLines 57 [.ref 0, .int x1, .int x2] [] (c + mm_mc kX5_recallLines) K)) : mm_E kX5_loadLines 52 [.ref 0, .int x1, .int x2] [] v c K := by
  refine e_run 2 (pc1 := 54) (L1 := [.ref 0, .int x1, .int x2]) (S1 := [.int x1, .ref 0]) (v1 := v) rfl ?_
  exact e_cl (j := kX5_recallLines) rfl hc g
theorem bX5_loadLines_57 {x1 : Int32} {x2 : Int32} {v : mmM} {c : Nat} {K : mmO → mmM → Prop} (g : K (.inl none) v) : mm_E kX5_loadLines 57 [.ref 0, .int x1, .int x2] [] v c K := by
  exact e_rt rfl g
theorem bX5_findLines_0 {x1 : Int32} {l2 : Value} {v : mmM} {c : Nat} {K : mmO → mmM → Prop} (g : mm_E kX5_findLines 10 [.ref 0, .int x1, .int (0 : Int32)] [] (mm_up v 5 0 (0 : Int32)) c K) : mm_E kX5_findLines 0 [.ref 0, .int x1, l2] [] v c K := by
  refine e_run 6 (pc1 := 10) (L1 := [.ref 0, .int x1, .int (0 : Int32)]) (S1 := []) (v1 := mm_up v 5 0 (0 : Int32)) rfl ?_
  exact g
theorem bX5_findLines_10 {x1 : Int32} {x2 : Int32} {v : mmM} {c : Nat} {K : mmO → mmM → Prop} (g1 : (v 1 0) ≤ x2 → mm_E kX5_findLines 52 [.ref 0, .int x1, .int x2] [] v c K) (g2 : ¬ (v 1 0) ≤ x2 → mm_E kX5_findLines 21 [.ref 0, .int x1, .int x2] [] v c K) : mm_E kX5_findLines 10 [.ref 0, .int x1, .int x2] [] v c K := by
  refine e_run 4 (pc1 := 18) (L1 := [.ref 0, .int x1, .int x2]) (S1 := [.int (v 1 0), .int x2]) (v1 := v) rfl ?_
  exact e_if (p := (v 1 0) ≤ x2) rfl g1 g2
theorem bX5_findLines_21 {x1 : Int32} {x2 : Int32} {v : mmM} {c : Nat} {K : mmO → mmM → Prop} (h1 : mm_in x1 20 = true) (h2 : mm_in x1 20 = true) (h3 : mm_in x2 6 = true) (hc : c + mm_mc kX5_findLinesOfItem ≤ mm_mc kX5_findLines) (g : mm_M kX5_findLinesOfItem [.ref 0, .int x2, .int (v 47 x1.toNatClampNeg), .int (v (50 + x1.toNatClampNeg) x2.toNatClampNeg)] v (mm_Kc kX5_findLines 46 [.ref 0, .int x1, .int x2] [] (c + mm_mc kX5_findLinesOfItem) K)) : mm_E kX5_findLines 21 [.ref 0, .int x1, .int x2] [] v c K := by
  refine e_run 6 (pc1 := 31) (L1 := [.ref 0, .int x1, .int x2]) (S1 := [.int x1, .ref 47, .int x2, .ref 0]) (v1 := v) rfl ?_
  refine e_iald rfl rfl (by decide) h1 ?_
  refine e_run 4 (pc1 := 40) (L1 := [.ref 0, .int x1, .int x2]) (S1 := [.int x1, .ref 49, .int (v 47 x1.toNatClampNeg), .int x2, .ref 0]) (v1 := v) rfl ?_
  refine e_aald rfl rfl (by decide) h2 ?_
  refine e_run 1 (pc1 := 42) (L1 := [.ref 0, .int x1, .int x2]) (S1 := [.int x2, .ref (50 + x1.toNatClampNeg), .int (v 47 x1.toNatClampNeg), .int x2, .ref 0]) (v1 := v) rfl ?_
  refine e_iald rfl (mm_rows (P := fun x => mm_sh (50 + x) = (0, 6, 0, [])) (by decide +kernel) (mm_in_lt h2)) (by have := (mm_in_lt h2); show _ < 81; omega) h3 ?_
  exact e_cl (j := kX5_findLinesOfItem) rfl hc g
theorem bX5_findLines_46 {x1 : Int32} {x2 : Int32} {v : mmM} {c : Nat} {K : mmO → mmM → Prop} (g : mm_E kX5_findLines 10 [.ref 0, .int x1, .int (x2 + (1 : Int32))] [] v c K) : mm_E kX5_findLines 46 [.ref 0, .int x1, .int x2] [] v c K := by
  refine e_run 2 (pc1 := 10) (L1 := [.ref 0, .int x1, .int (x2 + (1 : Int32))]) (S1 := []) (v1 := v) rfl ?_
  exact g
theorem bX5_findLines_52 {x1 : Int32} {x2 : Int32} {v : mmM} {c : Nat} {K : mmO → mmM → Prop} (g : K (.inl none) v) : mm_E kX5_findLines 52 [.ref 0, .int x1, .int x2] [] v c K := by
  exact e_rt rfl g
theorem bX5_findLinesOfItem_0 {x1 : Int32} {x2 : Int32} {x3 : Int32} {l4 : Value} {l5 : Value} {l6 : Value} {v : mmM} {c : Nat} {K : mmO → mmM → Prop} (g : mm_E kX5_findLinesOfItem 6 [.ref 0, .int x1, .int x2, .int x3, .int x3, .int (0 : Int32), l6] [] v c K) : mm_E kX5_findLinesOfItem 0 [.ref 0, .int x1, .int x2, .int x3, l4, l5, l6] [] v c K := by
  refine e_run 4 (pc1 := 6) (L1 := [.ref 0, .int x1, .int x2, .int x3, .int x3, .int (0 : Int32), l6]) (S1 := []) (v1 := v) rfl ?_
  exact g
theorem bX5_findLinesOfItem_6 {x1 : Int32} {x2 : Int32} {x3 : Int32} {x4 : Int32} {x5 : Int32} {l6 : Value} {v : mmM} {c : Nat} {K : mmO → mmM → Prop} (g1 : (v 2 0) ≤ x5 → mm_E kX5_findLinesOfItem 68 [.ref 0, .int x1, .int x2, .int x3, .int x4, .int x5, l6] [] v c K) (g2 : ¬ (v 2 0) ≤ x5 → mm_E kX5_findLinesOfItem 18 [.ref 0, .int x1, .int x2, .int x3, .int x4, .int x5, l6] [] v c K) : mm_E kX5_findLinesOfItem 6 [.ref 0, .int x1, .int x2, .int x3, .int x4, .int x5, l6] [] v c K := by
  refine e_run 4 (pc1 := 15) (L1 := [.ref 0, .int x1, .int x2, .int x3, .int x4, .int x5, l6]) (S1 := [.int (v 2 0), .int x5]) (v1 := v) rfl ?_
  exact e_if (p := (v 2 0) ≤ x5) rfl g1 g2
theorem bX5_findLinesOfItem_18 {x1 : Int32} {x2 : Int32} {x3 : Int32} {x4 : Int32} {x5 : Int32} {l6 : Value} {v : mmM} {c : Nat} {K : mmO → mmM → Prop} (g1 : x4 ≤ 0 → mm_E kX5_findLinesOfItem 68 [.ref 0, .int x1, .int x2, .int x3, .int x4, .int x5, l6] [] v c K) (g2 : ¬ x4 ≤ 0 → mm_E kX5_findLinesOfItem 23 [.ref 0, .int x1, .int x2, .int x3, .int x4, .int x5, l6] [] v c K) : mm_E kX5_findLinesOfItem 18 [.ref 0, .int x1, .int x2, .int x3, .int x4, .int x5, l6] [] v c K := by
  refine e_run 1 (pc1 := 20) (L1 := [.ref 0, .int x1, .int x2, .int x3, .int x4, .int x5, l6]) (S1 := [.int x4]) (v1 := v) rfl ?_
  exact e_if (p := x4 ≤ 0) rfl g1 g2
theorem bX5_findLinesOfItem_23 {x1 : Int32} {x2 : Int32} {x3 : Int32} {x4 : Int32} {x5 : Int32} {l6 : Value} {v : mmM} {c : Nat} {K : mmO → mmM → Prop} (h1 : mm_in x5 24 = true) (hc : c + mm_mc kX0_lasts ≤ mm_mc kX5_findLinesOfItem) (g : mm_M kX0_lasts [.ref 2, .int (v 18 x5.toNatClampNeg), .int x1, .int x2] v (mm_Kc kX5_findLinesOfItem 46 [.ref 0, .int x1, .int x2, .int x3, .int x4, .int x5, .int (v 18 x5.toNatClampNeg)] [] (c + mm_mc kX0_lasts) K)) : mm_E kX5_findLinesOfItem 23 [.ref 0, .int x1, .int x2, .int x3, .int x4, .int x5, l6] [] v c K := by
  refine e_run 4 (pc1 := 32) (L1 := [.ref 0, .int x1, .int x2, .int x3, .int x4, .int x5, l6]) (S1 := [.int x5, .ref 18]) (v1 := v) rfl ?_
  refine e_iald rfl rfl (by decide) h1 ?_
  refine e_run 6 (pc1 := 43) (L1 := [.ref 0, .int x1, .int x2, .int x3, .int x4, .int x5, .int (v 18 x5.toNatClampNeg)]) (S1 := [.int x2, .int x1, .int (v 18 x5.toNatClampNeg), .ref 2]) (v1 := v) rfl ?_
  exact e_cl (j := kX0_lasts) rfl hc g
theorem bX5_findLinesOfItem_46 {x1 : Int32} {x2 : Int32} {x3 : Int32} {x4 : Int32} {x5 : Int32} {x6 : Int32} {y0 : Int32} {v : mmM} {c : Nat} {K : mmO → mmM → Prop} (g1 : y0 = 0 → mm_E kX5_findLinesOfItem 62 [.ref 0, .int x1, .int x2, .int x3, .int x4, .int x5, .int x6] [] v c K) (g2 : ¬ y0 = 0 → mm_E kX5_findLinesOfItem 49 [.ref 0, .int x1, .int x2, .int x3, .int x4, .int x5, .int x6] [] v c K) : mm_E kX5_findLinesOfItem 46 [.ref 0, .int x1, .int x2, .int x3, .int x4, .int x5, .int x6] [.int y0] v c K := by
  exact e_if (p := y0 = 0) rfl g1 g2
theorem bX5_findLinesOfItem_49 {x1 : Int32} {x2 : Int32} {x3 : Int32} {x4 : Int32} {x5 : Int32} {x6 : Int32} {v : mmM} {c : Nat} {K : mmO → mmM → Prop} (hc : c + mm_mc kX5_findLinesOfLot ≤ mm_mc kX5_findLinesOfItem) (g : mm_M kX5_findLinesOfLot [.ref 0, .int x6, .int x4] v (mm_Kc kX5_findLinesOfItem 59 [.ref 0, .int x1, .int x2, .int x3, .int x4, .int x5, .int x6] [.int x4] (c + mm_mc kX5_findLinesOfLot) K)) : mm_E kX5_findLinesOfItem 49 [.ref 0, .int x1, .int x2, .int x3, .int x4, .int x5, .int x6] [] v c K := by
  refine e_run 4 (pc1 := 56) (L1 := [.ref 0, .int x1, .int x2, .int x3, .int x4, .int x5, .int x6]) (S1 := [.int x4, .int x6, .ref 0, .int x4]) (v1 := v) rfl ?_
  exact e_cl (j := kX5_findLinesOfLot) rfl hc g
theorem bX5_findLinesOfItem_59 {x1 : Int32} {x2 : Int32} {x3 : Int32} {x4 : Int32} {x5 : Int32} {x6 : Int32} {y0 : Int32} {y1 : Int32} {v : mmM} {c : Nat} {K : mmO → mmM → Prop} (g : mm_E kX5_findLinesOfItem 62 [.ref 0, .int x1, .int x2, .int x3, .int (y0 - y1), .int x5, .int x6] [] v c K) : mm_E kX5_findLinesOfItem 59 [.ref 0, .int x1, .int x2, .int x3, .int x4, .int x5, .int x6] [.int y1, .int y0] v c K := by
  refine e_run 2 (pc1 := 62) (L1 := [.ref 0, .int x1, .int x2, .int x3, .int (y0 - y1), .int x5, .int x6]) (S1 := []) (v1 := v) rfl ?_
  exact g
theorem bX5_findLinesOfItem_62 {x1 : Int32} {x2 : Int32} {x3 : Int32} {x4 : Int32} {x5 : Int32} {x6 : Int32} {v : mmM} {c : Nat} {K : mmO → mmM → Prop} (g : mm_E kX5_findLinesOfItem 6 [.ref 0, .int x1, .int x2, .int x3, .int x4, .int (x5 + (1 : Int32)), .int x6] [] v c K) : mm_E kX5_findLinesOfItem 62 [.ref 0, .int x1, .int x2, .int x3, .int x4, .int x5, .int x6] [] v c K := by
  refine e_run 2 (pc1 := 6) (L1 := [.ref 0, .int x1, .int x2, .int x3, .int x4, .int (x5 + (1 : Int32)), .int x6]) (S1 := []) (v1 := v) rfl ?_
  exact g
theorem bX5_findLinesOfItem_68 {x1 : Int32} {x2 : Int32} {x3 : Int32} {x4 : Int32} {x5 : Int32} {l6 : Value} {v : mmM} {c : Nat} {K : mmO → mmM → Prop} (g : K (.inl none) v) : mm_E kX5_findLinesOfItem 68 [.ref 0, .int x1, .int x2, .int x3, .int x4, .int x5, l6] [] v c K := by
  exact e_rt rfl g
theorem bX5_findLinesOfLot_0 {x1 : Int32} {x2 : Int32} {l3 : Value} {l4 : Value} {l5 : Value} {l6 : Value} {v : mmM} {c : Nat} {K : mmO → mmM → Prop} (g : mm_E kX5_findLinesOfLot 5 [.ref 0, .int x1, .int x2, .int (0 : Int32), .int (0 : Int32), l5, l6] [] v c K) : mm_E kX5_findLinesOfLot 0 [.ref 0, .int x1, .int x2, l3, l4, l5, l6] [] v c K := by
  refine e_run 4 (pc1 := 5) (L1 := [.ref 0, .int x1, .int x2, .int (0 : Int32), .int (0 : Int32), l5, l6]) (S1 := []) (v1 := v) rfl ?_
  exact g
theorem bX5_findLinesOfLot_5 {x1 : Int32} {x2 : Int32} {x3 : Int32} {x4 : Int32} {l5 : Value} {l6 : Value} {v : mmM} {c : Nat} {K : mmO → mmM → Prop} (g1 : (40 : Int32) ≤ x4 → mm_E kX5_findLinesOfLot 72 [.ref 0, .int x1, .int x2, .int x3, .int x4, l5, l6] [] v c K) (g2 : ¬ (40 : Int32) ≤ x4 → mm_E kX5_findLinesOfLot 12 [.ref 0, .int x1, .int x2, .int x3, .int x4, l5, l6] [] v c K) : mm_E kX5_findLinesOfLot 5 [.ref 0, .int x1, .int x2, .int x3, .int x4, l5, l6] [] v c K := by
  refine e_run 2 (pc1 := 9) (L1 := [.ref 0, .int x1, .int x2, .int x3, .int x4, l5, l6]) (S1 := [.int (40 : Int32), .int x4]) (v1 := v) rfl ?_
  exact e_if (p := (40 : Int32) ≤ x4) rfl g1 g2
theorem bX5_findLinesOfLot_12 {x1 : Int32} {x2 : Int32} {x3 : Int32} {x4 : Int32} {l5 : Value} {l6 : Value} {v : mmM} {c : Nat} {K : mmO → mmM → Prop} (g1 : x2 ≤ x3 → mm_E kX5_findLinesOfLot 72 [.ref 0, .int x1, .int x2, .int x3, .int x4, l5, l6] [] v c K) (g2 : ¬ x2 ≤ x3 → mm_E kX5_findLinesOfLot 17 [.ref 0, .int x1, .int x2, .int x3, .int x4, l5, l6] [] v c K) : mm_E kX5_findLinesOfLot 12 [.ref 0, .int x1, .int x2, .int x3, .int x4, l5, l6] [] v c K := by
  refine e_run 2 (pc1 := 14) (L1 := [.ref 0, .int x1, .int x2, .int x3, .int x4, l5, l6]) (S1 := [.int x2, .int x3]) (v1 := v) rfl ?_
  exact e_if (p := x2 ≤ x3) rfl g1 g2
theorem bX5_findLinesOfLot_17 {x1 : Int32} {x2 : Int32} {x3 : Int32} {x4 : Int32} {l5 : Value} {l6 : Value} {v : mmM} {c : Nat} {K : mmO → mmM → Prop} (hc : c + mm_mc kX5_alongRoute ≤ mm_mc kX5_findLinesOfLot) (g : mm_M kX5_alongRoute [.int x4] v (mm_Kc kX5_findLinesOfLot 22 [.ref 0, .int x1, .int x2, .int x3, .int x4, l5, l6] [] (c + mm_mc kX5_alongRoute) K)) : mm_E kX5_findLinesOfLot 17 [.ref 0, .int x1, .int x2, .int x3, .int x4, l5, l6] [] v c K := by
  refine e_run 1 (pc1 := 19) (L1 := [.ref 0, .int x1, .int x2, .int x3, .int x4, l5, l6]) (S1 := [.int x4]) (v1 := v) rfl ?_
  exact e_cl (j := kX5_alongRoute) rfl hc g
theorem bX5_findLinesOfLot_22 {x1 : Int32} {x2 : Int32} {x3 : Int32} {x4 : Int32} {l5 : Value} {l6 : Value} {y0 : Int32} {v : mmM} {c : Nat} {K : mmO → mmM → Prop} (h1 : mm_in x1 24 = true) (h2 : mm_in y0 40 = true) (g1 : (if (v (20 + x1.toNatClampNeg) y0.toNatClampNeg) < (x2 - x3) then (v (20 + x1.toNatClampNeg) y0.toNatClampNeg) else (x2 - x3)) ≤ 0 → mm_E kX5_findLinesOfLot 66 [.ref 0, .int x1, .int x2, .int x3, .int x4, .int y0, .int (if (v (20 + x1.toNatClampNeg) y0.toNatClampNeg) < (x2 - x3) then (v (20 + x1.toNatClampNeg) y0.toNatClampNeg) else (x2 - x3))] [] v c K) (g2 : ¬ (if (v (20 + x1.toNatClampNeg) y0.toNatClampNeg) < (x2 - x3) then (v (20 + x1.toNatClampNeg) y0.toNatClampNeg) else (x2 - x3)) ≤ 0 → mm_E kX5_findLinesOfLot 49 [.ref 0, .int x1, .int x2, .int x3, .int x4, .int y0, .int (if (v (20 + x1.toNatClampNeg) y0.toNatClampNeg) < (x2 - x3) then (v (20 + x1.toNatClampNeg) y0.toNatClampNeg) else (x2 - x3))] [] v c K) : mm_E kX5_findLinesOfLot 22 [.ref 0, .int x1, .int x2, .int x3, .int x4, l5, l6] [.int y0] v c K := by
  refine e_run 8 (pc1 := 35) (L1 := [.ref 0, .int x1, .int x2, .int x3, .int x4, .int y0, l6]) (S1 := [.int x1, .ref 19, .int (x2 - x3)]) (v1 := v) rfl ?_
  refine e_aald rfl rfl (by decide) h1 ?_
  refine e_run 1 (pc1 := 38) (L1 := [.ref 0, .int x1, .int x2, .int x3, .int x4, .int y0, l6]) (S1 := [.int y0, .ref (20 + x1.toNatClampNeg), .int (x2 - x3)]) (v1 := v) rfl ?_
  refine e_iald rfl (mm_rows (P := fun x => mm_sh (20 + x) = (0, 40, 0, [])) (by decide +kernel) (mm_in_lt h1)) (by have := (mm_in_lt h1); show _ < 81; omega) h2 ?_
  refine e_run 3 (pc1 := 46) (L1 := [.ref 0, .int x1, .int x2, .int x3, .int x4, .int y0, .int (if (v (20 + x1.toNatClampNeg) y0.toNatClampNeg) < (x2 - x3) then (v (20 + x1.toNatClampNeg) y0.toNatClampNeg) else (x2 - x3))]) (S1 := [.int (if (v (20 + x1.toNatClampNeg) y0.toNatClampNeg) < (x2 - x3) then (v (20 + x1.toNatClampNeg) y0.toNatClampNeg) else (x2 - x3))]) (v1 := v) rfl ?_
  exact e_if (p := (if (v (20 + x1.toNatClampNeg) y0.toNatClampNeg) < (x2 - x3) then (v (20 + x1.toNatClampNeg) y0.toNatClampNeg) else (x2 - x3)) ≤ 0) rfl g1 g2
theorem bX5_findLinesOfLot_49 {x1 : Int32} {x2 : Int32} {x3 : Int32} {x4 : Int32} {x5 : Int32} {x6 : Int32} {v : mmM} {c : Nat} {K : mmO → mmM → Prop} (hc : c + mm_mc kX3_insert ≤ mm_mc kX5_findLinesOfLot) (g : mm_M kX3_insert [.ref 5, .int x5, .int x1, .int x6] v (mm_Kc kX5_findLinesOfLot 61 [.ref 0, .int x1, .int x2, .int x3, .int x4, .int x5, .int x6] [] (c + mm_mc kX3_insert) K)) : mm_E kX5_findLinesOfLot 49 [.ref 0, .int x1, .int x2, .int x3, .int x4, .int x5, .int x6] [] v c K := by
  refine e_run 5 (pc1 := 58) (L1 := [.ref 0, .int x1, .int x2, .int x3, .int x4, .int x5, .int x6]) (S1 := [.int x6, .int x1, .int x5, .ref 5]) (v1 := v) rfl ?_
  exact e_cl (j := kX3_insert) rfl hc g
theorem bX5_findLinesOfLot_61 {x1 : Int32} {x2 : Int32} {x3 : Int32} {x4 : Int32} {x5 : Int32} {x6 : Int32} {v : mmM} {c : Nat} {K : mmO → mmM → Prop} (g : mm_E kX5_findLinesOfLot 66 [.ref 0, .int x1, .int x2, .int (x3 + x6), .int x4, .int x5, .int x6] [] v c K) : mm_E kX5_findLinesOfLot 61 [.ref 0, .int x1, .int x2, .int x3, .int x4, .int x5, .int x6] [] v c K := by
  refine e_run 4 (pc1 := 66) (L1 := [.ref 0, .int x1, .int x2, .int (x3 + x6), .int x4, .int x5, .int x6]) (S1 := []) (v1 := v) rfl ?_
  exact g
theorem bX5_findLinesOfLot_66 {x1 : Int32} {x2 : Int32} {x3 : Int32} {x4 : Int32} {x5 : Int32} {x6 : Int32} {v : mmM} {c : Nat} {K : mmO → mmM → Prop} (g : mm_E kX5_findLinesOfLot 5 [.ref 0, .int x1, .int x2, .int x3, .int (x4 + (1 : Int32)), .int x5, .int x6] [] v c K) : mm_E kX5_findLinesOfLot 66 [.ref 0, .int x1, .int x2, .int x3, .int x4, .int x5, .int x6] [] v c K := by
  refine e_run 2 (pc1 := 5) (L1 := [.ref 0, .int x1, .int x2, .int x3, .int (x4 + (1 : Int32)), .int x5, .int x6]) (S1 := []) (v1 := v) rfl ?_
  exact g
theorem bX5_findLinesOfLot_72 {x1 : Int32} {x2 : Int32} {x3 : Int32} {x4 : Int32} {l5 : Value} {l6 : Value} {v : mmM} {c : Nat} {K : mmO → mmM → Prop} (g : K (.inl (some (.int x3))) v) : mm_E kX5_findLinesOfLot 72 [.ref 0, .int x1, .int x2, .int x3, .int x4, l5, l6] [] v c K := by
  refine e_run 1 (pc1 := 73) (L1 := [.ref 0, .int x1, .int x2, .int x3, .int x4, l5, l6]) (S1 := [.int x3]) (v1 := v) rfl ?_
  exact e_iret (ty := .int) rfl rfl rfl g
theorem bX5_recallLines_0 {x1 : Int32} {l2 : Value} {l3 : Value} {l4 : Value} {v : mmM} {c : Nat} {K : mmO → mmM → Prop} (h1 : mm_in x1 20 = true) (h2 : mm_in x1 20 = true) (g : mm_E kX5_recallLines 43 [.ref 0, .int x1, .int (v 70 x1.toNatClampNeg), .int (if (v 4 0) < ((v 70 x1.toNatClampNeg) + (v 71 x1.toNatClampNeg)) then (v 4 0) else ((v 70 x1.toNatClampNeg) + (v 71 x1.toNatClampNeg))), .int (v 70 x1.toNatClampNeg)] [] (mm_up v 5 0 (0 : Int32)) c K) : mm_E kX5_recallLines 0 [.ref 0, .int x1, l2, l3, l4] [] v c K := by
  refine e_run 8 (pc1 := 16) (L1 := [.ref 0, .int x1, l2, l3, l4]) (S1 := [.int x1, .ref 70]) (v1 := mm_up v 5 0 (0 : Int32)) rfl ?_
  refine e_iald rfl rfl (by decide) h1 ?_
  refine e_run 6 (pc1 := 27) (L1 := [.ref 0, .int x1, .int (v 70 x1.toNatClampNeg), l3, l4]) (S1 := [.int x1, .ref 71, .int (v 70 x1.toNatClampNeg)]) (v1 := mm_up v 5 0 (0 : Int32)) rfl ?_
  refine e_iald rfl rfl (by decide) h2 ?_
  refine e_run 8 (pc1 := 43) (L1 := [.ref 0, .int x1, .int (v 70 x1.toNatClampNeg), .int (if (v 4 0) < ((v 70 x1.toNatClampNeg) + (v 71 x1.toNatClampNeg)) then (v 4 0) else ((v 70 x1.toNatClampNeg) + (v 71 x1.toNatClampNeg))), .int (v 70 x1.toNatClampNeg)]) (S1 := []) (v1 := mm_up v 5 0 (0 : Int32)) rfl ?_
  exact g
theorem bX5_recallLines_43 {x1 : Int32} {x2 : Int32} {x3 : Int32} {x4 : Int32} {v : mmM} {c : Nat} {K : mmO → mmM → Prop} (g1 : x3 ≤ x4 → mm_E kX5_recallLines 92 [.ref 0, .int x1, .int x2, .int x3, .int x4] [] v c K) (g2 : ¬ x3 ≤ x4 → mm_E kX5_recallLines 49 [.ref 0, .int x1, .int x2, .int x3, .int x4] [] v c K) : mm_E kX5_recallLines 43 [.ref 0, .int x1, .int x2, .int x3, .int x4] [] v c K := by
  refine e_run 2 (pc1 := 46) (L1 := [.ref 0, .int x1, .int x2, .int x3, .int x4]) (S1 := [.int x3, .int x4]) (v1 := v) rfl ?_
  exact e_if (p := x3 ≤ x4) rfl g1 g2
theorem bX5_recallLines_49 {x1 : Int32} {x2 : Int32} {x3 : Int32} {x4 : Int32} {v : mmM} {c : Nat} {K : mmO → mmM → Prop} (h1 : mm_in x4 150 = true) (h2 : mm_in x4 150 = true) (h3 : mm_in x4 150 = true) (hc : c + mm_mc kX3_insert ≤ mm_mc kX5_recallLines) (g : mm_M kX3_insert [.ref 5, .int (v 74 x4.toNatClampNeg), .int (v 73 x4.toNatClampNeg), .int (v 76 x4.toNatClampNeg)] v (mm_Kc kX5_recallLines 86 [.ref 0, .int x1, .int x2, .int x3, .int x4] [] (c + mm_mc kX3_insert) K)) : mm_E kX5_recallLines 49 [.ref 0, .int x1, .int x2, .int x3, .int x4] [] v c K := by
  refine e_run 6 (pc1 := 62) (L1 := [.ref 0, .int x1, .int x2, .int x3, .int x4]) (S1 := [.int x4, .ref 74, .ref 5]) (v1 := v) rfl ?_
  refine e_iald rfl rfl (by decide) h1 ?_
  refine e_run 4 (pc1 := 72) (L1 := [.ref 0, .int x1, .int x2, .int x3, .int x4]) (S1 := [.int x4, .ref 73, .int (v 74 x4.toNatClampNeg), .ref 5]) (v1 := v) rfl ?_
  refine e_iald rfl rfl (by decide) h2 ?_
  refine e_run 4 (pc1 := 82) (L1 := [.ref 0, .int x1, .int x2, .int x3, .int x4]) (S1 := [.int x4, .ref 76, .int (v 73 x4.toNatClampNeg), .int (v 74 x4.toNatClampNeg), .ref 5]) (v1 := v) rfl ?_
  refine e_iald rfl rfl (by decide) h3 ?_
  exact e_cl (j := kX3_insert) rfl hc g
theorem bX5_recallLines_86 {x1 : Int32} {x2 : Int32} {x3 : Int32} {x4 : Int32} {v : mmM} {c : Nat} {K : mmO → mmM → Prop} (g : mm_E kX5_recallLines 43 [.ref 0, .int x1, .int x2, .int x3, .int (x4 + (1 : Int32))] [] v c K) : mm_E kX5_recallLines 86 [.ref 0, .int x1, .int x2, .int x3, .int x4] [] v c K := by
  refine e_run 2 (pc1 := 43) (L1 := [.ref 0, .int x1, .int x2, .int x3, .int (x4 + (1 : Int32))]) (S1 := []) (v1 := v) rfl ?_
  exact g
theorem bX5_recallLines_92 {x1 : Int32} {x2 : Int32} {x3 : Int32} {x4 : Int32} {v : mmM} {c : Nat} {K : mmO → mmM → Prop} (g : K (.inl none) v) : mm_E kX5_recallLines 92 [.ref 0, .int x1, .int x2, .int x3, .int x4] [] v c K := by
  exact e_rt rfl g
theorem bX5_dayOfCount_0 {x1 : Int32} {l2 : Value} {l3 : Value} {v : mmM} {c : Nat} {K : mmO → mmM → Prop} (g : mm_E kX5_dayOfCount 5 [.ref 0, .int x1, .int (20 : Int32), .int (0 : Int32)] [] v c K) : mm_E kX5_dayOfCount 0 [.ref 0, .int x1, l2, l3] [] v c K := by
  refine e_run 4 (pc1 := 5) (L1 := [.ref 0, .int x1, .int (20 : Int32), .int (0 : Int32)]) (S1 := []) (v1 := v) rfl ?_
  exact g
theorem bX5_dayOfCount_5 {x1 : Int32} {x2 : Int32} {x3 : Int32} {v : mmM} {c : Nat} {K : mmO → mmM → Prop} (g1 : (v 2 0) ≤ x3 → mm_E kX5_dayOfCount 57 [.ref 0, .int x1, .int x2, .int x3] [] v c K) (g2 : ¬ (v 2 0) ≤ x3 → mm_E kX5_dayOfCount 16 [.ref 0, .int x1, .int x2, .int x3] [] v c K) : mm_E kX5_dayOfCount 5 [.ref 0, .int x1, .int x2, .int x3] [] v c K := by
  refine e_run 4 (pc1 := 13) (L1 := [.ref 0, .int x1, .int x2, .int x3]) (S1 := [.int (v 2 0), .int x3]) (v1 := v) rfl ?_
  exact e_if (p := (v 2 0) ≤ x3) rfl g1 g2
theorem bX5_dayOfCount_16 {x1 : Int32} {x2 : Int32} {x3 : Int32} {v : mmM} {c : Nat} {K : mmO → mmM → Prop} (h1 : mm_in x3 24 = true) (h2 : mm_in x1 40 = true) (g1 : (v (20 + x3.toNatClampNeg) x1.toNatClampNeg) ≤ 0 → mm_E kX5_dayOfCount 51 [.ref 0, .int x1, .int x2, .int x3] [] v c K) (g2 : ¬ (v (20 + x3.toNatClampNeg) x1.toNatClampNeg) ≤ 0 → mm_E kX5_dayOfCount 30 [.ref 0, .int x1, .int x2, .int x3] [] v c K) : mm_E kX5_dayOfCount 16 [.ref 0, .int x1, .int x2, .int x3] [] v c K := by
  refine e_run 4 (pc1 := 24) (L1 := [.ref 0, .int x1, .int x2, .int x3]) (S1 := [.int x3, .ref 19]) (v1 := v) rfl ?_
  refine e_aald rfl rfl (by decide) h1 ?_
  refine e_run 1 (pc1 := 26) (L1 := [.ref 0, .int x1, .int x2, .int x3]) (S1 := [.int x1, .ref (20 + x3.toNatClampNeg)]) (v1 := v) rfl ?_
  refine e_iald rfl (mm_rows (P := fun x => mm_sh (20 + x) = (0, 40, 0, [])) (by decide +kernel) (mm_in_lt h1)) (by have := (mm_in_lt h1); show _ < 81; omega) h2 ?_
  exact e_if (p := (v (20 + x3.toNatClampNeg) x1.toNatClampNeg) ≤ 0) rfl g1 g2
theorem bX5_dayOfCount_30 {x1 : Int32} {x2 : Int32} {x3 : Int32} {v : mmM} {c : Nat} {K : mmO → mmM → Prop} (h1 : mm_in x3 24 = true) (hc : c + mm_mc kX1_intervalOf ≤ mm_mc kX5_dayOfCount) (g : mm_M kX1_intervalOf [.ref 1, .int (v 16 x3.toNatClampNeg)] v (mm_Kc kX5_dayOfCount 47 [.ref 0, .int x1, .int x2, .int x3] [.int x2] (c + mm_mc kX1_intervalOf) K)) : mm_E kX5_dayOfCount 30 [.ref 0, .int x1, .int x2, .int x3] [] v c K := by
  refine e_run 7 (pc1 := 43) (L1 := [.ref 0, .int x1, .int x2, .int x3]) (S1 := [.int x3, .ref 16, .ref 1, .int x2]) (v1 := v) rfl ?_
  refine e_iald rfl rfl (by decide) h1 ?_
  exact e_cl (j := kX1_intervalOf) rfl hc g
theorem bX5_dayOfCount_47 {x1 : Int32} {x2 : Int32} {x3 : Int32} {y0 : Int32} {y1 : Int32} {v : mmM} {c : Nat} {K : mmO → mmM → Prop} (g : mm_E kX5_dayOfCount 51 [.ref 0, .int x1, .int (if y1 < y0 then y1 else y0), .int x3] [] v c K) : mm_E kX5_dayOfCount 47 [.ref 0, .int x1, .int x2, .int x3] [.int y1, .int y0] v c K := by
  refine e_run 2 (pc1 := 51) (L1 := [.ref 0, .int x1, .int (if y1 < y0 then y1 else y0), .int x3]) (S1 := []) (v1 := v) rfl ?_
  exact g
theorem bX5_dayOfCount_51 {x1 : Int32} {x2 : Int32} {x3 : Int32} {v : mmM} {c : Nat} {K : mmO → mmM → Prop} (g : mm_E kX5_dayOfCount 5 [.ref 0, .int x1, .int x2, .int (x3 + (1 : Int32))] [] v c K) : mm_E kX5_dayOfCount 51 [.ref 0, .int x1, .int x2, .int x3] [] v c K := by
  refine e_run 2 (pc1 := 5) (L1 := [.ref 0, .int x1, .int x2, .int (x3 + (1 : Int32))]) (S1 := []) (v1 := v) rfl ?_
  exact g
theorem bX5_dayOfCount_57 {x1 : Int32} {x2 : Int32} {x3 : Int32} {v : mmM} {c : Nat} {K : mmO → mmM → Prop} (h1 : mm_in x1 40 = true) (g : K (.inl (some (.int ((v 46 x1.toNatClampNeg) + x2)))) v) : mm_E kX5_dayOfCount 57 [.ref 0, .int x1, .int x2, .int x3] [] v c K := by
  refine e_run 4 (pc1 := 65) (L1 := [.ref 0, .int x1, .int x2, .int x3]) (S1 := [.int x1, .ref 46]) (v1 := v) rfl ?_
  refine e_iald rfl rfl (by decide) h1 ?_
  refine e_run 2 (pc1 := 68) (L1 := [.ref 0, .int x1, .int x2, .int x3]) (S1 := [.int ((v 46 x1.toNatClampNeg) + x2)]) (v1 := v) rfl ?_
  exact e_iret (ty := .int) rfl rfl rfl g
