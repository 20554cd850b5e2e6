-- block rules, by program (wip/p42/blocks.py)
theorem bL_at_0 {x1 : Int32} {v : mmM} {c : Nat} {K : mmO → mmM → Prop} (g1 : (v 82 0) ≤ x1 → mm_E kL_at 12 [.ref 81, .int x1] [] v c K) (g2 : ¬ (v 82 0) ≤ x1 → mm_E kL_at 6 [.ref 81, .int x1] [] v c K) : mm_E kL_at 0 [.ref 81, .int x1] [] v c K := by
  refine e_run 3 (pc1 := 3) (L1 := [.ref 81, .int x1]) (S1 := [.int (v 82 0), .int x1]) (v1 := v) rfl ?_
  exact e_if (p := (v 82 0) ≤ x1) rfl g1 g2
theorem bL_at_6 {x1 : Int32} {v : mmM} {c : Nat} {K : mmO → mmM → Prop} (h1 : mm_in x1 (v 82 0).toNatClampNeg = true) (g : mm_E kL_at 13 [.ref 81, .int x1] [.int (v 81 x1.toNatClampNeg)] v c K) : mm_E kL_at 6 [.ref 81, .int x1] [] v c K := by
  refine e_run 2 (pc1 := 8) (L1 := [.ref 81, .int x1]) (S1 := [.int x1, .ref 81]) (v1 := v) rfl ?_
  refine e_sald rfl h1 ?_
  refine e_run 1 (pc1 := 13) (L1 := [.ref 81, .int x1]) (S1 := [.int (v 81 x1.toNatClampNeg)]) (v1 := v) rfl ?_
  exact g
theorem bL_at_12 {x1 : Int32} {v : mmM} {c : Nat} {K : mmO → mmM → Prop} (g : mm_E kL_at 13 [.ref 81, .int x1] [.int (0 : Int32)] v c K) : mm_E kL_at 12 [.ref 81, .int x1] [] v c K := by
  refine e_run 1 (pc1 := 13) (L1 := [.ref 81, .int x1]) (S1 := [.int (0 : Int32)]) (v1 := v) rfl ?_
  exact g
theorem bL_at_13 {x1 : Int32} {y0 : Int32} {v : mmM} {c : Nat} {K : mmO → mmM → Prop} (g : K (.inl (some (.int y0))) v) : mm_E kL_at 13 [.ref 81, .int x1] [.int y0] v c K := by
  exact e_iret (ty := .int) rfl rfl rfl g
theorem bL_some_0 {x0 : Int32} {x1 : Int32} {l2 : Value} {v : mmM} {c : Nat} {K : mmO → mmM → Prop} (h1 : ¬ x1 = 0) (g1 : 0 ≤ (x0 - x0 / x1 * x1) → mm_E kL_some 14 [.int x0, .int x1, .int (x0 - x0 / x1 * x1)] [] v c K) (g2 : ¬ 0 ≤ (x0 - x0 / x1 * x1) → mm_E kL_some 8 [.int x0, .int x1, .int (x0 - x0 / x1 * x1)] [] v c K) : mm_E kL_some 0 [.int x0, .int x1, l2] [] v c K := by
  refine e_run 2 (pc1 := 2) (L1 := [.int x0, .int x1, l2]) (S1 := [.int x1, .int x0]) (v1 := v) rfl ?_
  refine e_irem rfl h1 ?_
  refine e_run 2 (pc1 := 5) (L1 := [.int x0, .int x1, .int (x0 - x0 / x1 * x1)]) (S1 := [.int (x0 - x0 / x1 * x1)]) (v1 := v) rfl ?_
  exact e_if (p := 0 ≤ (x0 - x0 / x1 * x1)) rfl g1 g2
theorem bL_some_8 {x0 : Int32} {x1 : Int32} {x2 : Int32} {v : mmM} {c : Nat} {K : mmO → mmM → Prop} (g : mm_E kL_some 15 [.int x0, .int x1, .int x2] [.int (x2 + x1)] v c K) : mm_E kL_some 8 [.int x0, .int x1, .int x2] [] v c K := by
  refine e_run 4 (pc1 := 15) (L1 := [.int x0, .int x1, .int x2]) (S1 := [.int (x2 + x1)]) (v1 := v) rfl ?_
  exact g
theorem bL_some_14 {x0 : Int32} {x1 : Int32} {x2 : Int32} {v : mmM} {c : Nat} {K : mmO → mmM → Prop} (g : mm_E kL_some 15 [.int x0, .int x1, .int x2] [.int x2] v c K) : mm_E kL_some 14 [.int x0, .int x1, .int x2] [] v c K := by
  refine e_run 1 (pc1 := 15) (L1 := [.int x0, .int x1, .int x2]) (S1 := [.int x2]) (v1 := v) rfl ?_
  exact g
theorem bL_some_15 {x0 : Int32} {x1 : Int32} {x2 : Int32} {y0 : Int32} {v : mmM} {c : Nat} {K : mmO → mmM → Prop} (g : K (.inl (some (.int y0))) v) : mm_E kL_some 15 [.int x0, .int x1, .int x2] [.int y0] v c K := by
  exact e_iret (ty := .int) rfl rfl rfl g
theorem bL_adds_0 {x1 : Int32} {l2 : Value} {v : mmM} {c : Nat} {K : mmO → mmM → Prop} (hc : c + mm_mc kX5_addItem ≤ mm_mc kL_adds) (g : mm_M kX5_addItem [.ref 0, .int x1] v (mm_Kc kL_adds 5 [.ref 0, .int x1, l2] [] (c + mm_mc kX5_addItem) K)) : mm_E kL_adds 0 [.ref 0, .int x1, l2] [] v c K := by
  refine e_run 2 (pc1 := 2) (L1 := [.ref 0, .int x1, l2]) (S1 := [.int x1, .ref 0]) (v1 := v) rfl ?_
  exact e_cl (j := kX5_addItem) rfl hc g
theorem bL_adds_5 {x1 : Int32} {l2 : Value} {y0 : Int32} {v : mmM} {c : Nat} {K : mmO → mmM → Prop} (g : K (.inl (some (.int y0))) v) : mm_E kL_adds 5 [.ref 0, .int x1, l2] [.int y0] v c K := by
  exact e_iret (ty := .int) rfl rfl rfl g
theorem bL_substitutes_0 {x1 : Int32} {x2 : Int32} {x3 : Int32} {l4 : Value} {v : mmM} {c : Nat} {K : mmO → mmM → Prop} (hc : c + mm_mc kX5_addSubstitute ≤ mm_mc kL_substitutes) (g : mm_M kX5_addSubstitute [.ref 0, .int x1, .int x2, .int x3] v (mm_Kc kL_substitutes 7 [.ref 0, .int x1, .int x2, .int x3, l4] [] (c + mm_mc kX5_addSubstitute) K)) : mm_E kL_substitutes 0 [.ref 0, .int x1, .int x2, .int x3, l4] [] v c K := by
  refine e_run 4 (pc1 := 4) (L1 := [.ref 0, .int x1, .int x2, .int x3, l4]) (S1 := [.int x3, .int x2, .int x1, .ref 0]) (v1 := v) rfl ?_
  exact e_cl (j := kX5_addSubstitute) rfl hc g
theorem bL_substitutes_7 {x1 : Int32} {x2 : Int32} {x3 : Int32} {l4 : Value} {y0 : Int32} {v : mmM} {c : Nat} {K : mmO → mmM → Prop} (g : K (.inl (some (.int y0))) v) : mm_E kL_substitutes 7 [.ref 0, .int x1, .int x2, .int x3, l4] [.int y0] v c K := by
  exact e_iret (ty := .int) rfl rfl rfl g
theorem bL_receives_0 {x1 : Int32} {x2 : Int32} {x3 : Int32} {x4 : Int32} {l5 : Value} {v : mmM} {c : Nat} {K : mmO → mmM → Prop} (hc : c + mm_mc kX5_receive ≤ mm_mc kL_receives) (g : mm_M kX5_receive [.ref 0, .int x1, .int x2, .int x3, .int x4] v (mm_Kc kL_receives 9 [.ref 0, .int x1, .int x2, .int x3, .int x4, l5] [] (c + mm_mc kX5_receive) K)) : mm_E kL_receives 0 [.ref 0, .int x1, .int x2, .int x3, .int x4, l5] [] v c K := by
  refine e_run 5 (pc1 := 6) (L1 := [.ref 0, .int x1, .int x2, .int x3, .int x4, l5]) (S1 := [.int x4, .int x3, .int x2, .int x1, .ref 0]) (v1 := v) rfl ?_
  exact e_cl (j := kX5_receive) rfl hc g
theorem bL_receives_9 {x1 : Int32} {x2 : Int32} {x3 : Int32} {x4 : Int32} {l5 : Value} {y0 : Int32} {v : mmM} {c : Nat} {K : mmO → mmM → Prop} (g : K (.inl (some (.int y0))) v) : mm_E kL_receives 9 [.ref 0, .int x1, .int x2, .int x3, .int x4, l5] [.int y0] v c K := by
  exact e_iret (ty := .int) rfl rfl rfl g
theorem bL_moves_0 {x1 : Int32} {x2 : Int32} {x3 : Int32} {x4 : Int32} {l5 : Value} {v : mmM} {c : Nat} {K : mmO → mmM → Prop} (hc : c + mm_mc kX5_move ≤ mm_mc kL_moves) (g : mm_M kX5_move [.ref 0, .int x1, .int x2, .int x3, .int x4] v (mm_Kc kL_moves 9 [.ref 0, .int x1, .int x2, .int x3, .int x4, l5] [] (c + mm_mc kX5_move) K)) : mm_E kL_moves 0 [.ref 0, .int x1, .int x2, .int x3, .int x4, l5] [] v c K := by
  refine e_run 5 (pc1 := 6) (L1 := [.ref 0, .int x1, .int x2, .int x3, .int x4, l5]) (S1 := [.int x4, .int x3, .int x2, .int x1, .ref 0]) (v1 := v) rfl ?_
  exact e_cl (j := kX5_move) rfl hc g
theorem bL_moves_9 {x1 : Int32} {x2 : Int32} {x3 : Int32} {x4 : Int32} {l5 : Value} {y0 : Int32} {v : mmM} {c : Nat} {K : mmO → mmM → Prop} (g : K (.inl (some (.int y0))) v) : mm_E kL_moves 9 [.ref 0, .int x1, .int x2, .int x3, .int x4, l5] [.int y0] v c K := by
  exact e_iret (ty := .int) rfl rfl rfl g
theorem bL_disposes_0 {x1 : Int32} {l2 : Value} {v : mmM} {c : Nat} {K : mmO → mmM → Prop} (hc : c + mm_mc kX5_dispose ≤ mm_mc kL_disposes) (g : mm_M kX5_dispose [.ref 0, .int x1] v (mm_Kc kL_disposes 5 [.ref 0, .int x1, l2] [] (c + mm_mc kX5_dispose) K)) : mm_E kL_disposes 0 [.ref 0, .int x1, l2] [] v c K := by
  refine e_run 2 (pc1 := 2) (L1 := [.ref 0, .int x1, l2]) (S1 := [.int x1, .ref 0]) (v1 := v) rfl ?_
  exact e_cl (j := kX5_dispose) rfl hc g
theorem bL_disposes_5 {x1 : Int32} {l2 : Value} {y0 : Int32} {v : mmM} {c : Nat} {K : mmO → mmM → Prop} (g : K (.inl (some (.int y0))) v) : mm_E kL_disposes 5 [.ref 0, .int x1, l2] [.int y0] v c K := by
  exact e_iret (ty := .int) rfl rfl rfl g
theorem bL_counts_0 {x1 : Int32} {x2 : Int32} {x3 : Int32} {l4 : Value} {v : mmM} {c : Nat} {K : mmO → mmM → Prop} (hc : c + mm_mc kX5_count ≤ mm_mc kL_counts) (g : mm_M kX5_count [.ref 0, .int x1, .int x2, .int x3] v (mm_Kc kL_counts 7 [.ref 0, .int x1, .int x2, .int x3, l4] [] (c + mm_mc kX5_count) K)) : mm_E kL_counts 0 [.ref 0, .int x1, .int x2, .int x3, l4] [] v c K := by
  refine e_run 4 (pc1 := 4) (L1 := [.ref 0, .int x1, .int x2, .int x3, l4]) (S1 := [.int x3, .int x2, .int x1, .ref 0]) (v1 := v) rfl ?_
  exact e_cl (j := kX5_count) rfl hc g
theorem bL_counts_7 {x1 : Int32} {x2 : Int32} {x3 : Int32} {l4 : Value} {y0 : Int32} {v : mmM} {c : Nat} {K : mmO → mmM → Prop} (g : K (.inl (some (.int y0))) v) : mm_E kL_counts 7 [.ref 0, .int x1, .int x2, .int x3, l4] [.int y0] v c K := by
  exact e_iret (ty := .int) rfl rfl rfl g
theorem bL_promises_0 {x1 : Int32} {x2 : Int32} {x3 : Int32} {x4 : Int32} {l5 : Value} {v : mmM} {c : Nat} {K : mmO → mmM → Prop} (hc : c + mm_mc kX5_promise ≤ mm_mc kL_promises) (g : mm_M kX5_promise [.ref 0, .int x1, .int x2, .int x3, .int x4] v (mm_Kc kL_promises 9 [.ref 0, .int x1, .int x2, .int x3, .int x4, l5] [] (c + mm_mc kX5_promise) K)) : mm_E kL_promises 0 [.ref 0, .int x1, .int x2, .int x3, .int x4, l5] [] v c K := by
  refine e_run 5 (pc1 := 6) (L1 := [.ref 0, .int x1, .int x2, .int x3, .int x4, l5]) (S1 := [.int x4, .int x3, .int x2, .int x1, .ref 0]) (v1 := v) rfl ?_
  exact e_cl (j := kX5_promise) rfl hc g
theorem bL_promises_9 {x1 : Int32} {x2 : Int32} {x3 : Int32} {x4 : Int32} {l5 : Value} {y0 : Int32} {v : mmM} {c : Nat} {K : mmO → mmM → Prop} (g : K (.inl (some (.int y0))) v) : mm_E kL_promises 9 [.ref 0, .int x1, .int x2, .int x3, .int x4, l5] [.int y0] v c K := by
  exact e_iret (ty := .int) rfl rfl rfl g
theorem bL_cancels_0 {x1 : Int32} {l2 : Value} {v : mmM} {c : Nat} {K : mmO → mmM → Prop} (hc : c + mm_mc kX5_cancel ≤ mm_mc kL_cancels) (g : mm_M kX5_cancel [.ref 0, .int x1] v (mm_Kc kL_cancels 5 [.ref 0, .int x1, l2] [] (c + mm_mc kX5_cancel) K)) : mm_E kL_cancels 0 [.ref 0, .int x1, l2] [] v c K := by
  refine e_run 2 (pc1 := 2) (L1 := [.ref 0, .int x1, l2]) (S1 := [.int x1, .ref 0]) (v1 := v) rfl ?_
  exact e_cl (j := kX5_cancel) rfl hc g
theorem bL_cancels_5 {x1 : Int32} {l2 : Value} {y0 : Int32} {v : mmM} {c : Nat} {K : mmO → mmM → Prop} (g : K (.inl (some (.int y0))) v) : mm_E kL_cancels 5 [.ref 0, .int x1, l2] [.int y0] v c K := by
  exact e_iret (ty := .int) rfl rfl rfl g
theorem bL_picks_0 {x1 : Int32} {l2 : Value} {v : mmM} {c : Nat} {K : mmO → mmM → Prop} (hc : c + mm_mc kX5_pick ≤ mm_mc kL_picks) (g : mm_M kX5_pick [.ref 0, .int x1] v (mm_Kc kL_picks 5 [.ref 0, .int x1, l2] [] (c + mm_mc kX5_pick) K)) : mm_E kL_picks 0 [.ref 0, .int x1, l2] [] v c K := by
  refine e_run 2 (pc1 := 2) (L1 := [.ref 0, .int x1, l2]) (S1 := [.int x1, .ref 0]) (v1 := v) rfl ?_
  exact e_cl (j := kX5_pick) rfl hc g
theorem bL_picks_5 {x1 : Int32} {l2 : Value} {y0 : Int32} {v : mmM} {c : Nat} {K : mmO → mmM → Prop} (g : K (.inl (some (.int y0))) v) : mm_E kL_picks 5 [.ref 0, .int x1, l2] [.int y0] v c K := by
  exact e_iret (ty := .int) rfl rfl rfl g
theorem bL_lines_0 {x1 : Int32} {l2 : Value} {v : mmM} {c : Nat} {K : mmO → mmM → Prop} (hc : c + mm_mc kX5_pickLines ≤ mm_mc kL_lines) (g : mm_M kX5_pickLines [.ref 0, .int x1] v (mm_Kc kL_lines 5 [.ref 0, .int x1, l2] [] (c + mm_mc kX5_pickLines) K)) : mm_E kL_lines 0 [.ref 0, .int x1, l2] [] v c K := by
  refine e_run 2 (pc1 := 2) (L1 := [.ref 0, .int x1, l2]) (S1 := [.int x1, .ref 0]) (v1 := v) rfl ?_
  exact e_cl (j := kX5_pickLines) rfl hc g
theorem bL_lines_5 {x1 : Int32} {l2 : Value} {y0 : Int32} {v : mmM} {c : Nat} {K : mmO → mmM → Prop} (g : K (.inl (some (.int y0))) v) : mm_E kL_lines 5 [.ref 0, .int x1, l2] [.int y0] v c K := by
  exact e_iret (ty := .int) rfl rfl rfl g
theorem bL_line_0 {x1 : Int32} {x2 : Int32} {x3 : Int32} {l4 : Value} {v : mmM} {c : Nat} {K : mmO → mmM → Prop} (g1 : x3 = 0 → mm_E kL_line 4 [.ref 0, .int x1, .int x2, .int x3, l4] [] v c K) (g2 : ¬ x3 = 0 → mm_E kL_line 13 [.ref 0, .int x1, .int x2, .int x3, l4] [] v c K) : mm_E kL_line 0 [.ref 0, .int x1, .int x2, .int x3, l4] [] v c K := by
  refine e_run 1 (pc1 := 1) (L1 := [.ref 0, .int x1, .int x2, .int x3, l4]) (S1 := [.int x3]) (v1 := v) rfl ?_
  exact e_if (p := x3 = 0) rfl g1 g2
theorem bL_line_4 {x1 : Int32} {x2 : Int32} {x3 : Int32} {l4 : Value} {v : mmM} {c : Nat} {K : mmO → mmM → Prop} (hc : c + mm_mc kX5_pickBin ≤ mm_mc kL_line) (g : mm_M kX5_pickBin [.ref 0, .int x1, .int x2] v (mm_Kc kL_line 10 [.ref 0, .int x1, .int x2, .int x3, l4] [] (c + mm_mc kX5_pickBin) K)) : mm_E kL_line 4 [.ref 0, .int x1, .int x2, .int x3, l4] [] v c K := by
  refine e_run 3 (pc1 := 7) (L1 := [.ref 0, .int x1, .int x2, .int x3, l4]) (S1 := [.int x2, .int x1, .ref 0]) (v1 := v) rfl ?_
  exact e_cl (j := kX5_pickBin) rfl hc g
theorem bL_line_10 {x1 : Int32} {x2 : Int32} {x3 : Int32} {l4 : Value} {y0 : Int32} {v : mmM} {c : Nat} {K : mmO → mmM → Prop} (g : mm_E kL_line 33 [.ref 0, .int x1, .int x2, .int x3, l4] [.int y0] v c K) : mm_E kL_line 10 [.ref 0, .int x1, .int x2, .int x3, l4] [.int y0] v c K := by
  refine e_run 1 (pc1 := 33) (L1 := [.ref 0, .int x1, .int x2, .int x3, l4]) (S1 := [.int y0]) (v1 := v) rfl ?_
  exact g
theorem bL_line_13 {x1 : Int32} {x2 : Int32} {x3 : Int32} {l4 : Value} {v : mmM} {c : Nat} {K : mmO → mmM → Prop} (g1 : x3 = (1 : Int32) → mm_E kL_line 18 [.ref 0, .int x1, .int x2, .int x3, l4] [] v c K) (g2 : ¬ x3 = (1 : Int32) → mm_E kL_line 27 [.ref 0, .int x1, .int x2, .int x3, l4] [] v c K) : mm_E kL_line 13 [.ref 0, .int x1, .int x2, .int x3, l4] [] v c K := by
  refine e_run 2 (pc1 := 15) (L1 := [.ref 0, .int x1, .int x2, .int x3, l4]) (S1 := [.int (1 : Int32), .int x3]) (v1 := v) rfl ?_
  exact e_if (p := x3 = (1 : Int32)) rfl g1 g2
theorem bL_line_18 {x1 : Int32} {x2 : Int32} {x3 : Int32} {l4 : Value} {v : mmM} {c : Nat} {K : mmO → mmM → Prop} (hc : c + mm_mc kX5_pickLot ≤ mm_mc kL_line) (g : mm_M kX5_pickLot [.ref 0, .int x1, .int x2] v (mm_Kc kL_line 24 [.ref 0, .int x1, .int x2, .int x3, l4] [] (c + mm_mc kX5_pickLot) K)) : mm_E kL_line 18 [.ref 0, .int x1, .int x2, .int x3, l4] [] v c K := by
  refine e_run 3 (pc1 := 21) (L1 := [.ref 0, .int x1, .int x2, .int x3, l4]) (S1 := [.int x2, .int x1, .ref 0]) (v1 := v) rfl ?_
  exact e_cl (j := kX5_pickLot) rfl hc g
theorem bL_line_24 {x1 : Int32} {x2 : Int32} {x3 : Int32} {l4 : Value} {y0 : Int32} {v : mmM} {c : Nat} {K : mmO → mmM → Prop} (g : mm_E kL_line 33 [.ref 0, .int x1, .int x2, .int x3, l4] [.int y0] v c K) : mm_E kL_line 24 [.ref 0, .int x1, .int x2, .int x3, l4] [.int y0] v c K := by
  refine e_run 1 (pc1 := 33) (L1 := [.ref 0, .int x1, .int x2, .int x3, l4]) (S1 := [.int y0]) (v1 := v) rfl ?_
  exact g
theorem bL_line_27 {x1 : Int32} {x2 : Int32} {x3 : Int32} {l4 : Value} {v : mmM} {c : Nat} {K : mmO → mmM → Prop} (hc : c + mm_mc kX5_pickQuantity ≤ mm_mc kL_line) (g : mm_M kX5_pickQuantity [.ref 0, .int x1, .int x2] v (mm_Kc kL_line 33 [.ref 0, .int x1, .int x2, .int x3, l4] [] (c + mm_mc kX5_pickQuantity) K)) : mm_E kL_line 27 [.ref 0, .int x1, .int x2, .int x3, l4] [] v c K := by
  refine e_run 3 (pc1 := 30) (L1 := [.ref 0, .int x1, .int x2, .int x3, l4]) (S1 := [.int x2, .int x1, .ref 0]) (v1 := v) rfl ?_
  exact e_cl (j := kX5_pickQuantity) rfl hc g
theorem bL_line_33 {x1 : Int32} {x2 : Int32} {x3 : Int32} {l4 : Value} {y0 : Int32} {v : mmM} {c : Nat} {K : mmO → mmM → Prop} (g : K (.inl (some (.int y0))) v) : mm_E kL_line 33 [.ref 0, .int x1, .int x2, .int x3, l4] [.int y0] v c K := by
  exact e_iret (ty := .int) rfl rfl rfl g
theorem bL_walks_0 {x1 : Int32} {x2 : Int32} {l3 : Value} {v : mmM} {c : Nat} {K : mmO → mmM → Prop} (g1 : x2 = 0 → mm_E kL_walks 12 [.ref 0, .int x1, .int x2, l3] [] v c K) (g2 : ¬ x2 = 0 → mm_E kL_walks 4 [.ref 0, .int x1, .int x2, l3] [] v c K) : mm_E kL_walks 0 [.ref 0, .int x1, .int x2, l3] [] v c K := by
  refine e_run 1 (pc1 := 1) (L1 := [.ref 0, .int x1, .int x2, l3]) (S1 := [.int x2]) (v1 := v) rfl ?_
  exact e_if (p := x2 = 0) rfl g1 g2
theorem bL_walks_4 {x1 : Int32} {x2 : Int32} {l3 : Value} {v : mmM} {c : Nat} {K : mmO → mmM → Prop} (hc : c + mm_mc kX5_walkByTrying ≤ mm_mc kL_walks) (g : mm_M kX5_walkByTrying [.ref 0, .int x1] v (mm_Kc kL_walks 9 [.ref 0, .int x1, .int x2, l3] [] (c + mm_mc kX5_walkByTrying) K)) : mm_E kL_walks 4 [.ref 0, .int x1, .int x2, l3] [] v c K := by
  refine e_run 2 (pc1 := 6) (L1 := [.ref 0, .int x1, .int x2, l3]) (S1 := [.int x1, .ref 0]) (v1 := v) rfl ?_
  exact e_cl (j := kX5_walkByTrying) rfl hc g
theorem bL_walks_9 {x1 : Int32} {x2 : Int32} {l3 : Value} {y0 : Int32} {v : mmM} {c : Nat} {K : mmO → mmM → Prop} (g : mm_E kL_walks 17 [.ref 0, .int x1, .int x2, l3] [.int y0] v c K) : mm_E kL_walks 9 [.ref 0, .int x1, .int x2, l3] [.int y0] v c K := by
  refine e_run 1 (pc1 := 17) (L1 := [.ref 0, .int x1, .int x2, l3]) (S1 := [.int y0]) (v1 := v) rfl ?_
  exact g
theorem bL_walks_12 {x1 : Int32} {x2 : Int32} {l3 : Value} {v : mmM} {c : Nat} {K : mmO → mmM → Prop} (hc : c + mm_mc kX5_walk ≤ mm_mc kL_walks) (g : mm_M kX5_walk [.ref 0, .int x1] v (mm_Kc kL_walks 17 [.ref 0, .int x1, .int x2, l3] [] (c + mm_mc kX5_walk) K)) : mm_E kL_walks 12 [.ref 0, .int x1, .int x2, l3] [] v c K := by
  refine e_run 2 (pc1 := 14) (L1 := [.ref 0, .int x1, .int x2, l3]) (S1 := [.int x1, .ref 0]) (v1 := v) rfl ?_
  exact e_cl (j := kX5_walk) rfl hc g
theorem bL_walks_17 {x1 : Int32} {x2 : Int32} {l3 : Value} {y0 : Int32} {v : mmM} {c : Nat} {K : mmO → mmM → Prop} (g : K (.inl (some (.int y0))) v) : mm_E kL_walks 17 [.ref 0, .int x1, .int x2, l3] [.int y0] v c K := by
  exact e_iret (ty := .int) rfl rfl rfl g
theorem bL_free_0 {x1 : Int32} {x2 : Int32} {x3 : Int32} {l4 : Value} {v : mmM} {c : Nat} {K : mmO → mmM → Prop} (g1 : x3 = 0 → mm_E kL_free 13 [.ref 0, .int x1, .int x2, .int x3, l4] [] v c K) (g2 : ¬ x3 = 0 → mm_E kL_free 4 [.ref 0, .int x1, .int x2, .int x3, l4] [] v c K) : mm_E kL_free 0 [.ref 0, .int x1, .int x2, .int x3, l4] [] v c K := by
  refine e_run 1 (pc1 := 1) (L1 := [.ref 0, .int x1, .int x2, .int x3, l4]) (S1 := [.int x3]) (v1 := v) rfl ?_
  exact e_if (p := x3 = 0) rfl g1 g2
theorem bL_free_4 {x1 : Int32} {x2 : Int32} {x3 : Int32} {l4 : Value} {v : mmM} {c : Nat} {K : mmO → mmM → Prop} (hc : c + mm_mc kX5_availableByTrying ≤ mm_mc kL_free) (g : mm_M kX5_availableByTrying [.ref 0, .int x1, .int x2] v (mm_Kc kL_free 10 [.ref 0, .int x1, .int x2, .int x3, l4] [] (c + mm_mc kX5_availableByTrying) K)) : mm_E kL_free 4 [.ref 0, .int x1, .int x2, .int x3, l4] [] v c K := by
  refine e_run 3 (pc1 := 7) (L1 := [.ref 0, .int x1, .int x2, .int x3, l4]) (S1 := [.int x2, .int x1, .ref 0]) (v1 := v) rfl ?_
  exact e_cl (j := kX5_availableByTrying) rfl hc g
theorem bL_free_10 {x1 : Int32} {x2 : Int32} {x3 : Int32} {l4 : Value} {y0 : Int32} {v : mmM} {c : Nat} {K : mmO → mmM → Prop} (g : mm_E kL_free 19 [.ref 0, .int x1, .int x2, .int x3, l4] [.int y0] v c K) : mm_E kL_free 10 [.ref 0, .int x1, .int x2, .int x3, l4] [.int y0] v c K := by
  refine e_run 1 (pc1 := 19) (L1 := [.ref 0, .int x1, .int x2, .int x3, l4]) (S1 := [.int y0]) (v1 := v) rfl ?_
  exact g
theorem bL_free_13 {x1 : Int32} {x2 : Int32} {x3 : Int32} {l4 : Value} {v : mmM} {c : Nat} {K : mmO → mmM → Prop} (hc : c + mm_mc kX5_available ≤ mm_mc kL_free) (g : mm_M kX5_available [.ref 0, .int x1, .int x2] v (mm_Kc kL_free 19 [.ref 0, .int x1, .int x2, .int x3, l4] [] (c + mm_mc kX5_available) K)) : mm_E kL_free 13 [.ref 0, .int x1, .int x2, .int x3, l4] [] v c K := by
  refine e_run 3 (pc1 := 16) (L1 := [.ref 0, .int x1, .int x2, .int x3, l4]) (S1 := [.int x2, .int x1, .ref 0]) (v1 := v) rfl ?_
  exact e_cl (j := kX5_available) rfl hc g
theorem bL_free_19 {x1 : Int32} {x2 : Int32} {x3 : Int32} {l4 : Value} {y0 : Int32} {v : mmM} {c : Nat} {K : mmO → mmM → Prop} (g : K (.inl (some (.int y0))) v) : mm_E kL_free 19 [.ref 0, .int x1, .int x2, .int x3, l4] [.int y0] v c K := by
  exact e_iret (ty := .int) rfl rfl rfl g
theorem bL_goes_0 {x1 : Int32} {l2 : Value} {v : mmM} {c : Nat} {K : mmO → mmM → Prop} (hc : c + mm_mc kX5_pass ≤ mm_mc kL_goes) (g : mm_M kX5_pass [.ref 0, .int x1] v (mm_Kc kL_goes 5 [.ref 0, .int x1, l2] [] (c + mm_mc kX5_pass) K)) : mm_E kL_goes 0 [.ref 0, .int x1, l2] [] v c K := by
  refine e_run 2 (pc1 := 2) (L1 := [.ref 0, .int x1, l2]) (S1 := [.int x1, .ref 0]) (v1 := v) rfl ?_
  exact e_cl (j := kX5_pass) rfl hc g
theorem bL_goes_5 {x1 : Int32} {l2 : Value} {y0 : Int32} {v : mmM} {c : Nat} {K : mmO → mmM → Prop} (g : K (.inl (some (.int y0))) v) : mm_E kL_goes 5 [.ref 0, .int x1, l2] [.int y0] v c K := by
  exact e_iret (ty := .int) rfl rfl rfl g
theorem bL_next_0 {l1 : Value} {v : mmM} {c : Nat} {K : mmO → mmM → Prop} (hc : c + mm_mc kX5_nextCount ≤ mm_mc kL_next) (g : mm_M kX5_nextCount [.ref 0] v (mm_Kc kL_next 4 [.ref 0, l1] [] (c + mm_mc kX5_nextCount) K)) : mm_E kL_next 0 [.ref 0, l1] [] v c K := by
  refine e_run 1 (pc1 := 1) (L1 := [.ref 0, l1]) (S1 := [.ref 0]) (v1 := v) rfl ?_
  exact e_cl (j := kX5_nextCount) rfl hc g
theorem bL_next_4 {l1 : Value} {y0 : Int32} {v : mmM} {c : Nat} {K : mmO → mmM → Prop} (g : K (.inl (some (.int y0))) v) : mm_E kL_next 4 [.ref 0, l1] [.int y0] v c K := by
  exact e_iret (ty := .int) rfl rfl rfl g
theorem bL_dueDay_0 {x1 : Int32} {l2 : Value} {v : mmM} {c : Nat} {K : mmO → mmM → Prop} (hc : c + mm_mc kX5_countDay ≤ mm_mc kL_dueDay) (g : mm_M kX5_countDay [.ref 0, .int x1] v (mm_Kc kL_dueDay 5 [.ref 0, .int x1, l2] [] (c + mm_mc kX5_countDay) K)) : mm_E kL_dueDay 0 [.ref 0, .int x1, l2] [] v c K := by
  refine e_run 2 (pc1 := 2) (L1 := [.ref 0, .int x1, l2]) (S1 := [.int x1, .ref 0]) (v1 := v) rfl ?_
  exact e_cl (j := kX5_countDay) rfl hc g
theorem bL_dueDay_5 {x1 : Int32} {l2 : Value} {y0 : Int32} {v : mmM} {c : Nat} {K : mmO → mmM → Prop} (g : K (.inl (some (.int y0))) v) : mm_E kL_dueDay 5 [.ref 0, .int x1, l2] [.int y0] v c K := by
  exact e_iret (ty := .int) rfl rfl rfl g
theorem bL_first_0 {x1 : Int32} {x2 : Int32} {l3 : Value} {v : mmM} {c : Nat} {K : mmO → mmM → Prop} (hc : c + mm_mc kX5_nextLot ≤ mm_mc kL_first) (g : mm_M kX5_nextLot [.ref 0, .int x1, .int x2] v (mm_Kc kL_first 6 [.ref 0, .int x1, .int x2, l3] [] (c + mm_mc kX5_nextLot) K)) : mm_E kL_first 0 [.ref 0, .int x1, .int x2, l3] [] v c K := by
  refine e_run 3 (pc1 := 3) (L1 := [.ref 0, .int x1, .int x2, l3]) (S1 := [.int x2, .int x1, .ref 0]) (v1 := v) rfl ?_
  exact e_cl (j := kX5_nextLot) rfl hc g
theorem bL_first_6 {x1 : Int32} {x2 : Int32} {l3 : Value} {y0 : Int32} {v : mmM} {c : Nat} {K : mmO → mmM → Prop} (g : K (.inl (some (.int y0))) v) : mm_E kL_first 6 [.ref 0, .int x1, .int x2, l3] [.int y0] v c K := by
  exact e_iret (ty := .int) rfl rfl rfl g
theorem bL_had_0 {x1 : Int32} {x2 : Int32} {l3 : Value} {v : mmM} {c : Nat} {K : mmO → mmM → Prop} (hc : c + mm_mc kX5_onHandOn ≤ mm_mc kL_had) (g : mm_M kX5_onHandOn [.ref 0, .int x1, .int x2] v (mm_Kc kL_had 6 [.ref 0, .int x1, .int x2, l3] [] (c + mm_mc kX5_onHandOn) K)) : mm_E kL_had 0 [.ref 0, .int x1, .int x2, l3] [] v c K := by
  refine e_run 3 (pc1 := 3) (L1 := [.ref 0, .int x1, .int x2, l3]) (S1 := [.int x2, .int x1, .ref 0]) (v1 := v) rfl ?_
  exact e_cl (j := kX5_onHandOn) rfl hc g
theorem bL_had_6 {x1 : Int32} {x2 : Int32} {l3 : Value} {y0 : Int32} {v : mmM} {c : Nat} {K : mmO → mmM → Prop} (g : K (.inl (some (.int y0))) v) : mm_E kL_had 6 [.ref 0, .int x1, .int x2, l3] [.int y0] v c K := by
  exact e_iret (ty := .int) rfl rfl rfl g
theorem bL_stock_0 {x1 : Int32} {x2 : Int32} {x3 : Int32} {l4 : Value} {v : mmM} {c : Nat} {K : mmO → mmM → Prop} (g1 : x3 = 0 → mm_E kL_stock 13 [.ref 0, .int x1, .int x2, .int x3, l4] [] v c K) (g2 : ¬ x3 = 0 → mm_E kL_stock 4 [.ref 0, .int x1, .int x2, .int x3, l4] [] v c K) : mm_E kL_stock 0 [.ref 0, .int x1, .int x2, .int x3, l4] [] v c K := by
  refine e_run 1 (pc1 := 1) (L1 := [.ref 0, .int x1, .int x2, .int x3, l4]) (S1 := [.int x3]) (v1 := v) rfl ?_
  exact e_if (p := x3 = 0) rfl g1 g2
theorem bL_stock_4 {x1 : Int32} {x2 : Int32} {x3 : Int32} {l4 : Value} {v : mmM} {c : Nat} {K : mmO → mmM → Prop} (hc : c + mm_mc kX5_stockByJournal ≤ mm_mc kL_stock) (g : mm_M kX5_stockByJournal [.ref 0, .int x1, .int x2] v (mm_Kc kL_stock 10 [.ref 0, .int x1, .int x2, .int x3, l4] [] (c + mm_mc kX5_stockByJournal) K)) : mm_E kL_stock 4 [.ref 0, .int x1, .int x2, .int x3, l4] [] v c K := by
  refine e_run 3 (pc1 := 7) (L1 := [.ref 0, .int x1, .int x2, .int x3, l4]) (S1 := [.int x2, .int x1, .ref 0]) (v1 := v) rfl ?_
  exact e_cl (j := kX5_stockByJournal) rfl hc g
theorem bL_stock_10 {x1 : Int32} {x2 : Int32} {x3 : Int32} {l4 : Value} {y0 : Int32} {v : mmM} {c : Nat} {K : mmO → mmM → Prop} (g : mm_E kL_stock 19 [.ref 0, .int x1, .int x2, .int x3, l4] [.int y0] v c K) : mm_E kL_stock 10 [.ref 0, .int x1, .int x2, .int x3, l4] [.int y0] v c K := by
  refine e_run 1 (pc1 := 19) (L1 := [.ref 0, .int x1, .int x2, .int x3, l4]) (S1 := [.int y0]) (v1 := v) rfl ?_
  exact g
theorem bL_stock_13 {x1 : Int32} {x2 : Int32} {x3 : Int32} {l4 : Value} {v : mmM} {c : Nat} {K : mmO → mmM → Prop} (hc : c + mm_mc kX5_stock ≤ mm_mc kL_stock) (g : mm_M kX5_stock [.ref 0, .int x1, .int x2] v (mm_Kc kL_stock 19 [.ref 0, .int x1, .int x2, .int x3, l4] [] (c + mm_mc kX5_stock) K)) : mm_E kL_stock 13 [.ref 0, .int x1, .int x2, .int x3, l4] [] v c K := by
  refine e_run 3 (pc1 := 16) (L1 := [.ref 0, .int x1, .int x2, .int x3, l4]) (S1 := [.int x2, .int x1, .ref 0]) (v1 := v) rfl ?_
  exact e_cl (j := kX5_stock) rfl hc g
theorem bL_stock_19 {x1 : Int32} {x2 : Int32} {x3 : Int32} {l4 : Value} {y0 : Int32} {v : mmM} {c : Nat} {K : mmO → mmM → Prop} (g : K (.inl (some (.int y0))) v) : mm_E kL_stock 19 [.ref 0, .int x1, .int x2, .int x3, l4] [.int y0] v c K := by
  exact e_iret (ty := .int) rfl rfl rfl g
theorem bL_entry_0 {x1 : Int32} {x2 : Int32} {l3 : Value} {v : mmM} {c : Nat} {K : mmO → mmM → Prop} (g1 : x2 = 0 → mm_E kL_entry 4 [.ref 0, .int x1, .int x2, l3] [] v c K) (g2 : ¬ x2 = 0 → mm_E kL_entry 12 [.ref 0, .int x1, .int x2, l3] [] v c K) : mm_E kL_entry 0 [.ref 0, .int x1, .int x2, l3] [] v c K := by
  refine e_run 1 (pc1 := 1) (L1 := [.ref 0, .int x1, .int x2, l3]) (S1 := [.int x2]) (v1 := v) rfl ?_
  exact e_if (p := x2 = 0) rfl g1 g2
theorem bL_entry_4 {x1 : Int32} {x2 : Int32} {l3 : Value} {v : mmM} {c : Nat} {K : mmO → mmM → Prop} (hc : c + mm_mc kX5_entryKind ≤ mm_mc kL_entry) (g : mm_M kX5_entryKind [.ref 0, .int x1] v (mm_Kc kL_entry 9 [.ref 0, .int x1, .int x2, l3] [] (c + mm_mc kX5_entryKind) K)) : mm_E kL_entry 4 [.ref 0, .int x1, .int x2, l3] [] v c K := by
  refine e_run 2 (pc1 := 6) (L1 := [.ref 0, .int x1, .int x2, l3]) (S1 := [.int x1, .ref 0]) (v1 := v) rfl ?_
  exact e_cl (j := kX5_entryKind) rfl hc g
theorem bL_entry_9 {x1 : Int32} {x2 : Int32} {l3 : Value} {y0 : Int32} {v : mmM} {c : Nat} {K : mmO → mmM → Prop} (g : mm_E kL_entry 56 [.ref 0, .int x1, .int x2, l3] [.int y0] v c K) : mm_E kL_entry 9 [.ref 0, .int x1, .int x2, l3] [.int y0] v c K := by
  refine e_run 1 (pc1 := 56) (L1 := [.ref 0, .int x1, .int x2, l3]) (S1 := [.int y0]) (v1 := v) rfl ?_
  exact g
theorem bL_entry_12 {x1 : Int32} {x2 : Int32} {l3 : Value} {v : mmM} {c : Nat} {K : mmO → mmM → Prop} (g1 : x2 = (1 : Int32) → mm_E kL_entry 17 [.ref 0, .int x1, .int x2, l3] [] v c K) (g2 : ¬ x2 = (1 : Int32) → mm_E kL_entry 25 [.ref 0, .int x1, .int x2, l3] [] v c K) : mm_E kL_entry 12 [.ref 0, .int x1, .int x2, l3] [] v c K := by
  refine e_run 2 (pc1 := 14) (L1 := [.ref 0, .int x1, .int x2, l3]) (S1 := [.int (1 : Int32), .int x2]) (v1 := v) rfl ?_
  exact e_if (p := x2 = (1 : Int32)) rfl g1 g2
theorem bL_entry_17 {x1 : Int32} {x2 : Int32} {l3 : Value} {v : mmM} {c : Nat} {K : mmO → mmM → Prop} (hc : c + mm_mc kX5_entryLot ≤ mm_mc kL_entry) (g : mm_M kX5_entryLot [.ref 0, .int x1] v (mm_Kc kL_entry 22 [.ref 0, .int x1, .int x2, l3] [] (c + mm_mc kX5_entryLot) K)) : mm_E kL_entry 17 [.ref 0, .int x1, .int x2, l3] [] v c K := by
  refine e_run 2 (pc1 := 19) (L1 := [.ref 0, .int x1, .int x2, l3]) (S1 := [.int x1, .ref 0]) (v1 := v) rfl ?_
  exact e_cl (j := kX5_entryLot) rfl hc g
theorem bL_entry_22 {x1 : Int32} {x2 : Int32} {l3 : Value} {y0 : Int32} {v : mmM} {c : Nat} {K : mmO → mmM → Prop} (g : mm_E kL_entry 56 [.ref 0, .int x1, .int x2, l3] [.int y0] v c K) : mm_E kL_entry 22 [.ref 0, .int x1, .int x2, l3] [.int y0] v c K := by
  refine e_run 1 (pc1 := 56) (L1 := [.ref 0, .int x1, .int x2, l3]) (S1 := [.int y0]) (v1 := v) rfl ?_
  exact g
theorem bL_entry_25 {x1 : Int32} {x2 : Int32} {l3 : Value} {v : mmM} {c : Nat} {K : mmO → mmM → Prop} (g1 : x2 = (2 : Int32) → mm_E kL_entry 30 [.ref 0, .int x1, .int x2, l3] [] v c K) (g2 : ¬ x2 = (2 : Int32) → mm_E kL_entry 38 [.ref 0, .int x1, .int x2, l3] [] v c K) : mm_E kL_entry 25 [.ref 0, .int x1, .int x2, l3] [] v c K := by
  refine e_run 2 (pc1 := 27) (L1 := [.ref 0, .int x1, .int x2, l3]) (S1 := [.int (2 : Int32), .int x2]) (v1 := v) rfl ?_
  exact e_if (p := x2 = (2 : Int32)) rfl g1 g2
theorem bL_entry_30 {x1 : Int32} {x2 : Int32} {l3 : Value} {v : mmM} {c : Nat} {K : mmO → mmM → Prop} (hc : c + mm_mc kX5_entryFrom ≤ mm_mc kL_entry) (g : mm_M kX5_entryFrom [.ref 0, .int x1] v (mm_Kc kL_entry 35 [.ref 0, .int x1, .int x2, l3] [] (c + mm_mc kX5_entryFrom) K)) : mm_E kL_entry 30 [.ref 0, .int x1, .int x2, l3] [] v c K := by
  refine e_run 2 (pc1 := 32) (L1 := [.ref 0, .int x1, .int x2, l3]) (S1 := [.int x1, .ref 0]) (v1 := v) rfl ?_
  exact e_cl (j := kX5_entryFrom) rfl hc g
theorem bL_entry_35 {x1 : Int32} {x2 : Int32} {l3 : Value} {y0 : Int32} {v : mmM} {c : Nat} {K : mmO → mmM → Prop} (g : mm_E kL_entry 56 [.ref 0, .int x1, .int x2, l3] [.int y0] v c K) : mm_E kL_entry 35 [.ref 0, .int x1, .int x2, l3] [.int y0] v c K := by
  refine e_run 1 (pc1 := 56) (L1 := [.ref 0, .int x1, .int x2, l3]) (S1 := [.int y0]) (v1 := v) rfl ?_
  exact g
theorem bL_entry_38 {x1 : Int32} {x2 : Int32} {l3 : Value} {v : mmM} {c : Nat} {K : mmO → mmM → Prop} (g1 : x2 = (3 : Int32) → mm_E kL_entry 43 [.ref 0, .int x1, .int x2, l3] [] v c K) (g2 : ¬ x2 = (3 : Int32) → mm_E kL_entry 51 [.ref 0, .int x1, .int x2, l3] [] v c K) : mm_E kL_entry 38 [.ref 0, .int x1, .int x2, l3] [] v c K := by
  refine e_run 2 (pc1 := 40) (L1 := [.ref 0, .int x1, .int x2, l3]) (S1 := [.int (3 : Int32), .int x2]) (v1 := v) rfl ?_
  exact e_if (p := x2 = (3 : Int32)) rfl g1 g2
theorem bL_entry_43 {x1 : Int32} {x2 : Int32} {l3 : Value} {v : mmM} {c : Nat} {K : mmO → mmM → Prop} (hc : c + mm_mc kX5_entryTo ≤ mm_mc kL_entry) (g : mm_M kX5_entryTo [.ref 0, .int x1] v (mm_Kc kL_entry 48 [.ref 0, .int x1, .int x2, l3] [] (c + mm_mc kX5_entryTo) K)) : mm_E kL_entry 43 [.ref 0, .int x1, .int x2, l3] [] v c K := by
  refine e_run 2 (pc1 := 45) (L1 := [.ref 0, .int x1, .int x2, l3]) (S1 := [.int x1, .ref 0]) (v1 := v) rfl ?_
  exact e_cl (j := kX5_entryTo) rfl hc g
theorem bL_entry_48 {x1 : Int32} {x2 : Int32} {l3 : Value} {y0 : Int32} {v : mmM} {c : Nat} {K : mmO → mmM → Prop} (g : mm_E kL_entry 56 [.ref 0, .int x1, .int x2, l3] [.int y0] v c K) : mm_E kL_entry 48 [.ref 0, .int x1, .int x2, l3] [.int y0] v c K := by
  refine e_run 1 (pc1 := 56) (L1 := [.ref 0, .int x1, .int x2, l3]) (S1 := [.int y0]) (v1 := v) rfl ?_
  exact g
theorem bL_entry_51 {x1 : Int32} {x2 : Int32} {l3 : Value} {v : mmM} {c : Nat} {K : mmO → mmM → Prop} (hc : c + mm_mc kX5_entryQuantity ≤ mm_mc kL_entry) (g : mm_M kX5_entryQuantity [.ref 0, .int x1] v (mm_Kc kL_entry 56 [.ref 0, .int x1, .int x2, l3] [] (c + mm_mc kX5_entryQuantity) K)) : mm_E kL_entry 51 [.ref 0, .int x1, .int x2, l3] [] v c K := by
  refine e_run 2 (pc1 := 53) (L1 := [.ref 0, .int x1, .int x2, l3]) (S1 := [.int x1, .ref 0]) (v1 := v) rfl ?_
  exact e_cl (j := kX5_entryQuantity) rfl hc g
theorem bL_entry_56 {x1 : Int32} {x2 : Int32} {l3 : Value} {y0 : Int32} {v : mmM} {c : Nat} {K : mmO → mmM → Prop} (g : K (.inl (some (.int y0))) v) : mm_E kL_entry 56 [.ref 0, .int x1, .int x2, l3] [.int y0] v c K := by
  exact e_iret (ty := .int) rfl rfl rfl g
theorem bL_status_0 {x1 : Int32} {l2 : Value} {v : mmM} {c : Nat} {K : mmO → mmM → Prop} (hc : c + mm_mc kX5_status ≤ mm_mc kL_status) (g : mm_M kX5_status [.ref 0, .int x1] v (mm_Kc kL_status 5 [.ref 0, .int x1, l2] [] (c + mm_mc kX5_status) K)) : mm_E kL_status 0 [.ref 0, .int x1, l2] [] v c K := by
  refine e_run 2 (pc1 := 2) (L1 := [.ref 0, .int x1, l2]) (S1 := [.int x1, .ref 0]) (v1 := v) rfl ?_
  exact e_cl (j := kX5_status) rfl hc g
theorem bL_status_5 {x1 : Int32} {l2 : Value} {y0 : Int32} {v : mmM} {c : Nat} {K : mmO → mmM → Prop} (h1 : narrow .char (.int y0) = .int y0) (g : K (.inl (some (.int y0))) v) : mm_E kL_status 5 [.ref 0, .int x1, l2] [.int y0] v c K := by
  exact e_iret (ty := .char) rfl rfl h1 g
theorem bL_promisesOf_0 {l1 : Value} {v : mmM} {c : Nat} {K : mmO → mmM → Prop} (g : mm_E kL_promisesOf 2 [.ref 0, .int (0 : Int32)] [] v c K) : mm_E kL_promisesOf 0 [.ref 0, l1] [] v c K := by
  refine e_run 2 (pc1 := 2) (L1 := [.ref 0, .int (0 : Int32)]) (S1 := []) (v1 := v) rfl ?_
  exact g
theorem bL_promisesOf_2 {x1 : Int32} {v : mmM} {c : Nat} {K : mmO → mmM → Prop} (g1 : (20 : Int32) ≤ x1 → mm_E kL_promisesOf 24 [.ref 0, .int x1] [] v c K) (g2 : ¬ (20 : Int32) ≤ x1 → mm_E kL_promisesOf 8 [.ref 0, .int x1] [] v c K) : mm_E kL_promisesOf 2 [.ref 0, .int x1] [] v c K := by
  refine e_run 2 (pc1 := 5) (L1 := [.ref 0, .int x1]) (S1 := [.int (20 : Int32), .int x1]) (v1 := v) rfl ?_
  exact e_if (p := (20 : Int32) ≤ x1) rfl g1 g2
theorem bL_promisesOf_8 {x1 : Int32} {v : mmM} {c : Nat} {K : mmO → mmM → Prop} (hc : c + mm_mc kL_status ≤ mm_mc kL_promisesOf) (g : mm_M kL_status [.ref 0, .int x1] v (mm_Kc kL_promisesOf 13 [.ref 0, .int x1] [] (c + mm_mc kL_status) K)) : mm_E kL_promisesOf 8 [.ref 0, .int x1] [] v c K := by
  refine e_run 2 (pc1 := 10) (L1 := [.ref 0, .int x1]) (S1 := [.int x1, .ref 0]) (v1 := v) rfl ?_
  exact e_cl (j := kL_status) rfl hc g
theorem bL_promisesOf_13 {x1 : Int32} {y0 : Int32} {v : mmM} {c : Nat} {K : mmO → mmM → Prop} (g1 : y0 = (45 : Int32) → mm_E kL_promisesOf 24 [.ref 0, .int x1] [] v c K) (g2 : ¬ y0 = (45 : Int32) → mm_E kL_promisesOf 18 [.ref 0, .int x1] [] v c K) : mm_E kL_promisesOf 13 [.ref 0, .int x1] [.int y0] v c K := by
  refine e_run 1 (pc1 := 15) (L1 := [.ref 0, .int x1]) (S1 := [.int (45 : Int32), .int y0]) (v1 := v) rfl ?_
  exact e_if (p := y0 = (45 : Int32)) rfl g1 g2
theorem bL_promisesOf_18 {x1 : Int32} {v : mmM} {c : Nat} {K : mmO → mmM → Prop} (g : mm_E kL_promisesOf 2 [.ref 0, .int (x1 + (1 : Int32))] [] v c K) : mm_E kL_promisesOf 18 [.ref 0, .int x1] [] v c K := by
  refine e_run 2 (pc1 := 2) (L1 := [.ref 0, .int (x1 + (1 : Int32))]) (S1 := []) (v1 := v) rfl ?_
  exact g
theorem bL_promisesOf_24 {x1 : Int32} {v : mmM} {c : Nat} {K : mmO → mmM → Prop} (g : K (.inl (some (.int x1))) v) : mm_E kL_promisesOf 24 [.ref 0, .int x1] [] v c K := by
  refine e_run 1 (pc1 := 25) (L1 := [.ref 0, .int x1]) (S1 := [.int x1]) (v1 := v) rfl ?_
  exact e_iret (ty := .int) rfl rfl rfl g
theorem bL_sum_0 {x1 : Int32} {v : mmM} {c : Nat} {K : mmO → mmM → Prop} (hc : c + mm_mc kX5_day ≤ mm_mc kL_sum) (g : mm_M kX5_day [.ref 0] v (mm_Kc kL_sum 4 [.ref 0, .int x1, .retAddr 0, .retAddr 0, .retAddr 0, .retAddr 0] [] (c + mm_mc kX5_day) K)) : mm_E kL_sum 0 [.ref 0, .int x1, .retAddr 0, .retAddr 0, .retAddr 0, .retAddr 0] [] v c K := by
  refine e_run 1 (pc1 := 1) (L1 := [.ref 0, .int x1, .retAddr 0, .retAddr 0, .retAddr 0, .retAddr 0]) (S1 := [.ref 0]) (v1 := v) rfl ?_
  exact e_cl (j := kX5_day) rfl hc g
theorem bL_sum_4 {x1 : Int32} {y0 : Int32} {v : mmM} {c : Nat} {K : mmO → mmM → Prop} (hc : c + mm_mc kX5_lots ≤ mm_mc kL_sum) (g : mm_M kX5_lots [.ref 0] v (mm_Kc kL_sum 12 [.ref 0, .int x1, .retAddr 0, .retAddr 0, .retAddr 0, .retAddr 0] [.long (Int64.ofNat 31), .long (y0.toInt64)] (c + mm_mc kX5_lots) K)) : mm_E kL_sum 4 [.ref 0, .int x1, .retAddr 0, .retAddr 0, .retAddr 0, .retAddr 0] [.int y0] v c K := by
  refine e_run 3 (pc1 := 9) (L1 := [.ref 0, .int x1, .retAddr 0, .retAddr 0, .retAddr 0, .retAddr 0]) (S1 := [.ref 0, .long (Int64.ofNat 31), .long (y0.toInt64)]) (v1 := v) rfl ?_
  exact e_cl (j := kX5_lots) rfl hc g
theorem bL_sum_12 {x1 : Int32} {js0 : Int64} {js1 : Int64} {y2 : Int32} {v : mmM} {c : Nat} {K : mmO → mmM → Prop} (hc : c + mm_mc kX5_entries ≤ mm_mc kL_sum) (g : mm_M kX5_entries [.ref 0] v (mm_Kc kL_sum 22 [.ref 0, .int x1, .retAddr 0, .retAddr 0, .retAddr 0, .retAddr 0] [.long (Int64.ofNat 961), .long (js0 + (js1 * (y2.toInt64)))] (c + mm_mc kX5_entries) K)) : mm_E kL_sum 12 [.ref 0, .int x1, .retAddr 0, .retAddr 0, .retAddr 0, .retAddr 0] [.int y2, .long js1, .long js0] v c K := by
  refine e_run 5 (pc1 := 19) (L1 := [.ref 0, .int x1, .retAddr 0, .retAddr 0, .retAddr 0, .retAddr 0]) (S1 := [.ref 0, .long (Int64.ofNat 961), .long (js0 + (js1 * (y2.toInt64)))]) (v1 := v) rfl ?_
  exact e_cl (j := kX5_entries) rfl hc g
theorem bL_sum_22 {x1 : Int32} {js0 : Int64} {js1 : Int64} {y2 : Int32} {v : mmM} {c : Nat} {K : mmO → mmM → Prop} (hc : c + mm_mc kX5_countsDue ≤ mm_mc kL_sum) (g : mm_M kX5_countsDue [.ref 0] v (mm_Kc kL_sum 32 [.ref 0, .int x1, .retAddr 0, .retAddr 0, .retAddr 0, .retAddr 0] [.long (Int64.ofNat 7), .long (js0 + (js1 * (y2.toInt64)))] (c + mm_mc kX5_countsDue) K)) : mm_E kL_sum 22 [.ref 0, .int x1, .retAddr 0, .retAddr 0, .retAddr 0, .retAddr 0] [.int y2, .long js1, .long js0] v c K := by
  refine e_run 5 (pc1 := 29) (L1 := [.ref 0, .int x1, .retAddr 0, .retAddr 0, .retAddr 0, .retAddr 0]) (S1 := [.ref 0, .long (Int64.ofNat 7), .long (js0 + (js1 * (y2.toInt64)))]) (v1 := v) rfl ?_
  exact e_cl (j := kX5_countsDue) rfl hc g
theorem bL_sum_32 {x1 : Int32} {js0 : Int64} {js1 : Int64} {y2 : Int32} {v : mmM} {c : Nat} {K : mmO → mmM → Prop} (hc : c + mm_mc kL_next ≤ mm_mc kL_sum) (g : mm_M kL_next [.ref 0] v (mm_Kc kL_sum 42 [.ref 0, .int x1, .retAddr 0, .retAddr 0, .retAddr 0, .retAddr 0] [.long (Int64.ofNat 11), .long (js0 + (js1 * (y2.toInt64)))] (c + mm_mc kL_next) K)) : mm_E kL_sum 32 [.ref 0, .int x1, .retAddr 0, .retAddr 0, .retAddr 0, .retAddr 0] [.int y2, .long js1, .long js0] v c K := by
  refine e_run 5 (pc1 := 39) (L1 := [.ref 0, .int x1, .retAddr 0, .retAddr 0, .retAddr 0, .retAddr 0]) (S1 := [.ref 0, .long (Int64.ofNat 11), .long (js0 + (js1 * (y2.toInt64)))]) (v1 := v) rfl ?_
  exact e_cl (j := kL_next) rfl hc g
theorem bL_sum_42 {x1 : Int32} {js0 : Int64} {js1 : Int64} {y2 : Int32} {v : mmM} {c : Nat} {K : mmO → mmM → Prop} (g : mm_E kL_sum 49 [.ref 0, .int x1, .long (js0 + (js1 * (y2.toInt64))), .retAddr 0, .int (0 : Int32), .retAddr 0] [] v c K) : mm_E kL_sum 42 [.ref 0, .int x1, .retAddr 0, .retAddr 0, .retAddr 0, .retAddr 0] [.int y2, .long js1, .long js0] v c K := by
  refine e_run 6 (pc1 := 49) (L1 := [.ref 0, .int x1, .long (js0 + (js1 * (y2.toInt64))), .retAddr 0, .int (0 : Int32), .retAddr 0]) (S1 := []) (v1 := v) rfl ?_
  exact g
theorem bL_sum_49 {x1 : Int32} {jl2 : Int64} {x4 : Int32} {l5 : Value} {v : mmM} {c : Nat} {K : mmO → mmM → Prop} (hc : c + mm_mc kX5_lots ≤ mm_mc kL_sum) (g : mm_M kX5_lots [.ref 0] v (mm_Kc kL_sum 55 [.ref 0, .int x1, .long jl2, .retAddr 0, .int x4, l5] [.int x4] (c + mm_mc kX5_lots) K)) : mm_E kL_sum 49 [.ref 0, .int x1, .long jl2, .retAddr 0, .int x4, l5] [] v c K := by
  refine e_run 2 (pc1 := 52) (L1 := [.ref 0, .int x1, .long jl2, .retAddr 0, .int x4, l5]) (S1 := [.ref 0, .int x4]) (v1 := v) rfl ?_
  exact e_cl (j := kX5_lots) rfl hc g
theorem bL_sum_55 {x1 : Int32} {jl2 : Int64} {x4 : Int32} {l5 : Value} {y0 : Int32} {y1 : Int32} {v : mmM} {c : Nat} {K : mmO → mmM → Prop} (g1 : y1 ≤ y0 → mm_E kL_sum 97 [.ref 0, .int x1, .long jl2, .retAddr 0, .int x4, l5] [] v c K) (g2 : ¬ y1 ≤ y0 → mm_E kL_sum 58 [.ref 0, .int x1, .long jl2, .retAddr 0, .int x4, l5] [] v c K) : mm_E kL_sum 55 [.ref 0, .int x1, .long jl2, .retAddr 0, .int x4, l5] [.int y1, .int y0] v c K := by
  exact e_if (p := y1 ≤ y0) rfl g1 g2
theorem bL_sum_58 {x1 : Int32} {jl2 : Int64} {x4 : Int32} {l5 : Value} {v : mmM} {c : Nat} {K : mmO → mmM → Prop} (g : mm_E kL_sum 61 [.ref 0, .int x1, .long jl2, .retAddr 0, .int x4, .int (0 : Int32)] [] v c K) : mm_E kL_sum 58 [.ref 0, .int x1, .long jl2, .retAddr 0, .int x4, l5] [] v c K := by
  refine e_run 2 (pc1 := 61) (L1 := [.ref 0, .int x1, .long jl2, .retAddr 0, .int x4, .int (0 : Int32)]) (S1 := []) (v1 := v) rfl ?_
  exact g
theorem bL_sum_61 {x1 : Int32} {jl2 : Int64} {x4 : Int32} {x5 : Int32} {v : mmM} {c : Nat} {K : mmO → mmM → Prop} (g1 : (40 : Int32) ≤ x5 → mm_E kL_sum 91 [.ref 0, .int x1, .long jl2, .retAddr 0, .int x4, .int x5] [] v c K) (g2 : ¬ (40 : Int32) ≤ x5 → mm_E kL_sum 68 [.ref 0, .int x1, .long jl2, .retAddr 0, .int x4, .int x5] [] v c K) : mm_E kL_sum 61 [.ref 0, .int x1, .long jl2, .retAddr 0, .int x4, .int x5] [] v c K := by
  refine e_run 2 (pc1 := 65) (L1 := [.ref 0, .int x1, .long jl2, .retAddr 0, .int x4, .int x5]) (S1 := [.int (40 : Int32), .int x5]) (v1 := v) rfl ?_
  exact e_if (p := (40 : Int32) ≤ x5) rfl g1 g2
theorem bL_sum_68 {x1 : Int32} {jl2 : Int64} {x4 : Int32} {x5 : Int32} {v : mmM} {c : Nat} {K : mmO → mmM → Prop} (hc : c + mm_mc kL_stock ≤ mm_mc kL_sum) (g : mm_M kL_stock [.ref 0, .int x4, .int x5, .int (0 : Int32)] v (mm_Kc kL_sum 82 [.ref 0, .int x1, .long jl2, .retAddr 0, .int x4, .int x5] [.long ((Int64.ofNat 31) * jl2)] (c + mm_mc kL_stock) K)) : mm_E kL_sum 68 [.ref 0, .int x1, .long jl2, .retAddr 0, .int x4, .int x5] [] v c K := by
  refine e_run 7 (pc1 := 79) (L1 := [.ref 0, .int x1, .long jl2, .retAddr 0, .int x4, .int x5]) (S1 := [.int (0 : Int32), .int x5, .int x4, .ref 0, .long ((Int64.ofNat 31) * jl2)]) (v1 := v) rfl ?_
  exact e_cl (j := kL_stock) rfl hc g
theorem bL_sum_82 {x1 : Int32} {jl2 : Int64} {x4 : Int32} {x5 : Int32} {js0 : Int64} {y1 : Int32} {v : mmM} {c : Nat} {K : mmO → mmM → Prop} (g : mm_E kL_sum 61 [.ref 0, .int x1, .long (js0 + (y1.toInt64)), .retAddr 0, .int x4, .int (x5 + (1 : Int32))] [] v c K) : mm_E kL_sum 82 [.ref 0, .int x1, .long jl2, .retAddr 0, .int x4, .int x5] [.int y1, .long js0] v c K := by
  refine e_run 5 (pc1 := 61) (L1 := [.ref 0, .int x1, .long (js0 + (y1.toInt64)), .retAddr 0, .int x4, .int (x5 + (1 : Int32))]) (S1 := []) (v1 := v) rfl ?_
  exact g
theorem bL_sum_91 {x1 : Int32} {jl2 : Int64} {x4 : Int32} {x5 : Int32} {v : mmM} {c : Nat} {K : mmO → mmM → Prop} (g : mm_E kL_sum 49 [.ref 0, .int x1, .long jl2, .retAddr 0, .int (x4 + (1 : Int32)), .int x5] [] v c K) : mm_E kL_sum 91 [.ref 0, .int x1, .long jl2, .retAddr 0, .int x4, .int x5] [] v c K := by
  refine e_run 2 (pc1 := 49) (L1 := [.ref 0, .int x1, .long jl2, .retAddr 0, .int (x4 + (1 : Int32)), .int x5]) (S1 := []) (v1 := v) rfl ?_
  exact g
theorem bL_sum_97 {x1 : Int32} {jl2 : Int64} {x4 : Int32} {l5 : Value} {v : mmM} {c : Nat} {K : mmO → mmM → Prop} (g : mm_E kL_sum 100 [.ref 0, .int x1, .long jl2, .retAddr 0, .int (0 : Int32), l5] [] v c K) : mm_E kL_sum 97 [.ref 0, .int x1, .long jl2, .retAddr 0, .int x4, l5] [] v c K := by
  refine e_run 2 (pc1 := 100) (L1 := [.ref 0, .int x1, .long jl2, .retAddr 0, .int (0 : Int32), l5]) (S1 := []) (v1 := v) rfl ?_
  exact g
theorem bL_sum_100 {x1 : Int32} {jl2 : Int64} {x4 : Int32} {l5 : Value} {v : mmM} {c : Nat} {K : mmO → mmM → Prop} (hc : c + mm_mc kL_promisesOf ≤ mm_mc kL_sum) (g : mm_M kL_promisesOf [.ref 0] v (mm_Kc kL_sum 106 [.ref 0, .int x1, .long jl2, .retAddr 0, .int x4, l5] [.int x4] (c + mm_mc kL_promisesOf) K)) : mm_E kL_sum 100 [.ref 0, .int x1, .long jl2, .retAddr 0, .int x4, l5] [] v c K := by
  refine e_run 2 (pc1 := 103) (L1 := [.ref 0, .int x1, .long jl2, .retAddr 0, .int x4, l5]) (S1 := [.ref 0, .int x4]) (v1 := v) rfl ?_
  exact e_cl (j := kL_promisesOf) rfl hc g
theorem bL_sum_106 {x1 : Int32} {jl2 : Int64} {x4 : Int32} {l5 : Value} {y0 : Int32} {y1 : Int32} {v : mmM} {c : Nat} {K : mmO → mmM → Prop} (g1 : y1 ≤ y0 → mm_E kL_sum 185 [.ref 0, .int x1, .long jl2, .retAddr 0, .int x4, l5] [] v c K) (g2 : ¬ y1 ≤ y0 → mm_E kL_sum 109 [.ref 0, .int x1, .long jl2, .retAddr 0, .int x4, l5] [] v c K) : mm_E kL_sum 106 [.ref 0, .int x1, .long jl2, .retAddr 0, .int x4, l5] [.int y1, .int y0] v c K := by
  exact e_if (p := y1 ≤ y0) rfl g1 g2
theorem bL_sum_109 {x1 : Int32} {jl2 : Int64} {x4 : Int32} {l5 : Value} {v : mmM} {c : Nat} {K : mmO → mmM → Prop} (hc : c + mm_mc kL_status ≤ mm_mc kL_sum) (g : mm_M kL_status [.ref 0, .int x4] v (mm_Kc kL_sum 120 [.ref 0, .int x1, .long jl2, .retAddr 0, .int x4, l5] [.long ((Int64.ofNat 31) * jl2)] (c + mm_mc kL_status) K)) : mm_E kL_sum 109 [.ref 0, .int x1, .long jl2, .retAddr 0, .int x4, l5] [] v c K := by
  refine e_run 5 (pc1 := 117) (L1 := [.ref 0, .int x1, .long jl2, .retAddr 0, .int x4, l5]) (S1 := [.int x4, .ref 0, .long ((Int64.ofNat 31) * jl2)]) (v1 := v) rfl ?_
  exact e_cl (j := kL_status) rfl hc g
theorem bL_sum_120 {x1 : Int32} {jl2 : Int64} {x4 : Int32} {l5 : Value} {js0 : Int64} {y1 : Int32} {v : mmM} {c : Nat} {K : mmO → mmM → Prop} (hc : c + mm_mc kL_lines ≤ mm_mc kL_sum) (g : mm_M kL_lines [.ref 0, .int x4] v (mm_Kc kL_sum 131 [.ref 0, .int x1, .long jl2, .retAddr 0, .int x4, l5] [.long (Int64.ofNat 3), .long (js0 + (y1.toInt64))] (c + mm_mc kL_lines) K)) : mm_E kL_sum 120 [.ref 0, .int x1, .long jl2, .retAddr 0, .int x4, l5] [.int y1, .long js0] v c K := by
  refine e_run 5 (pc1 := 128) (L1 := [.ref 0, .int x1, .long jl2, .retAddr 0, .int x4, l5]) (S1 := [.int x4, .ref 0, .long (Int64.ofNat 3), .long (js0 + (y1.toInt64))]) (v1 := v) rfl ?_
  exact e_cl (j := kL_lines) rfl hc g
theorem bL_sum_131 {x1 : Int32} {jl2 : Int64} {x4 : Int32} {l5 : Value} {js0 : Int64} {js1 : Int64} {y2 : Int32} {v : mmM} {c : Nat} {K : mmO → mmM → Prop} (hc : c + mm_mc kL_walks ≤ mm_mc kL_sum) (g : mm_M kL_walks [.ref 0, .int x4, .int (0 : Int32)] v (mm_Kc kL_sum 144 [.ref 0, .int x1, .long jl2, .retAddr 0, .int x4, l5] [.long (Int64.ofNat 5), .long (js0 + (js1 * (y2.toInt64)))] (c + mm_mc kL_walks) K)) : mm_E kL_sum 131 [.ref 0, .int x1, .long jl2, .retAddr 0, .int x4, l5] [.int y2, .long js1, .long js0] v c K := by
  refine e_run 7 (pc1 := 141) (L1 := [.ref 0, .int x1, .long jl2, .retAddr 0, .int x4, l5]) (S1 := [.int (0 : Int32), .int x4, .ref 0, .long (Int64.ofNat 5), .long (js0 + (js1 * (y2.toInt64)))]) (v1 := v) rfl ?_
  exact e_cl (j := kL_walks) rfl hc g
theorem bL_sum_144 {x1 : Int32} {jl2 : Int64} {x4 : Int32} {l5 : Value} {js0 : Int64} {js1 : Int64} {y2 : Int32} {v : mmM} {c : Nat} {K : mmO → mmM → Prop} (g : mm_E kL_sum 151 [.ref 0, .int x1, .long (js0 + (js1 * (y2.toInt64))), .retAddr 0, .int x4, .int (0 : Int32)] [] v c K) : mm_E kL_sum 144 [.ref 0, .int x1, .long jl2, .retAddr 0, .int x4, l5] [.int y2, .long js1, .long js0] v c K := by
  refine e_run 6 (pc1 := 151) (L1 := [.ref 0, .int x1, .long (js0 + (js1 * (y2.toInt64))), .retAddr 0, .int x4, .int (0 : Int32)]) (S1 := []) (v1 := v) rfl ?_
  exact g
theorem bL_sum_151 {x1 : Int32} {jl2 : Int64} {x4 : Int32} {x5 : Int32} {v : mmM} {c : Nat} {K : mmO → mmM → Prop} (g1 : x1 ≤ x5 → mm_E kL_sum 179 [.ref 0, .int x1, .long jl2, .retAddr 0, .int x4, .int x5] [] v c K) (g2 : ¬ x1 ≤ x5 → mm_E kL_sum 157 [.ref 0, .int x1, .long jl2, .retAddr 0, .int x4, .int x5] [] v c K) : mm_E kL_sum 151 [.ref 0, .int x1, .long jl2, .retAddr 0, .int x4, .int x5] [] v c K := by
  refine e_run 2 (pc1 := 154) (L1 := [.ref 0, .int x1, .long jl2, .retAddr 0, .int x4, .int x5]) (S1 := [.int x1, .int x5]) (v1 := v) rfl ?_
  exact e_if (p := x1 ≤ x5) rfl g1 g2
theorem bL_sum_157 {x1 : Int32} {jl2 : Int64} {x4 : Int32} {x5 : Int32} {v : mmM} {c : Nat} {K : mmO → mmM → Prop} (hc : c + mm_mc kX5_quantity ≤ mm_mc kL_sum) (g : mm_M kX5_quantity [.ref 0, .int x4, .int x5] v (mm_Kc kL_sum 170 [.ref 0, .int x1, .long jl2, .retAddr 0, .int x4, .int x5] [.long ((Int64.ofNat 31) * jl2)] (c + mm_mc kX5_quantity) K)) : mm_E kL_sum 157 [.ref 0, .int x1, .long jl2, .retAddr 0, .int x4, .int x5] [] v c K := by
  refine e_run 6 (pc1 := 167) (L1 := [.ref 0, .int x1, .long jl2, .retAddr 0, .int x4, .int x5]) (S1 := [.int x5, .int x4, .ref 0, .long ((Int64.ofNat 31) * jl2)]) (v1 := v) rfl ?_
  exact e_cl (j := kX5_quantity) rfl hc g
theorem bL_sum_170 {x1 : Int32} {jl2 : Int64} {x4 : Int32} {x5 : Int32} {js0 : Int64} {y1 : Int32} {v : mmM} {c : Nat} {K : mmO → mmM → Prop} (g : mm_E kL_sum 151 [.ref 0, .int x1, .long (js0 + (y1.toInt64)), .retAddr 0, .int x4, .int (x5 + (1 : Int32))] [] v c K) : mm_E kL_sum 170 [.ref 0, .int x1, .long jl2, .retAddr 0, .int x4, .int x5] [.int y1, .long js0] v c K := by
  refine e_run 5 (pc1 := 151) (L1 := [.ref 0, .int x1, .long (js0 + (y1.toInt64)), .retAddr 0, .int x4, .int (x5 + (1 : Int32))]) (S1 := []) (v1 := v) rfl ?_
  exact g
theorem bL_sum_179 {x1 : Int32} {jl2 : Int64} {x4 : Int32} {x5 : Int32} {v : mmM} {c : Nat} {K : mmO → mmM → Prop} (g : mm_E kL_sum 100 [.ref 0, .int x1, .long jl2, .retAddr 0, .int (x4 + (1 : Int32)), .int x5] [] v c K) : mm_E kL_sum 179 [.ref 0, .int x1, .long jl2, .retAddr 0, .int x4, .int x5] [] v c K := by
  refine e_run 2 (pc1 := 100) (L1 := [.ref 0, .int x1, .long jl2, .retAddr 0, .int (x4 + (1 : Int32)), .int x5]) (S1 := []) (v1 := v) rfl ?_
  exact g
theorem bL_sum_185 {x1 : Int32} {jl2 : Int64} {x4 : Int32} {l5 : Value} {v : mmM} {c : Nat} {K : mmO → mmM → Prop} (g : mm_E kL_sum 188 [.ref 0, .int x1, .long jl2, .retAddr 0, .int (0 : Int32), l5] [] v c K) : mm_E kL_sum 185 [.ref 0, .int x1, .long jl2, .retAddr 0, .int x4, l5] [] v c K := by
  refine e_run 2 (pc1 := 188) (L1 := [.ref 0, .int x1, .long jl2, .retAddr 0, .int (0 : Int32), l5]) (S1 := []) (v1 := v) rfl ?_
  exact g
theorem bL_sum_188 {x1 : Int32} {jl2 : Int64} {x4 : Int32} {l5 : Value} {v : mmM} {c : Nat} {K : mmO → mmM → Prop} (g1 : (40 : Int32) ≤ x4 → mm_E kL_sum 215 [.ref 0, .int x1, .long jl2, .retAddr 0, .int x4, l5] [] v c K) (g2 : ¬ (40 : Int32) ≤ x4 → mm_E kL_sum 195 [.ref 0, .int x1, .long jl2, .retAddr 0, .int x4, l5] [] v c K) : mm_E kL_sum 188 [.ref 0, .int x1, .long jl2, .retAddr 0, .int x4, l5] [] v c K := by
  refine e_run 2 (pc1 := 192) (L1 := [.ref 0, .int x1, .long jl2, .retAddr 0, .int x4, l5]) (S1 := [.int (40 : Int32), .int x4]) (v1 := v) rfl ?_
  exact e_if (p := (40 : Int32) ≤ x4) rfl g1 g2
theorem bL_sum_195 {x1 : Int32} {jl2 : Int64} {x4 : Int32} {l5 : Value} {v : mmM} {c : Nat} {K : mmO → mmM → Prop} (hc : c + mm_mc kL_dueDay ≤ mm_mc kL_sum) (g : mm_M kL_dueDay [.ref 0, .int x4] v (mm_Kc kL_sum 206 [.ref 0, .int x1, .long jl2, .retAddr 0, .int x4, l5] [.long ((Int64.ofNat 31) * jl2)] (c + mm_mc kL_dueDay) K)) : mm_E kL_sum 195 [.ref 0, .int x1, .long jl2, .retAddr 0, .int x4, l5] [] v c K := by
  refine e_run 5 (pc1 := 203) (L1 := [.ref 0, .int x1, .long jl2, .retAddr 0, .int x4, l5]) (S1 := [.int x4, .ref 0, .long ((Int64.ofNat 31) * jl2)]) (v1 := v) rfl ?_
  exact e_cl (j := kL_dueDay) rfl hc g
theorem bL_sum_206 {x1 : Int32} {jl2 : Int64} {x4 : Int32} {l5 : Value} {js0 : Int64} {y1 : Int32} {v : mmM} {c : Nat} {K : mmO → mmM → Prop} (g : mm_E kL_sum 188 [.ref 0, .int x1, .long (js0 + (y1.toInt64)), .retAddr 0, .int (x4 + (1 : Int32)), l5] [] v c K) : mm_E kL_sum 206 [.ref 0, .int x1, .long jl2, .retAddr 0, .int x4, l5] [.int y1, .long js0] v c K := by
  refine e_run 5 (pc1 := 188) (L1 := [.ref 0, .int x1, .long (js0 + (y1.toInt64)), .retAddr 0, .int (x4 + (1 : Int32)), l5]) (S1 := []) (v1 := v) rfl ?_
  exact g
theorem bL_sum_215 {x1 : Int32} {jl2 : Int64} {x4 : Int32} {l5 : Value} {v : mmM} {c : Nat} {K : mmO → mmM → Prop} (g : mm_E kL_sum 218 [.ref 0, .int x1, .long jl2, .retAddr 0, .int (0 : Int32), l5] [] v c K) : mm_E kL_sum 215 [.ref 0, .int x1, .long jl2, .retAddr 0, .int x4, l5] [] v c K := by
  refine e_run 2 (pc1 := 218) (L1 := [.ref 0, .int x1, .long jl2, .retAddr 0, .int (0 : Int32), l5]) (S1 := []) (v1 := v) rfl ?_
  exact g
theorem bL_sum_218 {x1 : Int32} {jl2 : Int64} {x4 : Int32} {l5 : Value} {v : mmM} {c : Nat} {K : mmO → mmM → Prop} (g1 : x1 ≤ x4 → mm_E kL_sum 267 [.ref 0, .int x1, .long jl2, .retAddr 0, .int x4, l5] [] v c K) (g2 : ¬ x1 ≤ x4 → mm_E kL_sum 224 [.ref 0, .int x1, .long jl2, .retAddr 0, .int x4, l5] [] v c K) : mm_E kL_sum 218 [.ref 0, .int x1, .long jl2, .retAddr 0, .int x4, l5] [] v c K := by
  refine e_run 2 (pc1 := 221) (L1 := [.ref 0, .int x1, .long jl2, .retAddr 0, .int x4, l5]) (S1 := [.int x1, .int x4]) (v1 := v) rfl ?_
  exact e_if (p := x1 ≤ x4) rfl g1 g2
theorem bL_sum_224 {x1 : Int32} {jl2 : Int64} {x4 : Int32} {l5 : Value} {v : mmM} {c : Nat} {K : mmO → mmM → Prop} (hc : c + mm_mc kX5_day ≤ mm_mc kL_sum) (g : mm_M kX5_day [.ref 0] v (mm_Kc kL_sum 236 [.ref 0, .int x1, .long jl2, .retAddr 0, .int x4, l5] [.int x4, .ref 0, .long ((Int64.ofNat 31) * jl2)] (c + mm_mc kX5_day) K)) : mm_E kL_sum 224 [.ref 0, .int x1, .long jl2, .retAddr 0, .int x4, l5] [] v c K := by
  refine e_run 6 (pc1 := 233) (L1 := [.ref 0, .int x1, .long jl2, .retAddr 0, .int x4, l5]) (S1 := [.ref 0, .int x4, .ref 0, .long ((Int64.ofNat 31) * jl2)]) (v1 := v) rfl ?_
  exact e_cl (j := kX5_day) rfl hc g
theorem bL_sum_236 {x1 : Int32} {jl2 : Int64} {x4 : Int32} {l5 : Value} {js0 : Int64} {y2 : Int32} {y3 : Int32} {v : mmM} {c : Nat} {K : mmO → mmM → Prop} (hc : c + mm_mc kL_free ≤ mm_mc kL_sum) (g : mm_M kL_free [.ref 0, .int y2, .int (y3 + (3 : Int32)), .int (0 : Int32)] v (mm_Kc kL_sum 242 [.ref 0, .int x1, .long jl2, .retAddr 0, .int x4, l5] [.long js0] (c + mm_mc kL_free) K)) : mm_E kL_sum 236 [.ref 0, .int x1, .long jl2, .retAddr 0, .int x4, l5] [.int y3, .int y2, .ref 0, .long js0] v c K := by
  refine e_run 3 (pc1 := 239) (L1 := [.ref 0, .int x1, .long jl2, .retAddr 0, .int x4, l5]) (S1 := [.int (0 : Int32), .int (y3 + (3 : Int32)), .int y2, .ref 0, .long js0]) (v1 := v) rfl ?_
  exact e_cl (j := kL_free) rfl hc g
theorem bL_sum_242 {x1 : Int32} {jl2 : Int64} {x4 : Int32} {l5 : Value} {js0 : Int64} {y1 : Int32} {v : mmM} {c : Nat} {K : mmO → mmM → Prop} (hc : c + mm_mc kX5_day ≤ mm_mc kL_sum) (g : mm_M kX5_day [.ref 0] v (mm_Kc kL_sum 254 [.ref 0, .int x1, .long jl2, .retAddr 0, .int x4, l5] [.int x4, .ref 0, .long (Int64.ofNat 3), .long (js0 + (y1.toInt64))] (c + mm_mc kX5_day) K)) : mm_E kL_sum 242 [.ref 0, .int x1, .long jl2, .retAddr 0, .int x4, l5] [.int y1, .long js0] v c K := by
  refine e_run 6 (pc1 := 251) (L1 := [.ref 0, .int x1, .long jl2, .retAddr 0, .int x4, l5]) (S1 := [.ref 0, .int x4, .ref 0, .long (Int64.ofNat 3), .long (js0 + (y1.toInt64))]) (v1 := v) rfl ?_
  exact e_cl (j := kX5_day) rfl hc g
theorem bL_sum_254 {x1 : Int32} {jl2 : Int64} {x4 : Int32} {l5 : Value} {js0 : Int64} {js1 : Int64} {y3 : Int32} {y4 : Int32} {v : mmM} {c : Nat} {K : mmO → mmM → Prop} (hc : c + mm_mc kL_first ≤ mm_mc kL_sum) (g : mm_M kL_first [.ref 0, .int y3, .int y4] v (mm_Kc kL_sum 257 [.ref 0, .int x1, .long jl2, .retAddr 0, .int x4, l5] [.long js1, .long js0] (c + mm_mc kL_first) K)) : mm_E kL_sum 254 [.ref 0, .int x1, .long jl2, .retAddr 0, .int x4, l5] [.int y4, .int y3, .ref 0, .long js1, .long js0] v c K := by
  exact e_cl (j := kL_first) rfl hc g
theorem bL_sum_257 {x1 : Int32} {jl2 : Int64} {x4 : Int32} {l5 : Value} {js0 : Int64} {js1 : Int64} {y2 : Int32} {v : mmM} {c : Nat} {K : mmO → mmM → Prop} (g : mm_E kL_sum 218 [.ref 0, .int x1, .long (js0 + (js1 * (y2.toInt64))), .retAddr 0, .int (x4 + (1 : Int32)), l5] [] v c K) : mm_E kL_sum 257 [.ref 0, .int x1, .long jl2, .retAddr 0, .int x4, l5] [.int y2, .long js1, .long js0] v c K := by
  refine e_run 6 (pc1 := 218) (L1 := [.ref 0, .int x1, .long (js0 + (js1 * (y2.toInt64))), .retAddr 0, .int (x4 + (1 : Int32)), l5]) (S1 := []) (v1 := v) rfl ?_
  exact g
theorem bL_sum_267 {x1 : Int32} {jl2 : Int64} {x4 : Int32} {l5 : Value} {v : mmM} {c : Nat} {K : mmO → mmM → Prop} (g : K (.inl (some (.long jl2))) v) : mm_E kL_sum 267 [.ref 0, .int x1, .long jl2, .retAddr 0, .int x4, l5] [] v c K := by
  refine e_run 1 (pc1 := 268) (L1 := [.ref 0, .int x1, .long jl2, .retAddr 0, .int x4, l5]) (S1 := [.long jl2]) (v1 := v) rfl ?_
  exact e_rt rfl g
