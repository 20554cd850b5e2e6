-- block rules, by program (wip/whole/blocks.py)
theorem bL_addItem_0 {x1 : Int32} {l3 : Value} {v : mmM} {c : Nat} {K : mmO → mmM → Prop} (hc : c + mm_mc kX5_addItem ≤ mm_mc kL_addItem) (g : mm_M kX5_addItem [.ref 0, .int x1] v (mm_Kc kL_addItem 7 [.ref 0, .int x1, .ref 242, l3] [.int (0 : Int32), .ref 242] (c + mm_mc kX5_addItem) K)) : mm_E kL_addItem 0 [.ref 0, .int x1, .ref 242, l3] [] v c K := by
  refine e_run 4 (pc1 := 4) (L1 := [.ref 0, .int x1, .ref 242, l3]) (S1 := [.int x1, .ref 0, .int (0 : Int32), .ref 242]) (v1 := v) rfl ?_
  exact e_cl (j := kX5_addItem) rfl hc g
theorem bL_addItem_7 {x1 : Int32} {l3 : Value} {y1 : Int32} {y2 : Int32} {v : mmM} {c : Nat} {K : mmO → mmM → Prop} (h1 : mm_in y1 1 = true) (g : mm_E kL_addItem 18 [.ref 0, .int x1, .ref 242, l3] [] (mm_up v 242 y1.toNatClampNeg y2) c K) : mm_E kL_addItem 7 [.ref 0, .int x1, .ref 242, l3] [.int y2, .int y1, .ref 242] v c K := by
  refine e_run 1 (pc1 := 8) (L1 := [.ref 0, .int x1, .ref 242, l3]) (S1 := [.long (y2).toInt64, .int y1, .ref 242]) (v1 := v) rfl ?_
  refine e_last rfl rfl (by decide) h1 ?_
  refine e_run 1 (pc1 := 18) (L1 := [.ref 0, .int x1, .ref 242, l3]) (S1 := []) (v1 := mm_up v 242 y1.toNatClampNeg y2) rfl ?_
  exact g
theorem bL_addItem_18 {x1 : Int32} {l3 : Value} {v : mmM} {c : Nat} {K : mmO → mmM → Prop} (g : K (.inl (some (.int (0 : Int32)))) v) : mm_E kL_addItem 18 [.ref 0, .int x1, .ref 242, l3] [] v c K := by
  refine e_run 1 (pc1 := 19) (L1 := [.ref 0, .int x1, .ref 242, l3]) (S1 := [.int (0 : Int32)]) (v1 := v) rfl ?_
  exact e_iret (ty := .int) rfl rfl rfl g
theorem bL_addSubstitute_0 {x1 : Int32} {x2 : Int32} {x3 : Int32} {l5 : Value} {v : mmM} {c : Nat} {K : mmO → mmM → Prop} (hc : c + mm_mc kX5_addSubstitute ≤ mm_mc kL_addSubstitute) (g : mm_M kX5_addSubstitute [.ref 0, .int x1, .int x2, .int x3] v (mm_Kc kL_addSubstitute 10 [.ref 0, .int x1, .int x2, .int x3, .ref 242, l5] [.int (0 : Int32), .ref 242] (c + mm_mc kX5_addSubstitute) K)) : mm_E kL_addSubstitute 0 [.ref 0, .int x1, .int x2, .int x3, .ref 242, l5] [] v c K := by
  refine e_run 6 (pc1 := 7) (L1 := [.ref 0, .int x1, .int x2, .int x3, .ref 242, l5]) (S1 := [.int x3, .int x2, .int x1, .ref 0, .int (0 : Int32), .ref 242]) (v1 := v) rfl ?_
  exact e_cl (j := kX5_addSubstitute) rfl hc g
theorem bL_addSubstitute_10 {x1 : Int32} {x2 : Int32} {x3 : Int32} {l5 : Value} {y1 : Int32} {y2 : Int32} {v : mmM} {c : Nat} {K : mmO → mmM → Prop} (h1 : mm_in y1 1 = true) (g : mm_E kL_addSubstitute 31 [.ref 0, .int x1, .int x2, .int x3, .ref 242, l5] [] (mm_up v 242 y1.toNatClampNeg y2) c K) : mm_E kL_addSubstitute 10 [.ref 0, .int x1, .int x2, .int x3, .ref 242, l5] [.int y2, .int y1, .ref 242] v c K := by
  refine e_run 1 (pc1 := 11) (L1 := [.ref 0, .int x1, .int x2, .int x3, .ref 242, l5]) (S1 := [.long (y2).toInt64, .int y1, .ref 242]) (v1 := v) rfl ?_
  refine e_last rfl rfl (by decide) h1 ?_
  refine e_run 1 (pc1 := 31) (L1 := [.ref 0, .int x1, .int x2, .int x3, .ref 242, l5]) (S1 := []) (v1 := mm_up v 242 y1.toNatClampNeg y2) rfl ?_
  exact g
theorem bL_addSubstitute_31 {x1 : Int32} {x2 : Int32} {x3 : Int32} {l5 : Value} {v : mmM} {c : Nat} {K : mmO → mmM → Prop} (g : K (.inl (some (.int (0 : Int32)))) v) : mm_E kL_addSubstitute 31 [.ref 0, .int x1, .int x2, .int x3, .ref 242, l5] [] v c K := by
  refine e_run 1 (pc1 := 32) (L1 := [.ref 0, .int x1, .int x2, .int x3, .ref 242, l5]) (S1 := [.int (0 : Int32)]) (v1 := v) rfl ?_
  exact e_iret (ty := .int) rfl rfl rfl g
theorem bL_receive_0 {x1 : Int32} {x2 : Int32} {x3 : Int32} {x4 : Int32} {l6 : Value} {v : mmM} {c : Nat} {K : mmO → mmM → Prop} (hc : c + mm_mc kX5_receive ≤ mm_mc kL_receive) (g : mm_M kX5_receive [.ref 0, .int x1, .int x2, .int x3, .int x4] v (mm_Kc kL_receive 12 [.ref 0, .int x1, .int x2, .int x3, .int x4, .ref 242, l6] [.int (0 : Int32), .ref 242] (c + mm_mc kX5_receive) K)) : mm_E kL_receive 0 [.ref 0, .int x1, .int x2, .int x3, .int x4, .ref 242, l6] [] v c K := by
  refine e_run 7 (pc1 := 9) (L1 := [.ref 0, .int x1, .int x2, .int x3, .int x4, .ref 242, l6]) (S1 := [.int x4, .int x3, .int x2, .int x1, .ref 0, .int (0 : Int32), .ref 242]) (v1 := v) rfl ?_
  exact e_cl (j := kX5_receive) rfl hc g
theorem bL_receive_12 {x1 : Int32} {x2 : Int32} {x3 : Int32} {x4 : Int32} {l6 : Value} {y1 : Int32} {y2 : Int32} {v : mmM} {c : Nat} {K : mmO → mmM → Prop} (h1 : mm_in y1 1 = true) (g : mm_E kL_receive 33 [.ref 0, .int x1, .int x2, .int x3, .int x4, .ref 242, l6] [] (mm_up v 242 y1.toNatClampNeg y2) c K) : mm_E kL_receive 12 [.ref 0, .int x1, .int x2, .int x3, .int x4, .ref 242, l6] [.int y2, .int y1, .ref 242] v c K := by
  refine e_run 1 (pc1 := 13) (L1 := [.ref 0, .int x1, .int x2, .int x3, .int x4, .ref 242, l6]) (S1 := [.long (y2).toInt64, .int y1, .ref 242]) (v1 := v) rfl ?_
  refine e_last rfl rfl (by decide) h1 ?_
  refine e_run 1 (pc1 := 33) (L1 := [.ref 0, .int x1, .int x2, .int x3, .int x4, .ref 242, l6]) (S1 := []) (v1 := mm_up v 242 y1.toNatClampNeg y2) rfl ?_
  exact g
theorem bL_receive_33 {x1 : Int32} {x2 : Int32} {x3 : Int32} {x4 : Int32} {l6 : Value} {v : mmM} {c : Nat} {K : mmO → mmM → Prop} (g : K (.inl (some (.int (0 : Int32)))) v) : mm_E kL_receive 33 [.ref 0, .int x1, .int x2, .int x3, .int x4, .ref 242, l6] [] v c K := by
  refine e_run 1 (pc1 := 34) (L1 := [.ref 0, .int x1, .int x2, .int x3, .int x4, .ref 242, l6]) (S1 := [.int (0 : Int32)]) (v1 := v) rfl ?_
  exact e_iret (ty := .int) rfl rfl rfl g
theorem bL_move_0 {x1 : Int32} {x2 : Int32} {x3 : Int32} {x4 : Int32} {l6 : Value} {v : mmM} {c : Nat} {K : mmO → mmM → Prop} (hc : c + mm_mc kX5_move ≤ mm_mc kL_move) (g : mm_M kX5_move [.ref 0, .int x1, .int x2, .int x3, .int x4] v (mm_Kc kL_move 12 [.ref 0, .int x1, .int x2, .int x3, .int x4, .ref 242, l6] [.int (0 : Int32), .ref 242] (c + mm_mc kX5_move) K)) : mm_E kL_move 0 [.ref 0, .int x1, .int x2, .int x3, .int x4, .ref 242, l6] [] v c K := by
  refine e_run 7 (pc1 := 9) (L1 := [.ref 0, .int x1, .int x2, .int x3, .int x4, .ref 242, l6]) (S1 := [.int x4, .int x3, .int x2, .int x1, .ref 0, .int (0 : Int32), .ref 242]) (v1 := v) rfl ?_
  exact e_cl (j := kX5_move) rfl hc g
theorem bL_move_12 {x1 : Int32} {x2 : Int32} {x3 : Int32} {x4 : Int32} {l6 : Value} {y1 : Int32} {y2 : Int32} {v : mmM} {c : Nat} {K : mmO → mmM → Prop} (h1 : mm_in y1 1 = true) (g : mm_E kL_move 37 [.ref 0, .int x1, .int x2, .int x3, .int x4, .ref 242, l6] [] (mm_up v 242 y1.toNatClampNeg y2) c K) : mm_E kL_move 12 [.ref 0, .int x1, .int x2, .int x3, .int x4, .ref 242, l6] [.int y2, .int y1, .ref 242] v c K := by
  refine e_run 1 (pc1 := 13) (L1 := [.ref 0, .int x1, .int x2, .int x3, .int x4, .ref 242, l6]) (S1 := [.long (y2).toInt64, .int y1, .ref 242]) (v1 := v) rfl ?_
  refine e_last rfl rfl (by decide) h1 ?_
  refine e_run 1 (pc1 := 37) (L1 := [.ref 0, .int x1, .int x2, .int x3, .int x4, .ref 242, l6]) (S1 := []) (v1 := mm_up v 242 y1.toNatClampNeg y2) rfl ?_
  exact g
theorem bL_move_37 {x1 : Int32} {x2 : Int32} {x3 : Int32} {x4 : Int32} {l6 : Value} {v : mmM} {c : Nat} {K : mmO → mmM → Prop} (g : K (.inl (some (.int (0 : Int32)))) v) : mm_E kL_move 37 [.ref 0, .int x1, .int x2, .int x3, .int x4, .ref 242, l6] [] v c K := by
  refine e_run 1 (pc1 := 38) (L1 := [.ref 0, .int x1, .int x2, .int x3, .int x4, .ref 242, l6]) (S1 := [.int (0 : Int32)]) (v1 := v) rfl ?_
  exact e_iret (ty := .int) rfl rfl rfl g
theorem bL_dispose_0 {x1 : Int32} {l3 : Value} {v : mmM} {c : Nat} {K : mmO → mmM → Prop} (hc : c + mm_mc kX5_dispose ≤ mm_mc kL_dispose) (g : mm_M kX5_dispose [.ref 0, .int x1] v (mm_Kc kL_dispose 7 [.ref 0, .int x1, .ref 242, l3] [.int (0 : Int32), .ref 242] (c + mm_mc kX5_dispose) K)) : mm_E kL_dispose 0 [.ref 0, .int x1, .ref 242, l3] [] v c K := by
  refine e_run 4 (pc1 := 4) (L1 := [.ref 0, .int x1, .ref 242, l3]) (S1 := [.int x1, .ref 0, .int (0 : Int32), .ref 242]) (v1 := v) rfl ?_
  exact e_cl (j := kX5_dispose) rfl hc g
theorem bL_dispose_7 {x1 : Int32} {l3 : Value} {y1 : Int32} {y2 : Int32} {v : mmM} {c : Nat} {K : mmO → mmM → Prop} (h1 : mm_in y1 1 = true) (g : mm_E kL_dispose 24 [.ref 0, .int x1, .ref 242, l3] [] (mm_up v 242 y1.toNatClampNeg y2) c K) : mm_E kL_dispose 7 [.ref 0, .int x1, .ref 242, l3] [.int y2, .int y1, .ref 242] v c K := by
  refine e_run 1 (pc1 := 8) (L1 := [.ref 0, .int x1, .ref 242, l3]) (S1 := [.long (y2).toInt64, .int y1, .ref 242]) (v1 := v) rfl ?_
  refine e_last rfl rfl (by decide) h1 ?_
  refine e_run 1 (pc1 := 24) (L1 := [.ref 0, .int x1, .ref 242, l3]) (S1 := []) (v1 := mm_up v 242 y1.toNatClampNeg y2) rfl ?_
  exact g
theorem bL_dispose_24 {x1 : Int32} {l3 : Value} {v : mmM} {c : Nat} {K : mmO → mmM → Prop} (g : K (.inl (some (.int (0 : Int32)))) v) : mm_E kL_dispose 24 [.ref 0, .int x1, .ref 242, l3] [] v c K := by
  refine e_run 1 (pc1 := 25) (L1 := [.ref 0, .int x1, .ref 242, l3]) (S1 := [.int (0 : Int32)]) (v1 := v) rfl ?_
  exact e_iret (ty := .int) rfl rfl rfl g
theorem bL_count_0 {x1 : Int32} {x2 : Int32} {x3 : Int32} {l5 : Value} {v : mmM} {c : Nat} {K : mmO → mmM → Prop} (hc : c + mm_mc kX5_count ≤ mm_mc kL_count) (g : mm_M kX5_count [.ref 0, .int x1, .int x2, .int x3] v (mm_Kc kL_count 10 [.ref 0, .int x1, .int x2, .int x3, .ref 242, l5] [.int (0 : Int32), .ref 242] (c + mm_mc kX5_count) K)) : mm_E kL_count 0 [.ref 0, .int x1, .int x2, .int x3, .ref 242, l5] [] v c K := by
  refine e_run 6 (pc1 := 7) (L1 := [.ref 0, .int x1, .int x2, .int x3, .ref 242, l5]) (S1 := [.int x3, .int x2, .int x1, .ref 0, .int (0 : Int32), .ref 242]) (v1 := v) rfl ?_
  exact e_cl (j := kX5_count) rfl hc g
theorem bL_count_10 {x1 : Int32} {x2 : Int32} {x3 : Int32} {l5 : Value} {y1 : Int32} {y2 : Int32} {v : mmM} {c : Nat} {K : mmO → mmM → Prop} (h1 : mm_in y1 1 = true) (g : mm_E kL_count 31 [.ref 0, .int x1, .int x2, .int x3, .ref 242, l5] [] (mm_up v 242 y1.toNatClampNeg y2) c K) : mm_E kL_count 10 [.ref 0, .int x1, .int x2, .int x3, .ref 242, l5] [.int y2, .int y1, .ref 242] v c K := by
  refine e_run 1 (pc1 := 11) (L1 := [.ref 0, .int x1, .int x2, .int x3, .ref 242, l5]) (S1 := [.long (y2).toInt64, .int y1, .ref 242]) (v1 := v) rfl ?_
  refine e_last rfl rfl (by decide) h1 ?_
  refine e_run 1 (pc1 := 31) (L1 := [.ref 0, .int x1, .int x2, .int x3, .ref 242, l5]) (S1 := []) (v1 := mm_up v 242 y1.toNatClampNeg y2) rfl ?_
  exact g
theorem bL_count_31 {x1 : Int32} {x2 : Int32} {x3 : Int32} {l5 : Value} {v : mmM} {c : Nat} {K : mmO → mmM → Prop} (g : K (.inl (some (.int (0 : Int32)))) v) : mm_E kL_count 31 [.ref 0, .int x1, .int x2, .int x3, .ref 242, l5] [] v c K := by
  refine e_run 1 (pc1 := 32) (L1 := [.ref 0, .int x1, .int x2, .int x3, .ref 242, l5]) (S1 := [.int (0 : Int32)]) (v1 := v) rfl ?_
  exact e_iret (ty := .int) rfl rfl rfl g
theorem bL_promise_0 {x1 : Int32} {x2 : Int32} {x3 : Int32} {x4 : Int32} {l6 : Value} {v : mmM} {c : Nat} {K : mmO → mmM → Prop} (hc : c + mm_mc kX5_promise ≤ mm_mc kL_promise) (g : mm_M kX5_promise [.ref 0, .int x1, .int x2, .int x3, .int x4] v (mm_Kc kL_promise 12 [.ref 0, .int x1, .int x2, .int x3, .int x4, .ref 242, l6] [.int (0 : Int32), .ref 242] (c + mm_mc kX5_promise) K)) : mm_E kL_promise 0 [.ref 0, .int x1, .int x2, .int x3, .int x4, .ref 242, l6] [] v c K := by
  refine e_run 7 (pc1 := 9) (L1 := [.ref 0, .int x1, .int x2, .int x3, .int x4, .ref 242, l6]) (S1 := [.int x4, .int x3, .int x2, .int x1, .ref 0, .int (0 : Int32), .ref 242]) (v1 := v) rfl ?_
  exact e_cl (j := kX5_promise) rfl hc g
theorem bL_promise_12 {x1 : Int32} {x2 : Int32} {x3 : Int32} {x4 : Int32} {l6 : Value} {y1 : Int32} {y2 : Int32} {v : mmM} {c : Nat} {K : mmO → mmM → Prop} (h1 : mm_in y1 1 = true) (g : mm_E kL_promise 33 [.ref 0, .int x1, .int x2, .int x3, .int x4, .ref 242, l6] [] (mm_up v 242 y1.toNatClampNeg y2) c K) : mm_E kL_promise 12 [.ref 0, .int x1, .int x2, .int x3, .int x4, .ref 242, l6] [.int y2, .int y1, .ref 242] v c K := by
  refine e_run 1 (pc1 := 13) (L1 := [.ref 0, .int x1, .int x2, .int x3, .int x4, .ref 242, l6]) (S1 := [.long (y2).toInt64, .int y1, .ref 242]) (v1 := v) rfl ?_
  refine e_last rfl rfl (by decide) h1 ?_
  refine e_run 1 (pc1 := 33) (L1 := [.ref 0, .int x1, .int x2, .int x3, .int x4, .ref 242, l6]) (S1 := []) (v1 := mm_up v 242 y1.toNatClampNeg y2) rfl ?_
  exact g
theorem bL_promise_33 {x1 : Int32} {x2 : Int32} {x3 : Int32} {x4 : Int32} {l6 : Value} {v : mmM} {c : Nat} {K : mmO → mmM → Prop} (g : K (.inl (some (.int (0 : Int32)))) v) : mm_E kL_promise 33 [.ref 0, .int x1, .int x2, .int x3, .int x4, .ref 242, l6] [] v c K := by
  refine e_run 1 (pc1 := 34) (L1 := [.ref 0, .int x1, .int x2, .int x3, .int x4, .ref 242, l6]) (S1 := [.int (0 : Int32)]) (v1 := v) rfl ?_
  exact e_iret (ty := .int) rfl rfl rfl g
theorem bL_cancel_0 {x1 : Int32} {l3 : Value} {v : mmM} {c : Nat} {K : mmO → mmM → Prop} (hc : c + mm_mc kX5_cancel ≤ mm_mc kL_cancel) (g : mm_M kX5_cancel [.ref 0, .int x1] v (mm_Kc kL_cancel 7 [.ref 0, .int x1, .ref 242, l3] [.int (0 : Int32), .ref 242] (c + mm_mc kX5_cancel) K)) : mm_E kL_cancel 0 [.ref 0, .int x1, .ref 242, l3] [] v c K := by
  refine e_run 4 (pc1 := 4) (L1 := [.ref 0, .int x1, .ref 242, l3]) (S1 := [.int x1, .ref 0, .int (0 : Int32), .ref 242]) (v1 := v) rfl ?_
  exact e_cl (j := kX5_cancel) rfl hc g
theorem bL_cancel_7 {x1 : Int32} {l3 : Value} {y1 : Int32} {y2 : Int32} {v : mmM} {c : Nat} {K : mmO → mmM → Prop} (h1 : mm_in y1 1 = true) (g : mm_E kL_cancel 18 [.ref 0, .int x1, .ref 242, l3] [] (mm_up v 242 y1.toNatClampNeg y2) c K) : mm_E kL_cancel 7 [.ref 0, .int x1, .ref 242, l3] [.int y2, .int y1, .ref 242] v c K := by
  refine e_run 1 (pc1 := 8) (L1 := [.ref 0, .int x1, .ref 242, l3]) (S1 := [.long (y2).toInt64, .int y1, .ref 242]) (v1 := v) rfl ?_
  refine e_last rfl rfl (by decide) h1 ?_
  refine e_run 1 (pc1 := 18) (L1 := [.ref 0, .int x1, .ref 242, l3]) (S1 := []) (v1 := mm_up v 242 y1.toNatClampNeg y2) rfl ?_
  exact g
theorem bL_cancel_18 {x1 : Int32} {l3 : Value} {v : mmM} {c : Nat} {K : mmO → mmM → Prop} (g : K (.inl (some (.int (0 : Int32)))) v) : mm_E kL_cancel 18 [.ref 0, .int x1, .ref 242, l3] [] v c K := by
  refine e_run 1 (pc1 := 19) (L1 := [.ref 0, .int x1, .ref 242, l3]) (S1 := [.int (0 : Int32)]) (v1 := v) rfl ?_
  exact e_iret (ty := .int) rfl rfl rfl g
theorem bL_pick_0 {x1 : Int32} {l3 : Value} {v : mmM} {c : Nat} {K : mmO → mmM → Prop} (hc : c + mm_mc kX5_pick ≤ mm_mc kL_pick) (g : mm_M kX5_pick [.ref 0, .int x1] v (mm_Kc kL_pick 7 [.ref 0, .int x1, .ref 242, l3] [.int (0 : Int32), .ref 242] (c + mm_mc kX5_pick) K)) : mm_E kL_pick 0 [.ref 0, .int x1, .ref 242, l3] [] v c K := by
  refine e_run 4 (pc1 := 4) (L1 := [.ref 0, .int x1, .ref 242, l3]) (S1 := [.int x1, .ref 0, .int (0 : Int32), .ref 242]) (v1 := v) rfl ?_
  exact e_cl (j := kX5_pick) rfl hc g
theorem bL_pick_7 {x1 : Int32} {l3 : Value} {y1 : Int32} {y2 : Int32} {v : mmM} {c : Nat} {K : mmO → mmM → Prop} (h1 : mm_in y1 1 = true) (g : mm_E kL_pick 18 [.ref 0, .int x1, .ref 242, l3] [] (mm_up v 242 y1.toNatClampNeg y2) c K) : mm_E kL_pick 7 [.ref 0, .int x1, .ref 242, l3] [.int y2, .int y1, .ref 242] v c K := by
  refine e_run 1 (pc1 := 8) (L1 := [.ref 0, .int x1, .ref 242, l3]) (S1 := [.long (y2).toInt64, .int y1, .ref 242]) (v1 := v) rfl ?_
  refine e_last rfl rfl (by decide) h1 ?_
  refine e_run 1 (pc1 := 18) (L1 := [.ref 0, .int x1, .ref 242, l3]) (S1 := []) (v1 := mm_up v 242 y1.toNatClampNeg y2) rfl ?_
  exact g
theorem bL_pick_18 {x1 : Int32} {l3 : Value} {v : mmM} {c : Nat} {K : mmO → mmM → Prop} (g : K (.inl (some (.int (0 : Int32)))) v) : mm_E kL_pick 18 [.ref 0, .int x1, .ref 242, l3] [] v c K := by
  refine e_run 1 (pc1 := 19) (L1 := [.ref 0, .int x1, .ref 242, l3]) (S1 := [.int (0 : Int32)]) (v1 := v) rfl ?_
  exact e_iret (ty := .int) rfl rfl rfl g
theorem bL_status_0 {x1 : Int32} {l3 : Value} {v : mmM} {c : Nat} {K : mmO → mmM → Prop} (hc : c + mm_mc kX5_status ≤ mm_mc kL_status) (g : mm_M kX5_status [.ref 0, .int x1] v (mm_Kc kL_status 7 [.ref 0, .int x1, .ref 242, l3] [.int (0 : Int32), .ref 242] (c + mm_mc kX5_status) K)) : mm_E kL_status 0 [.ref 0, .int x1, .ref 242, l3] [] v c K := by
  refine e_run 4 (pc1 := 4) (L1 := [.ref 0, .int x1, .ref 242, l3]) (S1 := [.int x1, .ref 0, .int (0 : Int32), .ref 242]) (v1 := v) rfl ?_
  exact e_cl (j := kX5_status) rfl hc g
theorem bL_status_7 {x1 : Int32} {l3 : Value} {y1 : Int32} {y2 : Int32} {v : mmM} {c : Nat} {K : mmO → mmM → Prop} (h1 : mm_in y1 1 = true) (g : mm_E kL_status 15 [.ref 0, .int x1, .ref 242, l3] [] (mm_up v 242 y1.toNatClampNeg y2) c K) : mm_E kL_status 7 [.ref 0, .int x1, .ref 242, l3] [.int y2, .int y1, .ref 242] v c K := by
  refine e_run 1 (pc1 := 8) (L1 := [.ref 0, .int x1, .ref 242, l3]) (S1 := [.long (y2).toInt64, .int y1, .ref 242]) (v1 := v) rfl ?_
  refine e_last rfl rfl (by decide) h1 ?_
  refine e_run 1 (pc1 := 15) (L1 := [.ref 0, .int x1, .ref 242, l3]) (S1 := []) (v1 := mm_up v 242 y1.toNatClampNeg y2) rfl ?_
  exact g
theorem bL_status_15 {x1 : Int32} {l3 : Value} {v : mmM} {c : Nat} {K : mmO → mmM → Prop} (g : K (.inl (some (.int (0 : Int32)))) v) : mm_E kL_status 15 [.ref 0, .int x1, .ref 242, l3] [] v c K := by
  refine e_run 1 (pc1 := 16) (L1 := [.ref 0, .int x1, .ref 242, l3]) (S1 := [.int (0 : Int32)]) (v1 := v) rfl ?_
  exact e_iret (ty := .int) rfl rfl rfl g
theorem bL_quantity_0 {x1 : Int32} {x2 : Int32} {l4 : Value} {v : mmM} {c : Nat} {K : mmO → mmM → Prop} (hc : c + mm_mc kX5_quantity ≤ mm_mc kL_quantity) (g : mm_M kX5_quantity [.ref 0, .int x1, .int x2] v (mm_Kc kL_quantity 8 [.ref 0, .int x1, .int x2, .ref 242, l4] [.int (0 : Int32), .ref 242] (c + mm_mc kX5_quantity) K)) : mm_E kL_quantity 0 [.ref 0, .int x1, .int x2, .ref 242, l4] [] v c K := by
  refine e_run 5 (pc1 := 5) (L1 := [.ref 0, .int x1, .int x2, .ref 242, l4]) (S1 := [.int x2, .int x1, .ref 0, .int (0 : Int32), .ref 242]) (v1 := v) rfl ?_
  exact e_cl (j := kX5_quantity) rfl hc g
theorem bL_quantity_8 {x1 : Int32} {x2 : Int32} {l4 : Value} {y1 : Int32} {y2 : Int32} {v : mmM} {c : Nat} {K : mmO → mmM → Prop} (h1 : mm_in y1 1 = true) (g : mm_E kL_quantity 17 [.ref 0, .int x1, .int x2, .ref 242, l4] [] (mm_up v 242 y1.toNatClampNeg y2) c K) : mm_E kL_quantity 8 [.ref 0, .int x1, .int x2, .ref 242, l4] [.int y2, .int y1, .ref 242] v c K := by
  refine e_run 1 (pc1 := 9) (L1 := [.ref 0, .int x1, .int x2, .ref 242, l4]) (S1 := [.long (y2).toInt64, .int y1, .ref 242]) (v1 := v) rfl ?_
  refine e_last rfl rfl (by decide) h1 ?_
  refine e_run 1 (pc1 := 17) (L1 := [.ref 0, .int x1, .int x2, .ref 242, l4]) (S1 := []) (v1 := mm_up v 242 y1.toNatClampNeg y2) rfl ?_
  exact g
theorem bL_quantity_17 {x1 : Int32} {x2 : Int32} {l4 : Value} {v : mmM} {c : Nat} {K : mmO → mmM → Prop} (g : K (.inl (some (.int (0 : Int32)))) v) : mm_E kL_quantity 17 [.ref 0, .int x1, .int x2, .ref 242, l4] [] v c K := by
  refine e_run 1 (pc1 := 18) (L1 := [.ref 0, .int x1, .int x2, .ref 242, l4]) (S1 := [.int (0 : Int32)]) (v1 := v) rfl ?_
  exact e_iret (ty := .int) rfl rfl rfl g
theorem bL_available_0 {x1 : Int32} {x2 : Int32} {l4 : Value} {v : mmM} {c : Nat} {K : mmO → mmM → Prop} (hc : c + mm_mc kX5_available ≤ mm_mc kL_available) (g : mm_M kX5_available [.ref 0, .int x1, .int x2] v (mm_Kc kL_available 8 [.ref 0, .int x1, .int x2, .ref 242, l4] [.int (0 : Int32), .ref 242] (c + mm_mc kX5_available) K)) : mm_E kL_available 0 [.ref 0, .int x1, .int x2, .ref 242, l4] [] v c K := by
  refine e_run 5 (pc1 := 5) (L1 := [.ref 0, .int x1, .int x2, .ref 242, l4]) (S1 := [.int x2, .int x1, .ref 0, .int (0 : Int32), .ref 242]) (v1 := v) rfl ?_
  exact e_cl (j := kX5_available) rfl hc g
theorem bL_available_8 {x1 : Int32} {x2 : Int32} {l4 : Value} {y1 : Int32} {y2 : Int32} {v : mmM} {c : Nat} {K : mmO → mmM → Prop} (h1 : mm_in y1 1 = true) (g : mm_E kL_available 21 [.ref 0, .int x1, .int x2, .ref 242, l4] [] (mm_up v 242 y1.toNatClampNeg y2) c K) : mm_E kL_available 8 [.ref 0, .int x1, .int x2, .ref 242, l4] [.int y2, .int y1, .ref 242] v c K := by
  refine e_run 1 (pc1 := 9) (L1 := [.ref 0, .int x1, .int x2, .ref 242, l4]) (S1 := [.long (y2).toInt64, .int y1, .ref 242]) (v1 := v) rfl ?_
  refine e_last rfl rfl (by decide) h1 ?_
  refine e_run 1 (pc1 := 21) (L1 := [.ref 0, .int x1, .int x2, .ref 242, l4]) (S1 := []) (v1 := mm_up v 242 y1.toNatClampNeg y2) rfl ?_
  exact g
theorem bL_available_21 {x1 : Int32} {x2 : Int32} {l4 : Value} {v : mmM} {c : Nat} {K : mmO → mmM → Prop} (g : K (.inl (some (.int (0 : Int32)))) v) : mm_E kL_available 21 [.ref 0, .int x1, .int x2, .ref 242, l4] [] v c K := by
  refine e_run 1 (pc1 := 22) (L1 := [.ref 0, .int x1, .int x2, .ref 242, l4]) (S1 := [.int (0 : Int32)]) (v1 := v) rfl ?_
  exact e_iret (ty := .int) rfl rfl rfl g
theorem bL_availableByTrying_0 {x1 : Int32} {x2 : Int32} {l4 : Value} {v : mmM} {c : Nat} {K : mmO → mmM → Prop} (hc : c + mm_mc kX5_availableByTrying ≤ mm_mc kL_availableByTrying) (g : mm_M kX5_availableByTrying [.ref 0, .int x1, .int x2] v (mm_Kc kL_availableByTrying 8 [.ref 0, .int x1, .int x2, .ref 242, l4] [.int (0 : Int32), .ref 242] (c + mm_mc kX5_availableByTrying) K)) : mm_E kL_availableByTrying 0 [.ref 0, .int x1, .int x2, .ref 242, l4] [] v c K := by
  refine e_run 5 (pc1 := 5) (L1 := [.ref 0, .int x1, .int x2, .ref 242, l4]) (S1 := [.int x2, .int x1, .ref 0, .int (0 : Int32), .ref 242]) (v1 := v) rfl ?_
  exact e_cl (j := kX5_availableByTrying) rfl hc g
theorem bL_availableByTrying_8 {x1 : Int32} {x2 : Int32} {l4 : Value} {y1 : Int32} {y2 : Int32} {v : mmM} {c : Nat} {K : mmO → mmM → Prop} (h1 : mm_in y1 1 = true) (g : mm_E kL_availableByTrying 21 [.ref 0, .int x1, .int x2, .ref 242, l4] [] (mm_up v 242 y1.toNatClampNeg y2) c K) : mm_E kL_availableByTrying 8 [.ref 0, .int x1, .int x2, .ref 242, l4] [.int y2, .int y1, .ref 242] v c K := by
  refine e_run 1 (pc1 := 9) (L1 := [.ref 0, .int x1, .int x2, .ref 242, l4]) (S1 := [.long (y2).toInt64, .int y1, .ref 242]) (v1 := v) rfl ?_
  refine e_last rfl rfl (by decide) h1 ?_
  refine e_run 1 (pc1 := 21) (L1 := [.ref 0, .int x1, .int x2, .ref 242, l4]) (S1 := []) (v1 := mm_up v 242 y1.toNatClampNeg y2) rfl ?_
  exact g
theorem bL_availableByTrying_21 {x1 : Int32} {x2 : Int32} {l4 : Value} {v : mmM} {c : Nat} {K : mmO → mmM → Prop} (g : K (.inl (some (.int (0 : Int32)))) v) : mm_E kL_availableByTrying 21 [.ref 0, .int x1, .int x2, .ref 242, l4] [] v c K := by
  refine e_run 1 (pc1 := 22) (L1 := [.ref 0, .int x1, .int x2, .ref 242, l4]) (S1 := [.int (0 : Int32)]) (v1 := v) rfl ?_
  exact e_iret (ty := .int) rfl rfl rfl g
theorem bL_pickLines_0 {x1 : Int32} {l3 : Value} {v : mmM} {c : Nat} {K : mmO → mmM → Prop} (hc : c + mm_mc kX5_pickLines ≤ mm_mc kL_pickLines) (g : mm_M kX5_pickLines [.ref 0, .int x1] v (mm_Kc kL_pickLines 7 [.ref 0, .int x1, .ref 242, l3] [.int (0 : Int32), .ref 242] (c + mm_mc kX5_pickLines) K)) : mm_E kL_pickLines 0 [.ref 0, .int x1, .ref 242, l3] [] v c K := by
  refine e_run 4 (pc1 := 4) (L1 := [.ref 0, .int x1, .ref 242, l3]) (S1 := [.int x1, .ref 0, .int (0 : Int32), .ref 242]) (v1 := v) rfl ?_
  exact e_cl (j := kX5_pickLines) rfl hc g
theorem bL_pickLines_7 {x1 : Int32} {l3 : Value} {y1 : Int32} {y2 : Int32} {v : mmM} {c : Nat} {K : mmO → mmM → Prop} (h1 : mm_in y1 1 = true) (g : mm_E kL_pickLines 18 [.ref 0, .int x1, .ref 242, l3] [] (mm_up v 242 y1.toNatClampNeg y2) c K) : mm_E kL_pickLines 7 [.ref 0, .int x1, .ref 242, l3] [.int y2, .int y1, .ref 242] v c K := by
  refine e_run 1 (pc1 := 8) (L1 := [.ref 0, .int x1, .ref 242, l3]) (S1 := [.long (y2).toInt64, .int y1, .ref 242]) (v1 := v) rfl ?_
  refine e_last rfl rfl (by decide) h1 ?_
  refine e_run 1 (pc1 := 18) (L1 := [.ref 0, .int x1, .ref 242, l3]) (S1 := []) (v1 := mm_up v 242 y1.toNatClampNeg y2) rfl ?_
  exact g
theorem bL_pickLines_18 {x1 : Int32} {l3 : Value} {v : mmM} {c : Nat} {K : mmO → mmM → Prop} (g : K (.inl (some (.int (0 : Int32)))) v) : mm_E kL_pickLines 18 [.ref 0, .int x1, .ref 242, l3] [] v c K := by
  refine e_run 1 (pc1 := 19) (L1 := [.ref 0, .int x1, .ref 242, l3]) (S1 := [.int (0 : Int32)]) (v1 := v) rfl ?_
  exact e_iret (ty := .int) rfl rfl rfl g
theorem bL_pickBin_0 {x1 : Int32} {x2 : Int32} {l4 : Value} {v : mmM} {c : Nat} {K : mmO → mmM → Prop} (hc : c + mm_mc kX5_pickBin ≤ mm_mc kL_pickBin) (g : mm_M kX5_pickBin [.ref 0, .int x1, .int x2] v (mm_Kc kL_pickBin 8 [.ref 0, .int x1, .int x2, .ref 242, l4] [.int (0 : Int32), .ref 242] (c + mm_mc kX5_pickBin) K)) : mm_E kL_pickBin 0 [.ref 0, .int x1, .int x2, .ref 242, l4] [] v c K := by
  refine e_run 5 (pc1 := 5) (L1 := [.ref 0, .int x1, .int x2, .ref 242, l4]) (S1 := [.int x2, .int x1, .ref 0, .int (0 : Int32), .ref 242]) (v1 := v) rfl ?_
  exact e_cl (j := kX5_pickBin) rfl hc g
theorem bL_pickBin_8 {x1 : Int32} {x2 : Int32} {l4 : Value} {y1 : Int32} {y2 : Int32} {v : mmM} {c : Nat} {K : mmO → mmM → Prop} (h1 : mm_in y1 1 = true) (g : mm_E kL_pickBin 25 [.ref 0, .int x1, .int x2, .ref 242, l4] [] (mm_up v 242 y1.toNatClampNeg y2) c K) : mm_E kL_pickBin 8 [.ref 0, .int x1, .int x2, .ref 242, l4] [.int y2, .int y1, .ref 242] v c K := by
  refine e_run 1 (pc1 := 9) (L1 := [.ref 0, .int x1, .int x2, .ref 242, l4]) (S1 := [.long (y2).toInt64, .int y1, .ref 242]) (v1 := v) rfl ?_
  refine e_last rfl rfl (by decide) h1 ?_
  refine e_run 1 (pc1 := 25) (L1 := [.ref 0, .int x1, .int x2, .ref 242, l4]) (S1 := []) (v1 := mm_up v 242 y1.toNatClampNeg y2) rfl ?_
  exact g
theorem bL_pickBin_25 {x1 : Int32} {x2 : Int32} {l4 : Value} {v : mmM} {c : Nat} {K : mmO → mmM → Prop} (g : K (.inl (some (.int (0 : Int32)))) v) : mm_E kL_pickBin 25 [.ref 0, .int x1, .int x2, .ref 242, l4] [] v c K := by
  refine e_run 1 (pc1 := 26) (L1 := [.ref 0, .int x1, .int x2, .ref 242, l4]) (S1 := [.int (0 : Int32)]) (v1 := v) rfl ?_
  exact e_iret (ty := .int) rfl rfl rfl g
theorem bL_pickLot_0 {x1 : Int32} {x2 : Int32} {l4 : Value} {v : mmM} {c : Nat} {K : mmO → mmM → Prop} (hc : c + mm_mc kX5_pickLot ≤ mm_mc kL_pickLot) (g : mm_M kX5_pickLot [.ref 0, .int x1, .int x2] v (mm_Kc kL_pickLot 8 [.ref 0, .int x1, .int x2, .ref 242, l4] [.int (0 : Int32), .ref 242] (c + mm_mc kX5_pickLot) K)) : mm_E kL_pickLot 0 [.ref 0, .int x1, .int x2, .ref 242, l4] [] v c K := by
  refine e_run 5 (pc1 := 5) (L1 := [.ref 0, .int x1, .int x2, .ref 242, l4]) (S1 := [.int x2, .int x1, .ref 0, .int (0 : Int32), .ref 242]) (v1 := v) rfl ?_
  exact e_cl (j := kX5_pickLot) rfl hc g
theorem bL_pickLot_8 {x1 : Int32} {x2 : Int32} {l4 : Value} {y1 : Int32} {y2 : Int32} {v : mmM} {c : Nat} {K : mmO → mmM → Prop} (h1 : mm_in y1 1 = true) (g : mm_E kL_pickLot 25 [.ref 0, .int x1, .int x2, .ref 242, l4] [] (mm_up v 242 y1.toNatClampNeg y2) c K) : mm_E kL_pickLot 8 [.ref 0, .int x1, .int x2, .ref 242, l4] [.int y2, .int y1, .ref 242] v c K := by
  refine e_run 1 (pc1 := 9) (L1 := [.ref 0, .int x1, .int x2, .ref 242, l4]) (S1 := [.long (y2).toInt64, .int y1, .ref 242]) (v1 := v) rfl ?_
  refine e_last rfl rfl (by decide) h1 ?_
  refine e_run 1 (pc1 := 25) (L1 := [.ref 0, .int x1, .int x2, .ref 242, l4]) (S1 := []) (v1 := mm_up v 242 y1.toNatClampNeg y2) rfl ?_
  exact g
theorem bL_pickLot_25 {x1 : Int32} {x2 : Int32} {l4 : Value} {v : mmM} {c : Nat} {K : mmO → mmM → Prop} (g : K (.inl (some (.int (0 : Int32)))) v) : mm_E kL_pickLot 25 [.ref 0, .int x1, .int x2, .ref 242, l4] [] v c K := by
  refine e_run 1 (pc1 := 26) (L1 := [.ref 0, .int x1, .int x2, .ref 242, l4]) (S1 := [.int (0 : Int32)]) (v1 := v) rfl ?_
  exact e_iret (ty := .int) rfl rfl rfl g
theorem bL_pickQuantity_0 {x1 : Int32} {x2 : Int32} {l4 : Value} {v : mmM} {c : Nat} {K : mmO → mmM → Prop} (hc : c + mm_mc kX5_pickQuantity ≤ mm_mc kL_pickQuantity) (g : mm_M kX5_pickQuantity [.ref 0, .int x1, .int x2] v (mm_Kc kL_pickQuantity 8 [.ref 0, .int x1, .int x2, .ref 242, l4] [.int (0 : Int32), .ref 242] (c + mm_mc kX5_pickQuantity) K)) : mm_E kL_pickQuantity 0 [.ref 0, .int x1, .int x2, .ref 242, l4] [] v c K := by
  refine e_run 5 (pc1 := 5) (L1 := [.ref 0, .int x1, .int x2, .ref 242, l4]) (S1 := [.int x2, .int x1, .ref 0, .int (0 : Int32), .ref 242]) (v1 := v) rfl ?_
  exact e_cl (j := kX5_pickQuantity) rfl hc g
theorem bL_pickQuantity_8 {x1 : Int32} {x2 : Int32} {l4 : Value} {y1 : Int32} {y2 : Int32} {v : mmM} {c : Nat} {K : mmO → mmM → Prop} (h1 : mm_in y1 1 = true) (g : mm_E kL_pickQuantity 25 [.ref 0, .int x1, .int x2, .ref 242, l4] [] (mm_up v 242 y1.toNatClampNeg y2) c K) : mm_E kL_pickQuantity 8 [.ref 0, .int x1, .int x2, .ref 242, l4] [.int y2, .int y1, .ref 242] v c K := by
  refine e_run 1 (pc1 := 9) (L1 := [.ref 0, .int x1, .int x2, .ref 242, l4]) (S1 := [.long (y2).toInt64, .int y1, .ref 242]) (v1 := v) rfl ?_
  refine e_last rfl rfl (by decide) h1 ?_
  refine e_run 1 (pc1 := 25) (L1 := [.ref 0, .int x1, .int x2, .ref 242, l4]) (S1 := []) (v1 := mm_up v 242 y1.toNatClampNeg y2) rfl ?_
  exact g
theorem bL_pickQuantity_25 {x1 : Int32} {x2 : Int32} {l4 : Value} {v : mmM} {c : Nat} {K : mmO → mmM → Prop} (g : K (.inl (some (.int (0 : Int32)))) v) : mm_E kL_pickQuantity 25 [.ref 0, .int x1, .int x2, .ref 242, l4] [] v c K := by
  refine e_run 1 (pc1 := 26) (L1 := [.ref 0, .int x1, .int x2, .ref 242, l4]) (S1 := [.int (0 : Int32)]) (v1 := v) rfl ?_
  exact e_iret (ty := .int) rfl rfl rfl g
theorem bL_walk_0 {x1 : Int32} {l3 : Value} {v : mmM} {c : Nat} {K : mmO → mmM → Prop} (hc : c + mm_mc kX5_walk ≤ mm_mc kL_walk) (g : mm_M kX5_walk [.ref 0, .int x1] v (mm_Kc kL_walk 7 [.ref 0, .int x1, .ref 242, l3] [.int (0 : Int32), .ref 242] (c + mm_mc kX5_walk) K)) : mm_E kL_walk 0 [.ref 0, .int x1, .ref 242, l3] [] v c K := by
  refine e_run 4 (pc1 := 4) (L1 := [.ref 0, .int x1, .ref 242, l3]) (S1 := [.int x1, .ref 0, .int (0 : Int32), .ref 242]) (v1 := v) rfl ?_
  exact e_cl (j := kX5_walk) rfl hc g
theorem bL_walk_7 {x1 : Int32} {l3 : Value} {y1 : Int32} {y2 : Int32} {v : mmM} {c : Nat} {K : mmO → mmM → Prop} (h1 : mm_in y1 1 = true) (g : mm_E kL_walk 18 [.ref 0, .int x1, .ref 242, l3] [] (mm_up v 242 y1.toNatClampNeg y2) c K) : mm_E kL_walk 7 [.ref 0, .int x1, .ref 242, l3] [.int y2, .int y1, .ref 242] v c K := by
  refine e_run 1 (pc1 := 8) (L1 := [.ref 0, .int x1, .ref 242, l3]) (S1 := [.long (y2).toInt64, .int y1, .ref 242]) (v1 := v) rfl ?_
  refine e_last rfl rfl (by decide) h1 ?_
  refine e_run 1 (pc1 := 18) (L1 := [.ref 0, .int x1, .ref 242, l3]) (S1 := []) (v1 := mm_up v 242 y1.toNatClampNeg y2) rfl ?_
  exact g
theorem bL_walk_18 {x1 : Int32} {l3 : Value} {v : mmM} {c : Nat} {K : mmO → mmM → Prop} (g : K (.inl (some (.int (0 : Int32)))) v) : mm_E kL_walk 18 [.ref 0, .int x1, .ref 242, l3] [] v c K := by
  refine e_run 1 (pc1 := 19) (L1 := [.ref 0, .int x1, .ref 242, l3]) (S1 := [.int (0 : Int32)]) (v1 := v) rfl ?_
  exact e_iret (ty := .int) rfl rfl rfl g
theorem bL_walkByTrying_0 {x1 : Int32} {l3 : Value} {v : mmM} {c : Nat} {K : mmO → mmM → Prop} (hc : c + mm_mc kX5_walkByTrying ≤ mm_mc kL_walkByTrying) (g : mm_M kX5_walkByTrying [.ref 0, .int x1] v (mm_Kc kL_walkByTrying 7 [.ref 0, .int x1, .ref 242, l3] [.int (0 : Int32), .ref 242] (c + mm_mc kX5_walkByTrying) K)) : mm_E kL_walkByTrying 0 [.ref 0, .int x1, .ref 242, l3] [] v c K := by
  refine e_run 4 (pc1 := 4) (L1 := [.ref 0, .int x1, .ref 242, l3]) (S1 := [.int x1, .ref 0, .int (0 : Int32), .ref 242]) (v1 := v) rfl ?_
  exact e_cl (j := kX5_walkByTrying) rfl hc g
theorem bL_walkByTrying_7 {x1 : Int32} {l3 : Value} {y1 : Int32} {y2 : Int32} {v : mmM} {c : Nat} {K : mmO → mmM → Prop} (h1 : mm_in y1 1 = true) (g : mm_E kL_walkByTrying 18 [.ref 0, .int x1, .ref 242, l3] [] (mm_up v 242 y1.toNatClampNeg y2) c K) : mm_E kL_walkByTrying 7 [.ref 0, .int x1, .ref 242, l3] [.int y2, .int y1, .ref 242] v c K := by
  refine e_run 1 (pc1 := 8) (L1 := [.ref 0, .int x1, .ref 242, l3]) (S1 := [.long (y2).toInt64, .int y1, .ref 242]) (v1 := v) rfl ?_
  refine e_last rfl rfl (by decide) h1 ?_
  refine e_run 1 (pc1 := 18) (L1 := [.ref 0, .int x1, .ref 242, l3]) (S1 := []) (v1 := mm_up v 242 y1.toNatClampNeg y2) rfl ?_
  exact g
theorem bL_walkByTrying_18 {x1 : Int32} {l3 : Value} {v : mmM} {c : Nat} {K : mmO → mmM → Prop} (g : K (.inl (some (.int (0 : Int32)))) v) : mm_E kL_walkByTrying 18 [.ref 0, .int x1, .ref 242, l3] [] v c K := by
  refine e_run 1 (pc1 := 19) (L1 := [.ref 0, .int x1, .ref 242, l3]) (S1 := [.int (0 : Int32)]) (v1 := v) rfl ?_
  exact e_iret (ty := .int) rfl rfl rfl g
theorem bL_pass_0 {x1 : Int32} {l3 : Value} {v : mmM} {c : Nat} {K : mmO → mmM → Prop} (hc : c + mm_mc kX5_pass ≤ mm_mc kL_pass) (g : mm_M kX5_pass [.ref 0, .int x1] v (mm_Kc kL_pass 7 [.ref 0, .int x1, .ref 242, l3] [.int (0 : Int32), .ref 242] (c + mm_mc kX5_pass) K)) : mm_E kL_pass 0 [.ref 0, .int x1, .ref 242, l3] [] v c K := by
  refine e_run 4 (pc1 := 4) (L1 := [.ref 0, .int x1, .ref 242, l3]) (S1 := [.int x1, .ref 0, .int (0 : Int32), .ref 242]) (v1 := v) rfl ?_
  exact e_cl (j := kX5_pass) rfl hc g
theorem bL_pass_7 {x1 : Int32} {l3 : Value} {y1 : Int32} {y2 : Int32} {v : mmM} {c : Nat} {K : mmO → mmM → Prop} (h1 : mm_in y1 1 = true) (g : mm_E kL_pass 15 [.ref 0, .int x1, .ref 242, l3] [] (mm_up v 242 y1.toNatClampNeg y2) c K) : mm_E kL_pass 7 [.ref 0, .int x1, .ref 242, l3] [.int y2, .int y1, .ref 242] v c K := by
  refine e_run 1 (pc1 := 8) (L1 := [.ref 0, .int x1, .ref 242, l3]) (S1 := [.long (y2).toInt64, .int y1, .ref 242]) (v1 := v) rfl ?_
  refine e_last rfl rfl (by decide) h1 ?_
  refine e_run 1 (pc1 := 15) (L1 := [.ref 0, .int x1, .ref 242, l3]) (S1 := []) (v1 := mm_up v 242 y1.toNatClampNeg y2) rfl ?_
  exact g
theorem bL_pass_15 {x1 : Int32} {l3 : Value} {v : mmM} {c : Nat} {K : mmO → mmM → Prop} (g : K (.inl (some (.int (0 : Int32)))) v) : mm_E kL_pass 15 [.ref 0, .int x1, .ref 242, l3] [] v c K := by
  refine e_run 1 (pc1 := 16) (L1 := [.ref 0, .int x1, .ref 242, l3]) (S1 := [.int (0 : Int32)]) (v1 := v) rfl ?_
  exact e_iret (ty := .int) rfl rfl rfl g
theorem bL_nextCount_0 {l2 : Value} {v : mmM} {c : Nat} {K : mmO → mmM → Prop} (hc : c + mm_mc kX5_nextCount ≤ mm_mc kL_nextCount) (g : mm_M kX5_nextCount [.ref 0] v (mm_Kc kL_nextCount 6 [.ref 0, .ref 242, l2] [.int (0 : Int32), .ref 242] (c + mm_mc kX5_nextCount) K)) : mm_E kL_nextCount 0 [.ref 0, .ref 242, l2] [] v c K := by
  refine e_run 3 (pc1 := 3) (L1 := [.ref 0, .ref 242, l2]) (S1 := [.ref 0, .int (0 : Int32), .ref 242]) (v1 := v) rfl ?_
  exact e_cl (j := kX5_nextCount) rfl hc g
theorem bL_nextCount_6 {l2 : Value} {y1 : Int32} {y2 : Int32} {v : mmM} {c : Nat} {K : mmO → mmM → Prop} (h1 : mm_in y1 1 = true) (g : mm_E kL_nextCount 14 [.ref 0, .ref 242, l2] [] (mm_up v 242 y1.toNatClampNeg y2) c K) : mm_E kL_nextCount 6 [.ref 0, .ref 242, l2] [.int y2, .int y1, .ref 242] v c K := by
  refine e_run 1 (pc1 := 7) (L1 := [.ref 0, .ref 242, l2]) (S1 := [.long (y2).toInt64, .int y1, .ref 242]) (v1 := v) rfl ?_
  refine e_last rfl rfl (by decide) h1 ?_
  refine e_run 1 (pc1 := 14) (L1 := [.ref 0, .ref 242, l2]) (S1 := []) (v1 := mm_up v 242 y1.toNatClampNeg y2) rfl ?_
  exact g
theorem bL_nextCount_14 {l2 : Value} {v : mmM} {c : Nat} {K : mmO → mmM → Prop} (g : K (.inl (some (.int (0 : Int32)))) v) : mm_E kL_nextCount 14 [.ref 0, .ref 242, l2] [] v c K := by
  refine e_run 1 (pc1 := 15) (L1 := [.ref 0, .ref 242, l2]) (S1 := [.int (0 : Int32)]) (v1 := v) rfl ?_
  exact e_iret (ty := .int) rfl rfl rfl g
theorem bL_countDay_0 {x1 : Int32} {l3 : Value} {v : mmM} {c : Nat} {K : mmO → mmM → Prop} (hc : c + mm_mc kX5_countDay ≤ mm_mc kL_countDay) (g : mm_M kX5_countDay [.ref 0, .int x1] v (mm_Kc kL_countDay 7 [.ref 0, .int x1, .ref 242, l3] [.int (0 : Int32), .ref 242] (c + mm_mc kX5_countDay) K)) : mm_E kL_countDay 0 [.ref 0, .int x1, .ref 242, l3] [] v c K := by
  refine e_run 4 (pc1 := 4) (L1 := [.ref 0, .int x1, .ref 242, l3]) (S1 := [.int x1, .ref 0, .int (0 : Int32), .ref 242]) (v1 := v) rfl ?_
  exact e_cl (j := kX5_countDay) rfl hc g
theorem bL_countDay_7 {x1 : Int32} {l3 : Value} {y1 : Int32} {y2 : Int32} {v : mmM} {c : Nat} {K : mmO → mmM → Prop} (h1 : mm_in y1 1 = true) (g : mm_E kL_countDay 18 [.ref 0, .int x1, .ref 242, l3] [] (mm_up v 242 y1.toNatClampNeg y2) c K) : mm_E kL_countDay 7 [.ref 0, .int x1, .ref 242, l3] [.int y2, .int y1, .ref 242] v c K := by
  refine e_run 1 (pc1 := 8) (L1 := [.ref 0, .int x1, .ref 242, l3]) (S1 := [.long (y2).toInt64, .int y1, .ref 242]) (v1 := v) rfl ?_
  refine e_last rfl rfl (by decide) h1 ?_
  refine e_run 1 (pc1 := 18) (L1 := [.ref 0, .int x1, .ref 242, l3]) (S1 := []) (v1 := mm_up v 242 y1.toNatClampNeg y2) rfl ?_
  exact g
theorem bL_countDay_18 {x1 : Int32} {l3 : Value} {v : mmM} {c : Nat} {K : mmO → mmM → Prop} (g : K (.inl (some (.int (0 : Int32)))) v) : mm_E kL_countDay 18 [.ref 0, .int x1, .ref 242, l3] [] v c K := by
  refine e_run 1 (pc1 := 19) (L1 := [.ref 0, .int x1, .ref 242, l3]) (S1 := [.int (0 : Int32)]) (v1 := v) rfl ?_
  exact e_iret (ty := .int) rfl rfl rfl g
theorem bL_stock_0 {x1 : Int32} {x2 : Int32} {l4 : Value} {v : mmM} {c : Nat} {K : mmO → mmM → Prop} (hc : c + mm_mc kX5_stock ≤ mm_mc kL_stock) (g : mm_M kX5_stock [.ref 0, .int x1, .int x2] v (mm_Kc kL_stock 8 [.ref 0, .int x1, .int x2, .ref 242, l4] [.int (0 : Int32), .ref 242] (c + mm_mc kX5_stock) K)) : mm_E kL_stock 0 [.ref 0, .int x1, .int x2, .ref 242, l4] [] v c K := by
  refine e_run 5 (pc1 := 5) (L1 := [.ref 0, .int x1, .int x2, .ref 242, l4]) (S1 := [.int x2, .int x1, .ref 0, .int (0 : Int32), .ref 242]) (v1 := v) rfl ?_
  exact e_cl (j := kX5_stock) rfl hc g
theorem bL_stock_8 {x1 : Int32} {x2 : Int32} {l4 : Value} {y1 : Int32} {y2 : Int32} {v : mmM} {c : Nat} {K : mmO → mmM → Prop} (h1 : mm_in y1 1 = true) (g : mm_E kL_stock 17 [.ref 0, .int x1, .int x2, .ref 242, l4] [] (mm_up v 242 y1.toNatClampNeg y2) c K) : mm_E kL_stock 8 [.ref 0, .int x1, .int x2, .ref 242, l4] [.int y2, .int y1, .ref 242] v c K := by
  refine e_run 1 (pc1 := 9) (L1 := [.ref 0, .int x1, .int x2, .ref 242, l4]) (S1 := [.long (y2).toInt64, .int y1, .ref 242]) (v1 := v) rfl ?_
  refine e_last rfl rfl (by decide) h1 ?_
  refine e_run 1 (pc1 := 17) (L1 := [.ref 0, .int x1, .int x2, .ref 242, l4]) (S1 := []) (v1 := mm_up v 242 y1.toNatClampNeg y2) rfl ?_
  exact g
theorem bL_stock_17 {x1 : Int32} {x2 : Int32} {l4 : Value} {v : mmM} {c : Nat} {K : mmO → mmM → Prop} (g : K (.inl (some (.int (0 : Int32)))) v) : mm_E kL_stock 17 [.ref 0, .int x1, .int x2, .ref 242, l4] [] v c K := by
  refine e_run 1 (pc1 := 18) (L1 := [.ref 0, .int x1, .int x2, .ref 242, l4]) (S1 := [.int (0 : Int32)]) (v1 := v) rfl ?_
  exact e_iret (ty := .int) rfl rfl rfl g
theorem bL_stockByJournal_0 {x1 : Int32} {x2 : Int32} {l4 : Value} {v : mmM} {c : Nat} {K : mmO → mmM → Prop} (hc : c + mm_mc kX5_stockByJournal ≤ mm_mc kL_stockByJournal) (g : mm_M kX5_stockByJournal [.ref 0, .int x1, .int x2] v (mm_Kc kL_stockByJournal 8 [.ref 0, .int x1, .int x2, .ref 242, l4] [.int (0 : Int32), .ref 242] (c + mm_mc kX5_stockByJournal) K)) : mm_E kL_stockByJournal 0 [.ref 0, .int x1, .int x2, .ref 242, l4] [] v c K := by
  refine e_run 5 (pc1 := 5) (L1 := [.ref 0, .int x1, .int x2, .ref 242, l4]) (S1 := [.int x2, .int x1, .ref 0, .int (0 : Int32), .ref 242]) (v1 := v) rfl ?_
  exact e_cl (j := kX5_stockByJournal) rfl hc g
theorem bL_stockByJournal_8 {x1 : Int32} {x2 : Int32} {l4 : Value} {y1 : Int32} {y2 : Int32} {v : mmM} {c : Nat} {K : mmO → mmM → Prop} (h1 : mm_in y1 1 = true) (g : mm_E kL_stockByJournal 17 [.ref 0, .int x1, .int x2, .ref 242, l4] [] (mm_up v 242 y1.toNatClampNeg y2) c K) : mm_E kL_stockByJournal 8 [.ref 0, .int x1, .int x2, .ref 242, l4] [.int y2, .int y1, .ref 242] v c K := by
  refine e_run 1 (pc1 := 9) (L1 := [.ref 0, .int x1, .int x2, .ref 242, l4]) (S1 := [.long (y2).toInt64, .int y1, .ref 242]) (v1 := v) rfl ?_
  refine e_last rfl rfl (by decide) h1 ?_
  refine e_run 1 (pc1 := 17) (L1 := [.ref 0, .int x1, .int x2, .ref 242, l4]) (S1 := []) (v1 := mm_up v 242 y1.toNatClampNeg y2) rfl ?_
  exact g
theorem bL_stockByJournal_17 {x1 : Int32} {x2 : Int32} {l4 : Value} {v : mmM} {c : Nat} {K : mmO → mmM → Prop} (g : K (.inl (some (.int (0 : Int32)))) v) : mm_E kL_stockByJournal 17 [.ref 0, .int x1, .int x2, .ref 242, l4] [] v c K := by
  refine e_run 1 (pc1 := 18) (L1 := [.ref 0, .int x1, .int x2, .ref 242, l4]) (S1 := [.int (0 : Int32)]) (v1 := v) rfl ?_
  exact e_iret (ty := .int) rfl rfl rfl g
theorem bL_load_0 {x1 : Int32} {l3 : Value} {v : mmM} {c : Nat} {K : mmO → mmM → Prop} (hc : c + mm_mc kX5_load ≤ mm_mc kL_load) (g : mm_M kX5_load [.ref 0, .int x1] v (mm_Kc kL_load 7 [.ref 0, .int x1, .ref 242, l3] [.int (0 : Int32), .ref 242] (c + mm_mc kX5_load) K)) : mm_E kL_load 0 [.ref 0, .int x1, .ref 242, l3] [] v c K := by
  refine e_run 4 (pc1 := 4) (L1 := [.ref 0, .int x1, .ref 242, l3]) (S1 := [.int x1, .ref 0, .int (0 : Int32), .ref 242]) (v1 := v) rfl ?_
  exact e_cl (j := kX5_load) rfl hc g
theorem bL_load_7 {x1 : Int32} {l3 : Value} {y1 : Int32} {y2 : Int32} {v : mmM} {c : Nat} {K : mmO → mmM → Prop} (h1 : mm_in y1 1 = true) (g : mm_E kL_load 15 [.ref 0, .int x1, .ref 242, l3] [] (mm_up v 242 y1.toNatClampNeg y2) c K) : mm_E kL_load 7 [.ref 0, .int x1, .ref 242, l3] [.int y2, .int y1, .ref 242] v c K := by
  refine e_run 1 (pc1 := 8) (L1 := [.ref 0, .int x1, .ref 242, l3]) (S1 := [.long (y2).toInt64, .int y1, .ref 242]) (v1 := v) rfl ?_
  refine e_last rfl rfl (by decide) h1 ?_
  refine e_run 1 (pc1 := 15) (L1 := [.ref 0, .int x1, .ref 242, l3]) (S1 := []) (v1 := mm_up v 242 y1.toNatClampNeg y2) rfl ?_
  exact g
theorem bL_load_15 {x1 : Int32} {l3 : Value} {v : mmM} {c : Nat} {K : mmO → mmM → Prop} (g : K (.inl (some (.int (0 : Int32)))) v) : mm_E kL_load 15 [.ref 0, .int x1, .ref 242, l3] [] v c K := by
  refine e_run 1 (pc1 := 16) (L1 := [.ref 0, .int x1, .ref 242, l3]) (S1 := [.int (0 : Int32)]) (v1 := v) rfl ?_
  exact e_iret (ty := .int) rfl rfl rfl g
theorem bL_nextLot_0 {x1 : Int32} {x2 : Int32} {l4 : Value} {v : mmM} {c : Nat} {K : mmO → mmM → Prop} (hc : c + mm_mc kX5_nextLot ≤ mm_mc kL_nextLot) (g : mm_M kX5_nextLot [.ref 0, .int x1, .int x2] v (mm_Kc kL_nextLot 8 [.ref 0, .int x1, .int x2, .ref 242, l4] [.int (0 : Int32), .ref 242] (c + mm_mc kX5_nextLot) K)) : mm_E kL_nextLot 0 [.ref 0, .int x1, .int x2, .ref 242, l4] [] v c K := by
  refine e_run 5 (pc1 := 5) (L1 := [.ref 0, .int x1, .int x2, .ref 242, l4]) (S1 := [.int x2, .int x1, .ref 0, .int (0 : Int32), .ref 242]) (v1 := v) rfl ?_
  exact e_cl (j := kX5_nextLot) rfl hc g
theorem bL_nextLot_8 {x1 : Int32} {x2 : Int32} {l4 : Value} {y1 : Int32} {y2 : Int32} {v : mmM} {c : Nat} {K : mmO → mmM → Prop} (h1 : mm_in y1 1 = true) (g : mm_E kL_nextLot 21 [.ref 0, .int x1, .int x2, .ref 242, l4] [] (mm_up v 242 y1.toNatClampNeg y2) c K) : mm_E kL_nextLot 8 [.ref 0, .int x1, .int x2, .ref 242, l4] [.int y2, .int y1, .ref 242] v c K := by
  refine e_run 1 (pc1 := 9) (L1 := [.ref 0, .int x1, .int x2, .ref 242, l4]) (S1 := [.long (y2).toInt64, .int y1, .ref 242]) (v1 := v) rfl ?_
  refine e_last rfl rfl (by decide) h1 ?_
  refine e_run 1 (pc1 := 21) (L1 := [.ref 0, .int x1, .int x2, .ref 242, l4]) (S1 := []) (v1 := mm_up v 242 y1.toNatClampNeg y2) rfl ?_
  exact g
theorem bL_nextLot_21 {x1 : Int32} {x2 : Int32} {l4 : Value} {v : mmM} {c : Nat} {K : mmO → mmM → Prop} (g : K (.inl (some (.int (0 : Int32)))) v) : mm_E kL_nextLot 21 [.ref 0, .int x1, .int x2, .ref 242, l4] [] v c K := by
  refine e_run 1 (pc1 := 22) (L1 := [.ref 0, .int x1, .int x2, .ref 242, l4]) (S1 := [.int (0 : Int32)]) (v1 := v) rfl ?_
  exact e_iret (ty := .int) rfl rfl rfl g
theorem bL_onHand_0 {x1 : Int32} {l3 : Value} {v : mmM} {c : Nat} {K : mmO → mmM → Prop} (hc : c + mm_mc kX5_onHand ≤ mm_mc kL_onHand) (g : mm_M kX5_onHand [.ref 0, .int x1] v (mm_Kc kL_onHand 7 [.ref 0, .int x1, .ref 242, l3] [.int (0 : Int32), .ref 242] (c + mm_mc kX5_onHand) K)) : mm_E kL_onHand 0 [.ref 0, .int x1, .ref 242, l3] [] v c K := by
  refine e_run 4 (pc1 := 4) (L1 := [.ref 0, .int x1, .ref 242, l3]) (S1 := [.int x1, .ref 0, .int (0 : Int32), .ref 242]) (v1 := v) rfl ?_
  exact e_cl (j := kX5_onHand) rfl hc g
theorem bL_onHand_7 {x1 : Int32} {l3 : Value} {y1 : Int32} {y2 : Int32} {v : mmM} {c : Nat} {K : mmO → mmM → Prop} (h1 : mm_in y1 1 = true) (g : mm_E kL_onHand 15 [.ref 0, .int x1, .ref 242, l3] [] (mm_up v 242 y1.toNatClampNeg y2) c K) : mm_E kL_onHand 7 [.ref 0, .int x1, .ref 242, l3] [.int y2, .int y1, .ref 242] v c K := by
  refine e_run 1 (pc1 := 8) (L1 := [.ref 0, .int x1, .ref 242, l3]) (S1 := [.long (y2).toInt64, .int y1, .ref 242]) (v1 := v) rfl ?_
  refine e_last rfl rfl (by decide) h1 ?_
  refine e_run 1 (pc1 := 15) (L1 := [.ref 0, .int x1, .ref 242, l3]) (S1 := []) (v1 := mm_up v 242 y1.toNatClampNeg y2) rfl ?_
  exact g
theorem bL_onHand_15 {x1 : Int32} {l3 : Value} {v : mmM} {c : Nat} {K : mmO → mmM → Prop} (g : K (.inl (some (.int (0 : Int32)))) v) : mm_E kL_onHand 15 [.ref 0, .int x1, .ref 242, l3] [] v c K := by
  refine e_run 1 (pc1 := 16) (L1 := [.ref 0, .int x1, .ref 242, l3]) (S1 := [.int (0 : Int32)]) (v1 := v) rfl ?_
  exact e_iret (ty := .int) rfl rfl rfl g
theorem bL_expired_0 {x1 : Int32} {l3 : Value} {v : mmM} {c : Nat} {K : mmO → mmM → Prop} (hc : c + mm_mc kX5_expired ≤ mm_mc kL_expired) (g : mm_M kX5_expired [.ref 0, .int x1] v (mm_Kc kL_expired 7 [.ref 0, .int x1, .ref 242, l3] [.int (0 : Int32), .ref 242] (c + mm_mc kX5_expired) K)) : mm_E kL_expired 0 [.ref 0, .int x1, .ref 242, l3] [] v c K := by
  refine e_run 4 (pc1 := 4) (L1 := [.ref 0, .int x1, .ref 242, l3]) (S1 := [.int x1, .ref 0, .int (0 : Int32), .ref 242]) (v1 := v) rfl ?_
  exact e_cl (j := kX5_expired) rfl hc g
theorem bL_expired_7 {x1 : Int32} {l3 : Value} {y1 : Int32} {y2 : Int32} {v : mmM} {c : Nat} {K : mmO → mmM → Prop} (h1 : mm_in y1 1 = true) (g : mm_E kL_expired 15 [.ref 0, .int x1, .ref 242, l3] [] (mm_up v 242 y1.toNatClampNeg y2) c K) : mm_E kL_expired 7 [.ref 0, .int x1, .ref 242, l3] [.int y2, .int y1, .ref 242] v c K := by
  refine e_run 1 (pc1 := 8) (L1 := [.ref 0, .int x1, .ref 242, l3]) (S1 := [.long (y2).toInt64, .int y1, .ref 242]) (v1 := v) rfl ?_
  refine e_last rfl rfl (by decide) h1 ?_
  refine e_run 1 (pc1 := 15) (L1 := [.ref 0, .int x1, .ref 242, l3]) (S1 := []) (v1 := mm_up v 242 y1.toNatClampNeg y2) rfl ?_
  exact g
theorem bL_expired_15 {x1 : Int32} {l3 : Value} {v : mmM} {c : Nat} {K : mmO → mmM → Prop} (g : K (.inl (some (.int (0 : Int32)))) v) : mm_E kL_expired 15 [.ref 0, .int x1, .ref 242, l3] [] v c K := by
  refine e_run 1 (pc1 := 16) (L1 := [.ref 0, .int x1, .ref 242, l3]) (S1 := [.int (0 : Int32)]) (v1 := v) rfl ?_
  exact e_iret (ty := .int) rfl rfl rfl g
theorem bL_entryKind_0 {x1 : Int32} {l3 : Value} {v : mmM} {c : Nat} {K : mmO → mmM → Prop} (hc : c + mm_mc kX5_entryKind ≤ mm_mc kL_entryKind) (g : mm_M kX5_entryKind [.ref 0, .int x1] v (mm_Kc kL_entryKind 7 [.ref 0, .int x1, .ref 242, l3] [.int (0 : Int32), .ref 242] (c + mm_mc kX5_entryKind) K)) : mm_E kL_entryKind 0 [.ref 0, .int x1, .ref 242, l3] [] v c K := by
  refine e_run 4 (pc1 := 4) (L1 := [.ref 0, .int x1, .ref 242, l3]) (S1 := [.int x1, .ref 0, .int (0 : Int32), .ref 242]) (v1 := v) rfl ?_
  exact e_cl (j := kX5_entryKind) rfl hc g
theorem bL_entryKind_7 {x1 : Int32} {l3 : Value} {y1 : Int32} {y2 : Int32} {v : mmM} {c : Nat} {K : mmO → mmM → Prop} (h1 : mm_in y1 1 = true) (g : mm_E kL_entryKind 15 [.ref 0, .int x1, .ref 242, l3] [] (mm_up v 242 y1.toNatClampNeg y2) c K) : mm_E kL_entryKind 7 [.ref 0, .int x1, .ref 242, l3] [.int y2, .int y1, .ref 242] v c K := by
  refine e_run 1 (pc1 := 8) (L1 := [.ref 0, .int x1, .ref 242, l3]) (S1 := [.long (y2).toInt64, .int y1, .ref 242]) (v1 := v) rfl ?_
  refine e_last rfl rfl (by decide) h1 ?_
  refine e_run 1 (pc1 := 15) (L1 := [.ref 0, .int x1, .ref 242, l3]) (S1 := []) (v1 := mm_up v 242 y1.toNatClampNeg y2) rfl ?_
  exact g
theorem bL_entryKind_15 {x1 : Int32} {l3 : Value} {v : mmM} {c : Nat} {K : mmO → mmM → Prop} (g : K (.inl (some (.int (0 : Int32)))) v) : mm_E kL_entryKind 15 [.ref 0, .int x1, .ref 242, l3] [] v c K := by
  refine e_run 1 (pc1 := 16) (L1 := [.ref 0, .int x1, .ref 242, l3]) (S1 := [.int (0 : Int32)]) (v1 := v) rfl ?_
  exact e_iret (ty := .int) rfl rfl rfl g
theorem bL_entryLot_0 {x1 : Int32} {l3 : Value} {v : mmM} {c : Nat} {K : mmO → mmM → Prop} (hc : c + mm_mc kX5_entryLot ≤ mm_mc kL_entryLot) (g : mm_M kX5_entryLot [.ref 0, .int x1] v (mm_Kc kL_entryLot 7 [.ref 0, .int x1, .ref 242, l3] [.int (0 : Int32), .ref 242] (c + mm_mc kX5_entryLot) K)) : mm_E kL_entryLot 0 [.ref 0, .int x1, .ref 242, l3] [] v c K := by
  refine e_run 4 (pc1 := 4) (L1 := [.ref 0, .int x1, .ref 242, l3]) (S1 := [.int x1, .ref 0, .int (0 : Int32), .ref 242]) (v1 := v) rfl ?_
  exact e_cl (j := kX5_entryLot) rfl hc g
theorem bL_entryLot_7 {x1 : Int32} {l3 : Value} {y1 : Int32} {y2 : Int32} {v : mmM} {c : Nat} {K : mmO → mmM → Prop} (h1 : mm_in y1 1 = true) (g : mm_E kL_entryLot 15 [.ref 0, .int x1, .ref 242, l3] [] (mm_up v 242 y1.toNatClampNeg y2) c K) : mm_E kL_entryLot 7 [.ref 0, .int x1, .ref 242, l3] [.int y2, .int y1, .ref 242] v c K := by
  refine e_run 1 (pc1 := 8) (L1 := [.ref 0, .int x1, .ref 242, l3]) (S1 := [.long (y2).toInt64, .int y1, .ref 242]) (v1 := v) rfl ?_
  refine e_last rfl rfl (by decide) h1 ?_
  refine e_run 1 (pc1 := 15) (L1 := [.ref 0, .int x1, .ref 242, l3]) (S1 := []) (v1 := mm_up v 242 y1.toNatClampNeg y2) rfl ?_
  exact g
theorem bL_entryLot_15 {x1 : Int32} {l3 : Value} {v : mmM} {c : Nat} {K : mmO → mmM → Prop} (g : K (.inl (some (.int (0 : Int32)))) v) : mm_E kL_entryLot 15 [.ref 0, .int x1, .ref 242, l3] [] v c K := by
  refine e_run 1 (pc1 := 16) (L1 := [.ref 0, .int x1, .ref 242, l3]) (S1 := [.int (0 : Int32)]) (v1 := v) rfl ?_
  exact e_iret (ty := .int) rfl rfl rfl g
theorem bL_entryFrom_0 {x1 : Int32} {l3 : Value} {v : mmM} {c : Nat} {K : mmO → mmM → Prop} (hc : c + mm_mc kX5_entryFrom ≤ mm_mc kL_entryFrom) (g : mm_M kX5_entryFrom [.ref 0, .int x1] v (mm_Kc kL_entryFrom 7 [.ref 0, .int x1, .ref 242, l3] [.int (0 : Int32), .ref 242] (c + mm_mc kX5_entryFrom) K)) : mm_E kL_entryFrom 0 [.ref 0, .int x1, .ref 242, l3] [] v c K := by
  refine e_run 4 (pc1 := 4) (L1 := [.ref 0, .int x1, .ref 242, l3]) (S1 := [.int x1, .ref 0, .int (0 : Int32), .ref 242]) (v1 := v) rfl ?_
  exact e_cl (j := kX5_entryFrom) rfl hc g
theorem bL_entryFrom_7 {x1 : Int32} {l3 : Value} {y1 : Int32} {y2 : Int32} {v : mmM} {c : Nat} {K : mmO → mmM → Prop} (h1 : mm_in y1 1 = true) (g : mm_E kL_entryFrom 15 [.ref 0, .int x1, .ref 242, l3] [] (mm_up v 242 y1.toNatClampNeg y2) c K) : mm_E kL_entryFrom 7 [.ref 0, .int x1, .ref 242, l3] [.int y2, .int y1, .ref 242] v c K := by
  refine e_run 1 (pc1 := 8) (L1 := [.ref 0, .int x1, .ref 242, l3]) (S1 := [.long (y2).toInt64, .int y1, .ref 242]) (v1 := v) rfl ?_
  refine e_last rfl rfl (by decide) h1 ?_
  refine e_run 1 (pc1 := 15) (L1 := [.ref 0, .int x1, .ref 242, l3]) (S1 := []) (v1 := mm_up v 242 y1.toNatClampNeg y2) rfl ?_
  exact g
theorem bL_entryFrom_15 {x1 : Int32} {l3 : Value} {v : mmM} {c : Nat} {K : mmO → mmM → Prop} (g : K (.inl (some (.int (0 : Int32)))) v) : mm_E kL_entryFrom 15 [.ref 0, .int x1, .ref 242, l3] [] v c K := by
  refine e_run 1 (pc1 := 16) (L1 := [.ref 0, .int x1, .ref 242, l3]) (S1 := [.int (0 : Int32)]) (v1 := v) rfl ?_
  exact e_iret (ty := .int) rfl rfl rfl g
theorem bL_entryTo_0 {x1 : Int32} {l3 : Value} {v : mmM} {c : Nat} {K : mmO → mmM → Prop} (hc : c + mm_mc kX5_entryTo ≤ mm_mc kL_entryTo) (g : mm_M kX5_entryTo [.ref 0, .int x1] v (mm_Kc kL_entryTo 7 [.ref 0, .int x1, .ref 242, l3] [.int (0 : Int32), .ref 242] (c + mm_mc kX5_entryTo) K)) : mm_E kL_entryTo 0 [.ref 0, .int x1, .ref 242, l3] [] v c K := by
  refine e_run 4 (pc1 := 4) (L1 := [.ref 0, .int x1, .ref 242, l3]) (S1 := [.int x1, .ref 0, .int (0 : Int32), .ref 242]) (v1 := v) rfl ?_
  exact e_cl (j := kX5_entryTo) rfl hc g
theorem bL_entryTo_7 {x1 : Int32} {l3 : Value} {y1 : Int32} {y2 : Int32} {v : mmM} {c : Nat} {K : mmO → mmM → Prop} (h1 : mm_in y1 1 = true) (g : mm_E kL_entryTo 15 [.ref 0, .int x1, .ref 242, l3] [] (mm_up v 242 y1.toNatClampNeg y2) c K) : mm_E kL_entryTo 7 [.ref 0, .int x1, .ref 242, l3] [.int y2, .int y1, .ref 242] v c K := by
  refine e_run 1 (pc1 := 8) (L1 := [.ref 0, .int x1, .ref 242, l3]) (S1 := [.long (y2).toInt64, .int y1, .ref 242]) (v1 := v) rfl ?_
  refine e_last rfl rfl (by decide) h1 ?_
  refine e_run 1 (pc1 := 15) (L1 := [.ref 0, .int x1, .ref 242, l3]) (S1 := []) (v1 := mm_up v 242 y1.toNatClampNeg y2) rfl ?_
  exact g
theorem bL_entryTo_15 {x1 : Int32} {l3 : Value} {v : mmM} {c : Nat} {K : mmO → mmM → Prop} (g : K (.inl (some (.int (0 : Int32)))) v) : mm_E kL_entryTo 15 [.ref 0, .int x1, .ref 242, l3] [] v c K := by
  refine e_run 1 (pc1 := 16) (L1 := [.ref 0, .int x1, .ref 242, l3]) (S1 := [.int (0 : Int32)]) (v1 := v) rfl ?_
  exact e_iret (ty := .int) rfl rfl rfl g
theorem bL_entryQuantity_0 {x1 : Int32} {l3 : Value} {v : mmM} {c : Nat} {K : mmO → mmM → Prop} (hc : c + mm_mc kX5_entryQuantity ≤ mm_mc kL_entryQuantity) (g : mm_M kX5_entryQuantity [.ref 0, .int x1] v (mm_Kc kL_entryQuantity 7 [.ref 0, .int x1, .ref 242, l3] [.int (0 : Int32), .ref 242] (c + mm_mc kX5_entryQuantity) K)) : mm_E kL_entryQuantity 0 [.ref 0, .int x1, .ref 242, l3] [] v c K := by
  refine e_run 4 (pc1 := 4) (L1 := [.ref 0, .int x1, .ref 242, l3]) (S1 := [.int x1, .ref 0, .int (0 : Int32), .ref 242]) (v1 := v) rfl ?_
  exact e_cl (j := kX5_entryQuantity) rfl hc g
theorem bL_entryQuantity_7 {x1 : Int32} {l3 : Value} {y1 : Int32} {y2 : Int32} {v : mmM} {c : Nat} {K : mmO → mmM → Prop} (h1 : mm_in y1 1 = true) (g : mm_E kL_entryQuantity 15 [.ref 0, .int x1, .ref 242, l3] [] (mm_up v 242 y1.toNatClampNeg y2) c K) : mm_E kL_entryQuantity 7 [.ref 0, .int x1, .ref 242, l3] [.int y2, .int y1, .ref 242] v c K := by
  refine e_run 1 (pc1 := 8) (L1 := [.ref 0, .int x1, .ref 242, l3]) (S1 := [.long (y2).toInt64, .int y1, .ref 242]) (v1 := v) rfl ?_
  refine e_last rfl rfl (by decide) h1 ?_
  refine e_run 1 (pc1 := 15) (L1 := [.ref 0, .int x1, .ref 242, l3]) (S1 := []) (v1 := mm_up v 242 y1.toNatClampNeg y2) rfl ?_
  exact g
theorem bL_entryQuantity_15 {x1 : Int32} {l3 : Value} {v : mmM} {c : Nat} {K : mmO → mmM → Prop} (g : K (.inl (some (.int (0 : Int32)))) v) : mm_E kL_entryQuantity 15 [.ref 0, .int x1, .ref 242, l3] [] v c K := by
  refine e_run 1 (pc1 := 16) (L1 := [.ref 0, .int x1, .ref 242, l3]) (S1 := [.int (0 : Int32)]) (v1 := v) rfl ?_
  exact e_iret (ty := .int) rfl rfl rfl g
theorem bL_onHandOn_0 {x1 : Int32} {x2 : Int32} {l4 : Value} {v : mmM} {c : Nat} {K : mmO → mmM → Prop} (hc : c + mm_mc kX5_onHandOn ≤ mm_mc kL_onHandOn) (g : mm_M kX5_onHandOn [.ref 0, .int x1, .int x2] v (mm_Kc kL_onHandOn 8 [.ref 0, .int x1, .int x2, .ref 242, l4] [.int (0 : Int32), .ref 242] (c + mm_mc kX5_onHandOn) K)) : mm_E kL_onHandOn 0 [.ref 0, .int x1, .int x2, .ref 242, l4] [] v c K := by
  refine e_run 5 (pc1 := 5) (L1 := [.ref 0, .int x1, .int x2, .ref 242, l4]) (S1 := [.int x2, .int x1, .ref 0, .int (0 : Int32), .ref 242]) (v1 := v) rfl ?_
  exact e_cl (j := kX5_onHandOn) rfl hc g
theorem bL_onHandOn_8 {x1 : Int32} {x2 : Int32} {l4 : Value} {y1 : Int32} {y2 : Int32} {v : mmM} {c : Nat} {K : mmO → mmM → Prop} (h1 : mm_in y1 1 = true) (g : mm_E kL_onHandOn 21 [.ref 0, .int x1, .int x2, .ref 242, l4] [] (mm_up v 242 y1.toNatClampNeg y2) c K) : mm_E kL_onHandOn 8 [.ref 0, .int x1, .int x2, .ref 242, l4] [.int y2, .int y1, .ref 242] v c K := by
  refine e_run 1 (pc1 := 9) (L1 := [.ref 0, .int x1, .int x2, .ref 242, l4]) (S1 := [.long (y2).toInt64, .int y1, .ref 242]) (v1 := v) rfl ?_
  refine e_last rfl rfl (by decide) h1 ?_
  refine e_run 1 (pc1 := 21) (L1 := [.ref 0, .int x1, .int x2, .ref 242, l4]) (S1 := []) (v1 := mm_up v 242 y1.toNatClampNeg y2) rfl ?_
  exact g
theorem bL_onHandOn_21 {x1 : Int32} {x2 : Int32} {l4 : Value} {v : mmM} {c : Nat} {K : mmO → mmM → Prop} (g : K (.inl (some (.int (0 : Int32)))) v) : mm_E kL_onHandOn 21 [.ref 0, .int x1, .int x2, .ref 242, l4] [] v c K := by
  refine e_run 1 (pc1 := 22) (L1 := [.ref 0, .int x1, .int x2, .ref 242, l4]) (S1 := [.int (0 : Int32)]) (v1 := v) rfl ?_
  exact e_iret (ty := .int) rfl rfl rfl g
theorem bL_served_0 {l2 : Value} {v : mmM} {c : Nat} {K : mmO → mmM → Prop} (hc : c + mm_mc kX5_served ≤ mm_mc kL_served) (g : mm_M kX5_served [.ref 0] v (mm_Kc kL_served 6 [.ref 0, .ref 243, l2] [.int (0 : Int32), .ref 243] (c + mm_mc kX5_served) K)) : mm_E kL_served 0 [.ref 0, .ref 243, l2] [] v c K := by
  refine e_run 3 (pc1 := 3) (L1 := [.ref 0, .ref 243, l2]) (S1 := [.ref 0, .int (0 : Int32), .ref 243]) (v1 := v) rfl ?_
  exact e_cl (j := kX5_served) rfl hc g
-- no rule at 6 of L_served: f2d
theorem bL_served_14 {l2 : Value} {v : mmM} {c : Nat} {K : mmO → mmM → Prop} (g : K (.inl (some (.int (0 : Int32)))) v) : mm_E kL_served 14 [.ref 0, .ref 243, l2] [] v c K := by
  refine e_run 1 (pc1 := 15) (L1 := [.ref 0, .ref 243, l2]) (S1 := [.int (0 : Int32)]) (v1 := v) rfl ?_
  exact e_iret (ty := .int) rfl rfl rfl g
