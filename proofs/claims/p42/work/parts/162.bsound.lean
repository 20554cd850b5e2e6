-- block rules, by program (wip/p42/blocks.py)
set_option maxRecDepth 20000 in
theorem bL_isSound_0 {x1 : Int32} {l2 : Value} {l3 : Value} {l4 : Value} {l5 : Value} {l6 : Value} {v : mmM} {c : Nat} {K : mmO → mmM → Prop} (g : mm_E kL_isSound 2 [.ref 0, .int x1, .int (0 : Int32), l3, l4, l5, l6] [] v c K) : mm_E kL_isSound 0 [.ref 0, .int x1, l2, l3, l4, l5, l6] [] v c K := by
  refine e_run 2 (pc1 := 2) (L1 := [.ref 0, .int x1, .int (0 : Int32), l3, l4, l5, l6]) (S1 := []) (v1 := v) rfl ?_
  exact g
set_option maxRecDepth 20000 in
theorem bL_isSound_2 {x1 : Int32} {x2 : Int32} {l3 : Value} {l4 : Value} {l5 : Value} {l6 : Value} {v : mmM} {c : Nat} {K : mmO → mmM → Prop} (hc : c + mm_mc kL_promisesOf ≤ mm_mc kL_isSound) (g : mm_M kL_promisesOf [.ref 0] v (mm_Kc kL_isSound 7 [.ref 0, .int x1, .int x2, l3, l4, l5, l6] [.int x2] (c + mm_mc kL_promisesOf) K)) : mm_E kL_isSound 2 [.ref 0, .int x1, .int x2, l3, l4, l5, l6] [] v c K := by
  refine e_run 2 (pc1 := 4) (L1 := [.ref 0, .int x1, .int x2, l3, l4, l5, l6]) (S1 := [.ref 0, .int x2]) (v1 := v) rfl ?_
  exact e_cl (j := kL_promisesOf) rfl hc g
set_option maxRecDepth 20000 in
theorem bL_isSound_7 {x1 : Int32} {x2 : Int32} {l3 : Value} {l4 : Value} {l5 : Value} {l6 : Value} {y0 : Int32} {y1 : Int32} {v : mmM} {c : Nat} {K : mmO → mmM → Prop} (g1 : y1 ≤ y0 → mm_E kL_isSound 252 [.ref 0, .int x1, .int x2, l3, l4, l5, l6] [] v c K) (g2 : ¬ y1 ≤ y0 → mm_E kL_isSound 10 [.ref 0, .int x1, .int x2, l3, l4, l5, l6] [] v c K) : mm_E kL_isSound 7 [.ref 0, .int x1, .int x2, l3, l4, l5, l6] [.int y1, .int y0] v c K := by
  exact e_if (p := y1 ≤ y0) rfl g1 g2
set_option maxRecDepth 20000 in
theorem bL_isSound_10 {x1 : Int32} {x2 : Int32} {l3 : Value} {l4 : Value} {l5 : Value} {l6 : Value} {v : mmM} {c : Nat} {K : mmO → mmM → Prop} (hc : c + mm_mc kL_status ≤ mm_mc kL_isSound) (g : mm_M kL_status [.ref 0, .int x2] v (mm_Kc kL_isSound 15 [.ref 0, .int x1, .int x2, l3, l4, l5, l6] [] (c + mm_mc kL_status) K)) : mm_E kL_isSound 10 [.ref 0, .int x1, .int x2, l3, l4, l5, l6] [] v c K := by
  refine e_run 2 (pc1 := 12) (L1 := [.ref 0, .int x1, .int x2, l3, l4, l5, l6]) (S1 := [.int x2, .ref 0]) (v1 := v) rfl ?_
  exact e_cl (j := kL_status) rfl hc g
set_option maxRecDepth 20000 in
theorem bL_isSound_15 {x1 : Int32} {x2 : Int32} {l3 : Value} {l4 : Value} {l5 : Value} {l6 : Value} {y0 : Int32} {v : mmM} {c : Nat} {K : mmO → mmM → Prop} (g1 : y0 = (111 : Int32) → mm_E kL_isSound 68 [.ref 0, .int x1, .int x2, l3, l4, l5, l6] [] v c K) (g2 : ¬ y0 = (111 : Int32) → mm_E kL_isSound 20 [.ref 0, .int x1, .int x2, l3, l4, l5, l6] [] v c K) : mm_E kL_isSound 15 [.ref 0, .int x1, .int x2, l3, l4, l5, l6] [.int y0] v c K := by
  refine e_run 1 (pc1 := 17) (L1 := [.ref 0, .int x1, .int x2, l3, l4, l5, l6]) (S1 := [.int (111 : Int32), .int y0]) (v1 := v) rfl ?_
  exact e_if (p := y0 = (111 : Int32)) rfl g1 g2
set_option maxRecDepth 20000 in
theorem bL_isSound_20 {x1 : Int32} {x2 : Int32} {l3 : Value} {l4 : Value} {l5 : Value} {l6 : Value} {v : mmM} {c : Nat} {K : mmO → mmM → Prop} (hc : c + mm_mc kL_status ≤ mm_mc kL_isSound) (g : mm_M kL_status [.ref 0, .int x2] v (mm_Kc kL_isSound 25 [.ref 0, .int x1, .int x2, l3, l4, l5, l6] [] (c + mm_mc kL_status) K)) : mm_E kL_isSound 20 [.ref 0, .int x1, .int x2, l3, l4, l5, l6] [] v c K := by
  refine e_run 2 (pc1 := 22) (L1 := [.ref 0, .int x1, .int x2, l3, l4, l5, l6]) (S1 := [.int x2, .ref 0]) (v1 := v) rfl ?_
  exact e_cl (j := kL_status) rfl hc g
set_option maxRecDepth 20000 in
theorem bL_isSound_25 {x1 : Int32} {x2 : Int32} {l3 : Value} {l4 : Value} {l5 : Value} {l6 : Value} {y0 : Int32} {v : mmM} {c : Nat} {K : mmO → mmM → Prop} (g1 : y0 = (112 : Int32) → mm_E kL_isSound 68 [.ref 0, .int x1, .int x2, l3, l4, l5, l6] [] v c K) (g2 : ¬ y0 = (112 : Int32) → mm_E kL_isSound 30 [.ref 0, .int x1, .int x2, l3, l4, l5, l6] [] v c K) : mm_E kL_isSound 25 [.ref 0, .int x1, .int x2, l3, l4, l5, l6] [.int y0] v c K := by
  refine e_run 1 (pc1 := 27) (L1 := [.ref 0, .int x1, .int x2, l3, l4, l5, l6]) (S1 := [.int (112 : Int32), .int y0]) (v1 := v) rfl ?_
  exact e_if (p := y0 = (112 : Int32)) rfl g1 g2
set_option maxRecDepth 20000 in
theorem bL_isSound_30 {x1 : Int32} {x2 : Int32} {l3 : Value} {l4 : Value} {l5 : Value} {l6 : Value} {v : mmM} {c : Nat} {K : mmO → mmM → Prop} (hc : c + mm_mc kL_lines ≤ mm_mc kL_isSound) (g : mm_M kL_lines [.ref 0, .int x2] v (mm_Kc kL_isSound 35 [.ref 0, .int x1, .int x2, l3, l4, l5, l6] [] (c + mm_mc kL_lines) K)) : mm_E kL_isSound 30 [.ref 0, .int x1, .int x2, l3, l4, l5, l6] [] v c K := by
  refine e_run 2 (pc1 := 32) (L1 := [.ref 0, .int x1, .int x2, l3, l4, l5, l6]) (S1 := [.int x2, .ref 0]) (v1 := v) rfl ?_
  exact e_cl (j := kL_lines) rfl hc g
set_option maxRecDepth 20000 in
theorem bL_isSound_35 {x1 : Int32} {x2 : Int32} {l3 : Value} {l4 : Value} {l5 : Value} {l6 : Value} {y0 : Int32} {v : mmM} {c : Nat} {K : mmO → mmM → Prop} (g1 : y0 = (-1002 : Int32) → mm_E kL_isSound 41 [.ref 0, .int x1, .int x2, l3, l4, l5, l6] [] v c K) (g2 : ¬ y0 = (-1002 : Int32) → mm_E kL_isSound 66 [.ref 0, .int x1, .int x2, l3, l4, l5, l6] [] v c K) : mm_E kL_isSound 35 [.ref 0, .int x1, .int x2, l3, l4, l5, l6] [.int y0] v c K := by
  refine e_run 1 (pc1 := 38) (L1 := [.ref 0, .int x1, .int x2, l3, l4, l5, l6]) (S1 := [.int (-1002 : Int32), .int y0]) (v1 := v) rfl ?_
  exact e_if (p := y0 = (-1002 : Int32)) rfl g1 g2
set_option maxRecDepth 20000 in
theorem bL_isSound_41 {x1 : Int32} {x2 : Int32} {l3 : Value} {l4 : Value} {l5 : Value} {l6 : Value} {v : mmM} {c : Nat} {K : mmO → mmM → Prop} (hc : c + mm_mc kL_line ≤ mm_mc kL_isSound) (g : mm_M kL_line [.ref 0, .int x2, .int (0 : Int32), .int (0 : Int32)] v (mm_Kc kL_isSound 48 [.ref 0, .int x1, .int x2, l3, l4, l5, l6] [] (c + mm_mc kL_line) K)) : mm_E kL_isSound 41 [.ref 0, .int x1, .int x2, l3, l4, l5, l6] [] v c K := by
  refine e_run 4 (pc1 := 45) (L1 := [.ref 0, .int x1, .int x2, l3, l4, l5, l6]) (S1 := [.int (0 : Int32), .int (0 : Int32), .int x2, .ref 0]) (v1 := v) rfl ?_
  exact e_cl (j := kL_line) rfl hc g
set_option maxRecDepth 20000 in
theorem bL_isSound_48 {x1 : Int32} {x2 : Int32} {l3 : Value} {l4 : Value} {l5 : Value} {l6 : Value} {y0 : Int32} {v : mmM} {c : Nat} {K : mmO → mmM → Prop} (g1 : y0 = (-1002 : Int32) → mm_E kL_isSound 54 [.ref 0, .int x1, .int x2, l3, l4, l5, l6] [] v c K) (g2 : ¬ y0 = (-1002 : Int32) → mm_E kL_isSound 66 [.ref 0, .int x1, .int x2, l3, l4, l5, l6] [] v c K) : mm_E kL_isSound 48 [.ref 0, .int x1, .int x2, l3, l4, l5, l6] [.int y0] v c K := by
  refine e_run 1 (pc1 := 51) (L1 := [.ref 0, .int x1, .int x2, l3, l4, l5, l6]) (S1 := [.int (-1002 : Int32), .int y0]) (v1 := v) rfl ?_
  exact e_if (p := y0 = (-1002 : Int32)) rfl g1 g2
set_option maxRecDepth 20000 in
theorem bL_isSound_54 {x1 : Int32} {x2 : Int32} {l3 : Value} {l4 : Value} {l5 : Value} {l6 : Value} {v : mmM} {c : Nat} {K : mmO → mmM → Prop} (hc : c + mm_mc kL_walks ≤ mm_mc kL_isSound) (g : mm_M kL_walks [.ref 0, .int x2, .int (1 : Int32)] v (mm_Kc kL_isSound 60 [.ref 0, .int x1, .int x2, l3, l4, l5, l6] [] (c + mm_mc kL_walks) K)) : mm_E kL_isSound 54 [.ref 0, .int x1, .int x2, l3, l4, l5, l6] [] v c K := by
  refine e_run 3 (pc1 := 57) (L1 := [.ref 0, .int x1, .int x2, l3, l4, l5, l6]) (S1 := [.int (1 : Int32), .int x2, .ref 0]) (v1 := v) rfl ?_
  exact e_cl (j := kL_walks) rfl hc g
set_option maxRecDepth 20000 in
theorem bL_isSound_60 {x1 : Int32} {x2 : Int32} {l3 : Value} {l4 : Value} {l5 : Value} {l6 : Value} {y0 : Int32} {v : mmM} {c : Nat} {K : mmO → mmM → Prop} (g1 : y0 = (-1002 : Int32) → mm_E kL_isSound 246 [.ref 0, .int x1, .int x2, l3, l4, l5, l6] [] v c K) (g2 : ¬ y0 = (-1002 : Int32) → mm_E kL_isSound 66 [.ref 0, .int x1, .int x2, l3, l4, l5, l6] [] v c K) : mm_E kL_isSound 60 [.ref 0, .int x1, .int x2, l3, l4, l5, l6] [.int y0] v c K := by
  refine e_run 1 (pc1 := 63) (L1 := [.ref 0, .int x1, .int x2, l3, l4, l5, l6]) (S1 := [.int (-1002 : Int32), .int y0]) (v1 := v) rfl ?_
  exact e_if (p := y0 = (-1002 : Int32)) rfl g1 g2
set_option maxRecDepth 20000 in
theorem bL_isSound_66 {x1 : Int32} {x2 : Int32} {l3 : Value} {l4 : Value} {l5 : Value} {l6 : Value} {v : mmM} {c : Nat} {K : mmO → mmM → Prop} (g : K (.inl (some (.int (0 : Int32)))) v) : mm_E kL_isSound 66 [.ref 0, .int x1, .int x2, l3, l4, l5, l6] [] v c K := by
  refine e_run 1 (pc1 := 67) (L1 := [.ref 0, .int x1, .int x2, l3, l4, l5, l6]) (S1 := [.int (0 : Int32)]) (v1 := v) rfl ?_
  exact e_iret (ty := .boolean) rfl rfl (by decide) g
set_option maxRecDepth 20000 in
theorem bL_isSound_68 {x1 : Int32} {x2 : Int32} {l3 : Value} {l4 : Value} {l5 : Value} {l6 : Value} {v : mmM} {c : Nat} {K : mmO → mmM → Prop} (g : mm_E kL_isSound 73 [.ref 0, .int x1, .int x2, .int (0 : Int32), .int (0 : Int32), l5, l6] [] v c K) : mm_E kL_isSound 68 [.ref 0, .int x1, .int x2, l3, l4, l5, l6] [] v c K := by
  refine e_run 4 (pc1 := 73) (L1 := [.ref 0, .int x1, .int x2, .int (0 : Int32), .int (0 : Int32), l5, l6]) (S1 := []) (v1 := v) rfl ?_
  exact g
set_option maxRecDepth 20000 in
theorem bL_isSound_73 {x1 : Int32} {x2 : Int32} {x3 : Int32} {x4 : Int32} {l5 : Value} {l6 : Value} {v : mmM} {c : Nat} {K : mmO → mmM → Prop} (hc : c + mm_mc kL_lines ≤ mm_mc kL_isSound) (g : mm_M kL_lines [.ref 0, .int x2] v (mm_Kc kL_isSound 80 [.ref 0, .int x1, .int x2, .int x3, .int x4, l5, l6] [.int x4] (c + mm_mc kL_lines) K)) : mm_E kL_isSound 73 [.ref 0, .int x1, .int x2, .int x3, .int x4, l5, l6] [] v c K := by
  refine e_run 3 (pc1 := 77) (L1 := [.ref 0, .int x1, .int x2, .int x3, .int x4, l5, l6]) (S1 := [.int x2, .ref 0, .int x4]) (v1 := v) rfl ?_
  exact e_cl (j := kL_lines) rfl hc g
set_option maxRecDepth 20000 in
theorem bL_isSound_80 {x1 : Int32} {x2 : Int32} {x3 : Int32} {x4 : Int32} {l5 : Value} {l6 : Value} {y0 : Int32} {y1 : Int32} {v : mmM} {c : Nat} {K : mmO → mmM → Prop} (g1 : y1 ≤ y0 → mm_E kL_isSound 164 [.ref 0, .int x1, .int x2, .int x3, .int x4, l5, l6] [] v c K) (g2 : ¬ y1 ≤ y0 → mm_E kL_isSound 83 [.ref 0, .int x1, .int x2, .int x3, .int x4, l5, l6] [] v c K) : mm_E kL_isSound 80 [.ref 0, .int x1, .int x2, .int x3, .int x4, l5, l6] [.int y1, .int y0] v c K := by
  exact e_if (p := y1 ≤ y0) rfl g1 g2
set_option maxRecDepth 20000 in
theorem bL_isSound_83 {x1 : Int32} {x2 : Int32} {x3 : Int32} {x4 : Int32} {l5 : Value} {l6 : Value} {v : mmM} {c : Nat} {K : mmO → mmM → Prop} (hc : c + mm_mc kL_line ≤ mm_mc kL_isSound) (g : mm_M kL_line [.ref 0, .int x2, .int x4, .int (1 : Int32)] v (mm_Kc kL_isSound 91 [.ref 0, .int x1, .int x2, .int x3, .int x4, l5, l6] [] (c + mm_mc kL_line) K)) : mm_E kL_isSound 83 [.ref 0, .int x1, .int x2, .int x3, .int x4, l5, l6] [] v c K := by
  refine e_run 4 (pc1 := 88) (L1 := [.ref 0, .int x1, .int x2, .int x3, .int x4, l5, l6]) (S1 := [.int (1 : Int32), .int x4, .int x2, .ref 0]) (v1 := v) rfl ?_
  exact e_cl (j := kL_line) rfl hc g
set_option maxRecDepth 20000 in
theorem bL_isSound_91 {x1 : Int32} {x2 : Int32} {x3 : Int32} {x4 : Int32} {l5 : Value} {l6 : Value} {y0 : Int32} {v : mmM} {c : Nat} {K : mmO → mmM → Prop} (hc : c + mm_mc kL_line ≤ mm_mc kL_isSound) (g : mm_M kL_line [.ref 0, .int x2, .int x4, .int (0 : Int32)] v (mm_Kc kL_isSound 101 [.ref 0, .int x1, .int x2, .int x3, .int x4, .int y0, l6] [] (c + mm_mc kL_line) K)) : mm_E kL_isSound 91 [.ref 0, .int x1, .int x2, .int x3, .int x4, l5, l6] [.int y0] v c K := by
  refine e_run 5 (pc1 := 98) (L1 := [.ref 0, .int x1, .int x2, .int x3, .int x4, .int y0, l6]) (S1 := [.int (0 : Int32), .int x4, .int x2, .ref 0]) (v1 := v) rfl ?_
  exact e_cl (j := kL_line) rfl hc g
set_option maxRecDepth 20000 in
theorem bL_isSound_101 {x1 : Int32} {x2 : Int32} {x3 : Int32} {x4 : Int32} {x5 : Int32} {l6 : Value} {y0 : Int32} {v : mmM} {c : Nat} {K : mmO → mmM → Prop} (hc : c + mm_mc kL_line ≤ mm_mc kL_isSound) (g : mm_M kL_line [.ref 0, .int x2, .int x4, .int (2 : Int32)] v (mm_Kc kL_isSound 112 [.ref 0, .int x1, .int x2, .int x3, .int x4, .int x5, .int y0] [.int x3] (c + mm_mc kL_line) K)) : mm_E kL_isSound 101 [.ref 0, .int x1, .int x2, .int x3, .int x4, .int x5, l6] [.int y0] v c K := by
  refine e_run 6 (pc1 := 109) (L1 := [.ref 0, .int x1, .int x2, .int x3, .int x4, .int x5, .int y0]) (S1 := [.int (2 : Int32), .int x4, .int x2, .ref 0, .int x3]) (v1 := v) rfl ?_
  exact e_cl (j := kL_line) rfl hc g
set_option maxRecDepth 20000 in
theorem bL_isSound_112 {x1 : Int32} {x2 : Int32} {x3 : Int32} {x4 : Int32} {x5 : Int32} {x6 : Int32} {y0 : Int32} {y1 : Int32} {v : mmM} {c : Nat} {K : mmO → mmM → Prop} (hc : c + mm_mc kL_line ≤ mm_mc kL_isSound) (g : mm_M kL_line [.ref 0, .int x2, .int x4, .int (2 : Int32)] v (mm_Kc kL_isSound 122 [.ref 0, .int x1, .int x2, .int (y0 + y1), .int x4, .int x5, .int x6] [] (c + mm_mc kL_line) K)) : mm_E kL_isSound 112 [.ref 0, .int x1, .int x2, .int x3, .int x4, .int x5, .int x6] [.int y1, .int y0] v c K := by
  refine e_run 6 (pc1 := 119) (L1 := [.ref 0, .int x1, .int x2, .int (y0 + y1), .int x4, .int x5, .int x6]) (S1 := [.int (2 : Int32), .int x4, .int x2, .ref 0]) (v1 := v) rfl ?_
  exact e_cl (j := kL_line) rfl hc g
set_option maxRecDepth 20000 in
theorem bL_isSound_122 {x1 : Int32} {x2 : Int32} {x3 : Int32} {x4 : Int32} {x5 : Int32} {x6 : Int32} {y0 : Int32} {v : mmM} {c : Nat} {K : mmO → mmM → Prop} (g1 : y0 < (1 : Int32) → mm_E kL_isSound 156 [.ref 0, .int x1, .int x2, .int x3, .int x4, .int x5, .int x6] [] v c K) (g2 : ¬ y0 < (1 : Int32) → mm_E kL_isSound 126 [.ref 0, .int x1, .int x2, .int x3, .int x4, .int x5, .int x6] [] v c K) : mm_E kL_isSound 122 [.ref 0, .int x1, .int x2, .int x3, .int x4, .int x5, .int x6] [.int y0] v c K := by
  refine e_run 1 (pc1 := 123) (L1 := [.ref 0, .int x1, .int x2, .int x3, .int x4, .int x5, .int x6]) (S1 := [.int (1 : Int32), .int y0]) (v1 := v) rfl ?_
  exact e_if (p := y0 < (1 : Int32)) rfl g1 g2
set_option maxRecDepth 20000 in
theorem bL_isSound_126 {x1 : Int32} {x2 : Int32} {x3 : Int32} {x4 : Int32} {x5 : Int32} {x6 : Int32} {v : mmM} {c : Nat} {K : mmO → mmM → Prop} (hc : c + mm_mc kL_status ≤ mm_mc kL_isSound) (g : mm_M kL_status [.ref 0, .int x2] v (mm_Kc kL_isSound 131 [.ref 0, .int x1, .int x2, .int x3, .int x4, .int x5, .int x6] [] (c + mm_mc kL_status) K)) : mm_E kL_isSound 126 [.ref 0, .int x1, .int x2, .int x3, .int x4, .int x5, .int x6] [] v c K := by
  refine e_run 2 (pc1 := 128) (L1 := [.ref 0, .int x1, .int x2, .int x3, .int x4, .int x5, .int x6]) (S1 := [.int x2, .ref 0]) (v1 := v) rfl ?_
  exact e_cl (j := kL_status) rfl hc g
set_option maxRecDepth 20000 in
theorem bL_isSound_131 {x1 : Int32} {x2 : Int32} {x3 : Int32} {x4 : Int32} {x5 : Int32} {x6 : Int32} {y0 : Int32} {v : mmM} {c : Nat} {K : mmO → mmM → Prop} (g1 : y0 = (111 : Int32) → mm_E kL_isSound 136 [.ref 0, .int x1, .int x2, .int x3, .int x4, .int x5, .int x6] [] v c K) (g2 : ¬ y0 = (111 : Int32) → mm_E kL_isSound 158 [.ref 0, .int x1, .int x2, .int x3, .int x4, .int x5, .int x6] [] v c K) : mm_E kL_isSound 131 [.ref 0, .int x1, .int x2, .int x3, .int x4, .int x5, .int x6] [.int y0] v c K := by
  refine e_run 1 (pc1 := 133) (L1 := [.ref 0, .int x1, .int x2, .int x3, .int x4, .int x5, .int x6]) (S1 := [.int (111 : Int32), .int y0]) (v1 := v) rfl ?_
  exact e_if (p := y0 = (111 : Int32)) rfl g1 g2
set_option maxRecDepth 20000 in
theorem bL_isSound_136 {x1 : Int32} {x2 : Int32} {x3 : Int32} {x4 : Int32} {x5 : Int32} {x6 : Int32} {v : mmM} {c : Nat} {K : mmO → mmM → Prop} (hc : c + mm_mc kL_stock ≤ mm_mc kL_isSound) (g : mm_M kL_stock [.ref 0, .int x5, .int x6, .int (0 : Int32)] v (mm_Kc kL_isSound 145 [.ref 0, .int x1, .int x2, .int x3, .int x4, .int x5, .int x6] [] (c + mm_mc kL_stock) K)) : mm_E kL_isSound 136 [.ref 0, .int x1, .int x2, .int x3, .int x4, .int x5, .int x6] [] v c K := by
  refine e_run 4 (pc1 := 142) (L1 := [.ref 0, .int x1, .int x2, .int x3, .int x4, .int x5, .int x6]) (S1 := [.int (0 : Int32), .int x6, .int x5, .ref 0]) (v1 := v) rfl ?_
  exact e_cl (j := kL_stock) rfl hc g
set_option maxRecDepth 20000 in
theorem bL_isSound_145 {x1 : Int32} {x2 : Int32} {x3 : Int32} {x4 : Int32} {x5 : Int32} {x6 : Int32} {y0 : Int32} {v : mmM} {c : Nat} {K : mmO → mmM → Prop} (hc : c + mm_mc kL_line ≤ mm_mc kL_isSound) (g : mm_M kL_line [.ref 0, .int x2, .int x4, .int (2 : Int32)] v (mm_Kc kL_isSound 153 [.ref 0, .int x1, .int x2, .int x3, .int x4, .int x5, .int x6] [.int y0] (c + mm_mc kL_line) K)) : mm_E kL_isSound 145 [.ref 0, .int x1, .int x2, .int x3, .int x4, .int x5, .int x6] [.int y0] v c K := by
  refine e_run 4 (pc1 := 150) (L1 := [.ref 0, .int x1, .int x2, .int x3, .int x4, .int x5, .int x6]) (S1 := [.int (2 : Int32), .int x4, .int x2, .ref 0, .int y0]) (v1 := v) rfl ?_
  exact e_cl (j := kL_line) rfl hc g
set_option maxRecDepth 20000 in
theorem bL_isSound_153 {x1 : Int32} {x2 : Int32} {x3 : Int32} {x4 : Int32} {x5 : Int32} {x6 : Int32} {y0 : Int32} {y1 : Int32} {v : mmM} {c : Nat} {K : mmO → mmM → Prop} (g1 : y1 ≤ y0 → mm_E kL_isSound 158 [.ref 0, .int x1, .int x2, .int x3, .int x4, .int x5, .int x6] [] v c K) (g2 : ¬ y1 ≤ y0 → mm_E kL_isSound 156 [.ref 0, .int x1, .int x2, .int x3, .int x4, .int x5, .int x6] [] v c K) : mm_E kL_isSound 153 [.ref 0, .int x1, .int x2, .int x3, .int x4, .int x5, .int x6] [.int y1, .int y0] v c K := by
  exact e_if (p := y1 ≤ y0) rfl g1 g2
set_option maxRecDepth 20000 in
theorem bL_isSound_156 {x1 : Int32} {x2 : Int32} {x3 : Int32} {x4 : Int32} {x5 : Int32} {x6 : Int32} {v : mmM} {c : Nat} {K : mmO → mmM → Prop} (g : K (.inl (some (.int (0 : Int32)))) v) : mm_E kL_isSound 156 [.ref 0, .int x1, .int x2, .int x3, .int x4, .int x5, .int x6] [] v c K := by
  refine e_run 1 (pc1 := 157) (L1 := [.ref 0, .int x1, .int x2, .int x3, .int x4, .int x5, .int x6]) (S1 := [.int (0 : Int32)]) (v1 := v) rfl ?_
  exact e_iret (ty := .boolean) rfl rfl (by decide) g
set_option maxRecDepth 20000 in
theorem bL_isSound_158 {x1 : Int32} {x2 : Int32} {x3 : Int32} {x4 : Int32} {x5 : Int32} {x6 : Int32} {v : mmM} {c : Nat} {K : mmO → mmM → Prop} (g : mm_E kL_isSound 73 [.ref 0, .int x1, .int x2, .int x3, .int (x4 + (1 : Int32)), .int x5, .int x6] [] v c K) : mm_E kL_isSound 158 [.ref 0, .int x1, .int x2, .int x3, .int x4, .int x5, .int x6] [] v c K := by
  refine e_run 2 (pc1 := 73) (L1 := [.ref 0, .int x1, .int x2, .int x3, .int (x4 + (1 : Int32)), .int x5, .int x6]) (S1 := []) (v1 := v) rfl ?_
  exact g
set_option maxRecDepth 20000 in
theorem bL_isSound_164 {x1 : Int32} {x2 : Int32} {x3 : Int32} {x4 : Int32} {l5 : Value} {l6 : Value} {v : mmM} {c : Nat} {K : mmO → mmM → Prop} (g : mm_E kL_isSound 167 [.ref 0, .int x1, .int x2, .int x3, .int (0 : Int32), l5, l6] [] v c K) : mm_E kL_isSound 164 [.ref 0, .int x1, .int x2, .int x3, .int x4, l5, l6] [] v c K := by
  refine e_run 2 (pc1 := 167) (L1 := [.ref 0, .int x1, .int x2, .int x3, .int (0 : Int32), l5, l6]) (S1 := []) (v1 := v) rfl ?_
  exact g
set_option maxRecDepth 20000 in
theorem bL_isSound_167 {x1 : Int32} {x2 : Int32} {x3 : Int32} {x4 : Int32} {l5 : Value} {l6 : Value} {v : mmM} {c : Nat} {K : mmO → mmM → Prop} (g1 : x1 ≤ x4 → mm_E kL_isSound 189 [.ref 0, .int x1, .int x2, .int x3, .int x4, l5, l6] [] v c K) (g2 : ¬ x1 ≤ x4 → mm_E kL_isSound 173 [.ref 0, .int x1, .int x2, .int x3, .int x4, l5, l6] [] v c K) : mm_E kL_isSound 167 [.ref 0, .int x1, .int x2, .int x3, .int x4, l5, l6] [] v c K := by
  refine e_run 2 (pc1 := 170) (L1 := [.ref 0, .int x1, .int x2, .int x3, .int x4, l5, l6]) (S1 := [.int x1, .int x4]) (v1 := v) rfl ?_
  exact e_if (p := x1 ≤ x4) rfl g1 g2
set_option maxRecDepth 20000 in
theorem bL_isSound_173 {x1 : Int32} {x2 : Int32} {x3 : Int32} {x4 : Int32} {l5 : Value} {l6 : Value} {v : mmM} {c : Nat} {K : mmO → mmM → Prop} (hc : c + mm_mc kX5_quantity ≤ mm_mc kL_isSound) (g : mm_M kX5_quantity [.ref 0, .int x2, .int x4] v (mm_Kc kL_isSound 181 [.ref 0, .int x1, .int x2, .int x3, .int x4, l5, l6] [.int x3] (c + mm_mc kX5_quantity) K)) : mm_E kL_isSound 173 [.ref 0, .int x1, .int x2, .int x3, .int x4, l5, l6] [] v c K := by
  refine e_run 4 (pc1 := 178) (L1 := [.ref 0, .int x1, .int x2, .int x3, .int x4, l5, l6]) (S1 := [.int x4, .int x2, .ref 0, .int x3]) (v1 := v) rfl ?_
  exact e_cl (j := kX5_quantity) rfl hc g
set_option maxRecDepth 20000 in
theorem bL_isSound_181 {x1 : Int32} {x2 : Int32} {x3 : Int32} {x4 : Int32} {l5 : Value} {l6 : Value} {y0 : Int32} {y1 : Int32} {v : mmM} {c : Nat} {K : mmO → mmM → Prop} (g : mm_E kL_isSound 167 [.ref 0, .int x1, .int x2, .int (y0 - y1), .int (x4 + (1 : Int32)), l5, l6] [] v c K) : mm_E kL_isSound 181 [.ref 0, .int x1, .int x2, .int x3, .int x4, l5, l6] [.int y1, .int y0] v c K := by
  refine e_run 4 (pc1 := 167) (L1 := [.ref 0, .int x1, .int x2, .int (y0 - y1), .int (x4 + (1 : Int32)), l5, l6]) (S1 := []) (v1 := v) rfl ?_
  exact g
set_option maxRecDepth 20000 in
theorem bL_isSound_189 {x1 : Int32} {x2 : Int32} {x3 : Int32} {x4 : Int32} {l5 : Value} {l6 : Value} {v : mmM} {c : Nat} {K : mmO → mmM → Prop} (g1 : x3 = 0 → mm_E kL_isSound 193 [.ref 0, .int x1, .int x2, .int x3, .int x4, l5, l6] [] v c K) (g2 : ¬ x3 = 0 → mm_E kL_isSound 244 [.ref 0, .int x1, .int x2, .int x3, .int x4, l5, l6] [] v c K) : mm_E kL_isSound 189 [.ref 0, .int x1, .int x2, .int x3, .int x4, l5, l6] [] v c K := by
  refine e_run 1 (pc1 := 190) (L1 := [.ref 0, .int x1, .int x2, .int x3, .int x4, l5, l6]) (S1 := [.int x3]) (v1 := v) rfl ?_
  exact e_if (p := x3 = 0) rfl g1 g2
set_option maxRecDepth 20000 in
theorem bL_isSound_193 {x1 : Int32} {x2 : Int32} {x3 : Int32} {x4 : Int32} {l5 : Value} {l6 : Value} {v : mmM} {c : Nat} {K : mmO → mmM → Prop} (hc : c + mm_mc kL_lines ≤ mm_mc kL_isSound) (g : mm_M kL_lines [.ref 0, .int x2] v (mm_Kc kL_isSound 198 [.ref 0, .int x1, .int x2, .int x3, .int x4, l5, l6] [] (c + mm_mc kL_lines) K)) : mm_E kL_isSound 193 [.ref 0, .int x1, .int x2, .int x3, .int x4, l5, l6] [] v c K := by
  refine e_run 2 (pc1 := 195) (L1 := [.ref 0, .int x1, .int x2, .int x3, .int x4, l5, l6]) (S1 := [.int x2, .ref 0]) (v1 := v) rfl ?_
  exact e_cl (j := kL_lines) rfl hc g
set_option maxRecDepth 20000 in
theorem bL_isSound_198 {x1 : Int32} {x2 : Int32} {x3 : Int32} {x4 : Int32} {l5 : Value} {l6 : Value} {y0 : Int32} {v : mmM} {c : Nat} {K : mmO → mmM → Prop} (g1 : y0 < (1 : Int32) → mm_E kL_isSound 244 [.ref 0, .int x1, .int x2, .int x3, .int x4, l5, l6] [] v c K) (g2 : ¬ y0 < (1 : Int32) → mm_E kL_isSound 202 [.ref 0, .int x1, .int x2, .int x3, .int x4, l5, l6] [] v c K) : mm_E kL_isSound 198 [.ref 0, .int x1, .int x2, .int x3, .int x4, l5, l6] [.int y0] v c K := by
  refine e_run 1 (pc1 := 199) (L1 := [.ref 0, .int x1, .int x2, .int x3, .int x4, l5, l6]) (S1 := [.int (1 : Int32), .int y0]) (v1 := v) rfl ?_
  exact e_if (p := y0 < (1 : Int32)) rfl g1 g2
set_option maxRecDepth 20000 in
theorem bL_isSound_202 {x1 : Int32} {x2 : Int32} {x3 : Int32} {x4 : Int32} {l5 : Value} {l6 : Value} {v : mmM} {c : Nat} {K : mmO → mmM → Prop} (hc : c + mm_mc kL_walks ≤ mm_mc kL_isSound) (g : mm_M kL_walks [.ref 0, .int x2, .int (0 : Int32)] v (mm_Kc kL_isSound 208 [.ref 0, .int x1, .int x2, .int x3, .int x4, l5, l6] [] (c + mm_mc kL_walks) K)) : mm_E kL_isSound 202 [.ref 0, .int x1, .int x2, .int x3, .int x4, l5, l6] [] v c K := by
  refine e_run 3 (pc1 := 205) (L1 := [.ref 0, .int x1, .int x2, .int x3, .int x4, l5, l6]) (S1 := [.int (0 : Int32), .int x2, .ref 0]) (v1 := v) rfl ?_
  exact e_cl (j := kL_walks) rfl hc g
set_option maxRecDepth 20000 in
theorem bL_isSound_208 {x1 : Int32} {x2 : Int32} {x3 : Int32} {x4 : Int32} {l5 : Value} {l6 : Value} {y0 : Int32} {v : mmM} {c : Nat} {K : mmO → mmM → Prop} (hc : c + mm_mc kL_walks ≤ mm_mc kL_isSound) (g : mm_M kL_walks [.ref 0, .int x2, .int (1 : Int32)] v (mm_Kc kL_isSound 214 [.ref 0, .int x1, .int x2, .int x3, .int x4, l5, l6] [.int y0] (c + mm_mc kL_walks) K)) : mm_E kL_isSound 208 [.ref 0, .int x1, .int x2, .int x3, .int x4, l5, l6] [.int y0] v c K := by
  refine e_run 3 (pc1 := 211) (L1 := [.ref 0, .int x1, .int x2, .int x3, .int x4, l5, l6]) (S1 := [.int (1 : Int32), .int x2, .ref 0, .int y0]) (v1 := v) rfl ?_
  exact e_cl (j := kL_walks) rfl hc g
set_option maxRecDepth 20000 in
theorem bL_isSound_214 {x1 : Int32} {x2 : Int32} {x3 : Int32} {x4 : Int32} {l5 : Value} {l6 : Value} {y0 : Int32} {y1 : Int32} {v : mmM} {c : Nat} {K : mmO → mmM → Prop} (g1 : y0 = y1 → mm_E kL_isSound 217 [.ref 0, .int x1, .int x2, .int x3, .int x4, l5, l6] [] v c K) (g2 : ¬ y0 = y1 → mm_E kL_isSound 244 [.ref 0, .int x1, .int x2, .int x3, .int x4, l5, l6] [] v c K) : mm_E kL_isSound 214 [.ref 0, .int x1, .int x2, .int x3, .int x4, l5, l6] [.int y1, .int y0] v c K := by
  exact e_if (p := y0 = y1) rfl g1 g2
set_option maxRecDepth 20000 in
theorem bL_isSound_217 {x1 : Int32} {x2 : Int32} {x3 : Int32} {x4 : Int32} {l5 : Value} {l6 : Value} {v : mmM} {c : Nat} {K : mmO → mmM → Prop} (hc : c + mm_mc kL_walks ≤ mm_mc kL_isSound) (g : mm_M kL_walks [.ref 0, .int x2, .int (0 : Int32)] v (mm_Kc kL_isSound 223 [.ref 0, .int x1, .int x2, .int x3, .int x4, l5, l6] [] (c + mm_mc kL_walks) K)) : mm_E kL_isSound 217 [.ref 0, .int x1, .int x2, .int x3, .int x4, l5, l6] [] v c K := by
  refine e_run 3 (pc1 := 220) (L1 := [.ref 0, .int x1, .int x2, .int x3, .int x4, l5, l6]) (S1 := [.int (0 : Int32), .int x2, .ref 0]) (v1 := v) rfl ?_
  exact e_cl (j := kL_walks) rfl hc g
set_option maxRecDepth 20000 in
theorem bL_isSound_223 {x1 : Int32} {x2 : Int32} {x3 : Int32} {x4 : Int32} {l5 : Value} {l6 : Value} {y0 : Int32} {v : mmM} {c : Nat} {K : mmO → mmM → Prop} (g1 : y0 < (2 : Int32) → mm_E kL_isSound 244 [.ref 0, .int x1, .int x2, .int x3, .int x4, l5, l6] [] v c K) (g2 : ¬ y0 < (2 : Int32) → mm_E kL_isSound 227 [.ref 0, .int x1, .int x2, .int x3, .int x4, l5, l6] [] v c K) : mm_E kL_isSound 223 [.ref 0, .int x1, .int x2, .int x3, .int x4, l5, l6] [.int y0] v c K := by
  refine e_run 1 (pc1 := 224) (L1 := [.ref 0, .int x1, .int x2, .int x3, .int x4, l5, l6]) (S1 := [.int (2 : Int32), .int y0]) (v1 := v) rfl ?_
  exact e_if (p := y0 < (2 : Int32)) rfl g1 g2
set_option maxRecDepth 20000 in
theorem bL_isSound_227 {x1 : Int32} {x2 : Int32} {x3 : Int32} {x4 : Int32} {l5 : Value} {l6 : Value} {v : mmM} {c : Nat} {K : mmO → mmM → Prop} (hc : c + mm_mc kL_lines ≤ mm_mc kL_isSound) (g : mm_M kL_lines [.ref 0, .int x2] v (mm_Kc kL_isSound 234 [.ref 0, .int x1, .int x2, .int x3, .int x4, l5, l6] [.int x2, .ref 0] (c + mm_mc kL_lines) K)) : mm_E kL_isSound 227 [.ref 0, .int x1, .int x2, .int x3, .int x4, l5, l6] [] v c K := by
  refine e_run 4 (pc1 := 231) (L1 := [.ref 0, .int x1, .int x2, .int x3, .int x4, l5, l6]) (S1 := [.int x2, .ref 0, .int x2, .ref 0]) (v1 := v) rfl ?_
  exact e_cl (j := kL_lines) rfl hc g
set_option maxRecDepth 20000 in
theorem bL_isSound_234 {x1 : Int32} {x2 : Int32} {x3 : Int32} {x4 : Int32} {l5 : Value} {l6 : Value} {y1 : Int32} {y2 : Int32} {v : mmM} {c : Nat} {K : mmO → mmM → Prop} (hc : c + mm_mc kL_line ≤ mm_mc kL_isSound) (g : mm_M kL_line [.ref 0, .int y1, .int y2, .int (0 : Int32)] v (mm_Kc kL_isSound 238 [.ref 0, .int x1, .int x2, .int x3, .int x4, l5, l6] [] (c + mm_mc kL_line) K)) : mm_E kL_isSound 234 [.ref 0, .int x1, .int x2, .int x3, .int x4, l5, l6] [.int y2, .int y1, .ref 0] v c K := by
  refine e_run 1 (pc1 := 235) (L1 := [.ref 0, .int x1, .int x2, .int x3, .int x4, l5, l6]) (S1 := [.int (0 : Int32), .int y2, .int y1, .ref 0]) (v1 := v) rfl ?_
  exact e_cl (j := kL_line) rfl hc g
set_option maxRecDepth 20000 in
theorem bL_isSound_238 {x1 : Int32} {x2 : Int32} {x3 : Int32} {x4 : Int32} {l5 : Value} {l6 : Value} {y0 : Int32} {v : mmM} {c : Nat} {K : mmO → mmM → Prop} (g1 : y0 = (-1003 : Int32) → mm_E kL_isSound 246 [.ref 0, .int x1, .int x2, .int x3, .int x4, l5, l6] [] v c K) (g2 : ¬ y0 = (-1003 : Int32) → mm_E kL_isSound 244 [.ref 0, .int x1, .int x2, .int x3, .int x4, l5, l6] [] v c K) : mm_E kL_isSound 238 [.ref 0, .int x1, .int x2, .int x3, .int x4, l5, l6] [.int y0] v c K := by
  refine e_run 1 (pc1 := 241) (L1 := [.ref 0, .int x1, .int x2, .int x3, .int x4, l5, l6]) (S1 := [.int (-1003 : Int32), .int y0]) (v1 := v) rfl ?_
  exact e_if (p := y0 = (-1003 : Int32)) rfl g1 g2
set_option maxRecDepth 20000 in
theorem bL_isSound_244 {x1 : Int32} {x2 : Int32} {x3 : Int32} {x4 : Int32} {l5 : Value} {l6 : Value} {v : mmM} {c : Nat} {K : mmO → mmM → Prop} (g : K (.inl (some (.int (0 : Int32)))) v) : mm_E kL_isSound 244 [.ref 0, .int x1, .int x2, .int x3, .int x4, l5, l6] [] v c K := by
  refine e_run 1 (pc1 := 245) (L1 := [.ref 0, .int x1, .int x2, .int x3, .int x4, l5, l6]) (S1 := [.int (0 : Int32)]) (v1 := v) rfl ?_
  exact e_iret (ty := .boolean) rfl rfl (by decide) g
set_option maxRecDepth 20000 in
theorem bL_isSound_246 {x1 : Int32} {x2 : Int32} {l3 : Value} {l4 : Value} {l5 : Value} {l6 : Value} {v : mmM} {c : Nat} {K : mmO → mmM → Prop} (g : mm_E kL_isSound 2 [.ref 0, .int x1, .int (x2 + (1 : Int32)), l3, l4, l5, l6] [] v c K) : mm_E kL_isSound 246 [.ref 0, .int x1, .int x2, l3, l4, l5, l6] [] v c K := by
  refine e_run 2 (pc1 := 2) (L1 := [.ref 0, .int x1, .int (x2 + (1 : Int32)), l3, l4, l5, l6]) (S1 := []) (v1 := v) rfl ?_
  exact g
set_option maxRecDepth 20000 in
theorem bL_isSound_252 {x1 : Int32} {x2 : Int32} {l3 : Value} {l4 : Value} {l5 : Value} {l6 : Value} {v : mmM} {c : Nat} {K : mmO → mmM → Prop} (g : mm_E kL_isSound 256 [.ref 0, .int x1, .int (0 : Int32), .int (0 : Int32), l4, l5, l6] [] v c K) : mm_E kL_isSound 252 [.ref 0, .int x1, .int x2, l3, l4, l5, l6] [] v c K := by
  refine e_run 4 (pc1 := 256) (L1 := [.ref 0, .int x1, .int (0 : Int32), .int (0 : Int32), l4, l5, l6]) (S1 := []) (v1 := v) rfl ?_
  exact g
set_option maxRecDepth 20000 in
theorem bL_isSound_256 {x1 : Int32} {x2 : Int32} {x3 : Int32} {l4 : Value} {l5 : Value} {l6 : Value} {v : mmM} {c : Nat} {K : mmO → mmM → Prop} (g1 : (40 : Int32) ≤ x3 → mm_E kL_isSound 397 [.ref 0, .int x1, .int x2, .int x3, l4, l5, l6] [] v c K) (g2 : ¬ (40 : Int32) ≤ x3 → mm_E kL_isSound 262 [.ref 0, .int x1, .int x2, .int x3, l4, l5, l6] [] v c K) : mm_E kL_isSound 256 [.ref 0, .int x1, .int x2, .int x3, l4, l5, l6] [] v c K := by
  refine e_run 2 (pc1 := 259) (L1 := [.ref 0, .int x1, .int x2, .int x3, l4, l5, l6]) (S1 := [.int (40 : Int32), .int x3]) (v1 := v) rfl ?_
  exact e_if (p := (40 : Int32) ≤ x3) rfl g1 g2
set_option maxRecDepth 20000 in
theorem bL_isSound_262 {x1 : Int32} {x2 : Int32} {x3 : Int32} {l4 : Value} {l5 : Value} {l6 : Value} {v : mmM} {c : Nat} {K : mmO → mmM → Prop} (g : mm_E kL_isSound 268 [.ref 0, .int x1, .int x2, .int x3, .int (0 : Int32), .int (0 : Int32), l6] [] v c K) : mm_E kL_isSound 262 [.ref 0, .int x1, .int x2, .int x3, l4, l5, l6] [] v c K := by
  refine e_run 4 (pc1 := 268) (L1 := [.ref 0, .int x1, .int x2, .int x3, .int (0 : Int32), .int (0 : Int32), l6]) (S1 := []) (v1 := v) rfl ?_
  exact g
set_option maxRecDepth 20000 in
theorem bL_isSound_268 {x1 : Int32} {x2 : Int32} {x3 : Int32} {x4 : Int32} {x5 : Int32} {l6 : Value} {v : mmM} {c : Nat} {K : mmO → mmM → Prop} (hc : c + mm_mc kX5_lots ≤ mm_mc kL_isSound) (g : mm_M kX5_lots [.ref 0] v (mm_Kc kL_isSound 274 [.ref 0, .int x1, .int x2, .int x3, .int x4, .int x5, l6] [.int x5] (c + mm_mc kX5_lots) K)) : mm_E kL_isSound 268 [.ref 0, .int x1, .int x2, .int x3, .int x4, .int x5, l6] [] v c K := by
  refine e_run 2 (pc1 := 271) (L1 := [.ref 0, .int x1, .int x2, .int x3, .int x4, .int x5, l6]) (S1 := [.ref 0, .int x5]) (v1 := v) rfl ?_
  exact e_cl (j := kX5_lots) rfl hc g
set_option maxRecDepth 20000 in
theorem bL_isSound_274 {x1 : Int32} {x2 : Int32} {x3 : Int32} {x4 : Int32} {x5 : Int32} {l6 : Value} {y0 : Int32} {y1 : Int32} {v : mmM} {c : Nat} {K : mmO → mmM → Prop} (g1 : y1 ≤ y0 → mm_E kL_isSound 317 [.ref 0, .int x1, .int x2, .int x3, .int x4, .int x5, l6] [] v c K) (g2 : ¬ y1 ≤ y0 → mm_E kL_isSound 277 [.ref 0, .int x1, .int x2, .int x3, .int x4, .int x5, l6] [] v c K) : mm_E kL_isSound 274 [.ref 0, .int x1, .int x2, .int x3, .int x4, .int x5, l6] [.int y1, .int y0] v c K := by
  exact e_if (p := y1 ≤ y0) rfl g1 g2
set_option maxRecDepth 20000 in
theorem bL_isSound_277 {x1 : Int32} {x2 : Int32} {x3 : Int32} {x4 : Int32} {x5 : Int32} {l6 : Value} {v : mmM} {c : Nat} {K : mmO → mmM → Prop} (hc : c + mm_mc kL_stock ≤ mm_mc kL_isSound) (g : mm_M kL_stock [.ref 0, .int x5, .int x3, .int (0 : Int32)] v (mm_Kc kL_isSound 287 [.ref 0, .int x1, .int x2, .int x3, .int x4, .int x5, l6] [.int x4] (c + mm_mc kL_stock) K)) : mm_E kL_isSound 277 [.ref 0, .int x1, .int x2, .int x3, .int x4, .int x5, l6] [] v c K := by
  refine e_run 5 (pc1 := 284) (L1 := [.ref 0, .int x1, .int x2, .int x3, .int x4, .int x5, l6]) (S1 := [.int (0 : Int32), .int x3, .int x5, .ref 0, .int x4]) (v1 := v) rfl ?_
  exact e_cl (j := kL_stock) rfl hc g
set_option maxRecDepth 20000 in
theorem bL_isSound_287 {x1 : Int32} {x2 : Int32} {x3 : Int32} {x4 : Int32} {x5 : Int32} {l6 : Value} {y0 : Int32} {y1 : Int32} {v : mmM} {c : Nat} {K : mmO → mmM → Prop} (hc : c + mm_mc kL_stock ≤ mm_mc kL_isSound) (g : mm_M kL_stock [.ref 0, .int x5, .int x3, .int (0 : Int32)] v (mm_Kc kL_isSound 298 [.ref 0, .int x1, .int x2, .int x3, .int (y0 + y1), .int x5, l6] [] (c + mm_mc kL_stock) K)) : mm_E kL_isSound 287 [.ref 0, .int x1, .int x2, .int x3, .int x4, .int x5, l6] [.int y1, .int y0] v c K := by
  refine e_run 6 (pc1 := 295) (L1 := [.ref 0, .int x1, .int x2, .int x3, .int (y0 + y1), .int x5, l6]) (S1 := [.int (0 : Int32), .int x3, .int x5, .ref 0]) (v1 := v) rfl ?_
  exact e_cl (j := kL_stock) rfl hc g
set_option maxRecDepth 20000 in
theorem bL_isSound_298 {x1 : Int32} {x2 : Int32} {x3 : Int32} {x4 : Int32} {x5 : Int32} {l6 : Value} {y0 : Int32} {v : mmM} {c : Nat} {K : mmO → mmM → Prop} (hc : c + mm_mc kL_stock ≤ mm_mc kL_isSound) (g : mm_M kL_stock [.ref 0, .int x5, .int x3, .int (1 : Int32)] v (mm_Kc kL_isSound 306 [.ref 0, .int x1, .int x2, .int x3, .int x4, .int x5, l6] [.int y0] (c + mm_mc kL_stock) K)) : mm_E kL_isSound 298 [.ref 0, .int x1, .int x2, .int x3, .int x4, .int x5, l6] [.int y0] v c K := by
  refine e_run 4 (pc1 := 303) (L1 := [.ref 0, .int x1, .int x2, .int x3, .int x4, .int x5, l6]) (S1 := [.int (1 : Int32), .int x3, .int x5, .ref 0, .int y0]) (v1 := v) rfl ?_
  exact e_cl (j := kL_stock) rfl hc g
set_option maxRecDepth 20000 in
theorem bL_isSound_306 {x1 : Int32} {x2 : Int32} {x3 : Int32} {x4 : Int32} {x5 : Int32} {l6 : Value} {y0 : Int32} {y1 : Int32} {v : mmM} {c : Nat} {K : mmO → mmM → Prop} (g1 : y0 = y1 → mm_E kL_isSound 311 [.ref 0, .int x1, .int x2, .int x3, .int x4, .int x5, l6] [] v c K) (g2 : ¬ y0 = y1 → mm_E kL_isSound 309 [.ref 0, .int x1, .int x2, .int x3, .int x4, .int x5, l6] [] v c K) : mm_E kL_isSound 306 [.ref 0, .int x1, .int x2, .int x3, .int x4, .int x5, l6] [.int y1, .int y0] v c K := by
  exact e_if (p := y0 = y1) rfl g1 g2
set_option maxRecDepth 20000 in
theorem bL_isSound_309 {x1 : Int32} {x2 : Int32} {x3 : Int32} {x4 : Int32} {x5 : Int32} {l6 : Value} {v : mmM} {c : Nat} {K : mmO → mmM → Prop} (g : K (.inl (some (.int (0 : Int32)))) v) : mm_E kL_isSound 309 [.ref 0, .int x1, .int x2, .int x3, .int x4, .int x5, l6] [] v c K := by
  refine e_run 1 (pc1 := 310) (L1 := [.ref 0, .int x1, .int x2, .int x3, .int x4, .int x5, l6]) (S1 := [.int (0 : Int32)]) (v1 := v) rfl ?_
  exact e_iret (ty := .boolean) rfl rfl (by decide) g
set_option maxRecDepth 20000 in
theorem bL_isSound_311 {x1 : Int32} {x2 : Int32} {x3 : Int32} {x4 : Int32} {x5 : Int32} {l6 : Value} {v : mmM} {c : Nat} {K : mmO → mmM → Prop} (g : mm_E kL_isSound 268 [.ref 0, .int x1, .int x2, .int x3, .int x4, .int (x5 + (1 : Int32)), l6] [] v c K) : mm_E kL_isSound 311 [.ref 0, .int x1, .int x2, .int x3, .int x4, .int x5, l6] [] v c K := by
  refine e_run 2 (pc1 := 268) (L1 := [.ref 0, .int x1, .int x2, .int x3, .int x4, .int (x5 + (1 : Int32)), l6]) (S1 := []) (v1 := v) rfl ?_
  exact g
set_option maxRecDepth 20000 in
theorem bL_isSound_317 {x1 : Int32} {x2 : Int32} {x3 : Int32} {x4 : Int32} {x5 : Int32} {l6 : Value} {v : mmM} {c : Nat} {K : mmO → mmM → Prop} (hc : c + mm_mc kX5_load ≤ mm_mc kL_isSound) (g : mm_M kX5_load [.ref 0, .int x3] v (mm_Kc kL_isSound 327 [.ref 0, .int x1, .int (x2 + x4), .int x3, .int x4, .int x5, l6] [] (c + mm_mc kX5_load) K)) : mm_E kL_isSound 317 [.ref 0, .int x1, .int x2, .int x3, .int x4, .int x5, l6] [] v c K := by
  refine e_run 6 (pc1 := 324) (L1 := [.ref 0, .int x1, .int (x2 + x4), .int x3, .int x4, .int x5, l6]) (S1 := [.int x3, .ref 0]) (v1 := v) rfl ?_
  exact e_cl (j := kX5_load) rfl hc g
set_option maxRecDepth 20000 in
theorem bL_isSound_327 {x1 : Int32} {x2 : Int32} {x3 : Int32} {x4 : Int32} {x5 : Int32} {l6 : Value} {y0 : Int32} {v : mmM} {c : Nat} {K : mmO → mmM → Prop} (g1 : y0 = x4 → mm_E kL_isSound 332 [.ref 0, .int x1, .int x2, .int x3, .int x4, .int x5, l6] [] v c K) (g2 : ¬ y0 = x4 → mm_E kL_isSound 389 [.ref 0, .int x1, .int x2, .int x3, .int x4, .int x5, l6] [] v c K) : mm_E kL_isSound 327 [.ref 0, .int x1, .int x2, .int x3, .int x4, .int x5, l6] [.int y0] v c K := by
  refine e_run 1 (pc1 := 329) (L1 := [.ref 0, .int x1, .int x2, .int x3, .int x4, .int x5, l6]) (S1 := [.int x4, .int y0]) (v1 := v) rfl ?_
  exact e_if (p := y0 = x4) rfl g1 g2
set_option maxRecDepth 20000 in
theorem bL_isSound_332 {x1 : Int32} {x2 : Int32} {x3 : Int32} {x4 : Int32} {x5 : Int32} {l6 : Value} {v : mmM} {c : Nat} {K : mmO → mmM → Prop} (g1 : (30 : Int32) < x4 → mm_E kL_isSound 389 [.ref 0, .int x1, .int x2, .int x3, .int x4, .int x5, l6] [] v c K) (g2 : ¬ (30 : Int32) < x4 → mm_E kL_isSound 339 [.ref 0, .int x1, .int x2, .int x3, .int x4, .int x5, l6] [] v c K) : mm_E kL_isSound 332 [.ref 0, .int x1, .int x2, .int x3, .int x4, .int x5, l6] [] v c K := by
  refine e_run 2 (pc1 := 336) (L1 := [.ref 0, .int x1, .int x2, .int x3, .int x4, .int x5, l6]) (S1 := [.int (30 : Int32), .int x4]) (v1 := v) rfl ?_
  exact e_if (p := (30 : Int32) < x4) rfl g1 g2
set_option maxRecDepth 20000 in
theorem bL_isSound_339 {x1 : Int32} {x2 : Int32} {x3 : Int32} {x4 : Int32} {x5 : Int32} {l6 : Value} {v : mmM} {c : Nat} {K : mmO → mmM → Prop} (g1 : x4 = 0 → mm_E kL_isSound 344 [.ref 0, .int x1, .int x2, .int x3, .int x4, .int x5, l6] [] v c K) (g2 : ¬ x4 = 0 → mm_E kL_isSound 348 [.ref 0, .int x1, .int x2, .int x3, .int x4, .int x5, l6] [] v c K) : mm_E kL_isSound 339 [.ref 0, .int x1, .int x2, .int x3, .int x4, .int x5, l6] [] v c K := by
  refine e_run 1 (pc1 := 341) (L1 := [.ref 0, .int x1, .int x2, .int x3, .int x4, .int x5, l6]) (S1 := [.int x4]) (v1 := v) rfl ?_
  exact e_if (p := x4 = 0) rfl g1 g2
set_option maxRecDepth 20000 in
theorem bL_isSound_344 {x1 : Int32} {x2 : Int32} {x3 : Int32} {x4 : Int32} {x5 : Int32} {l6 : Value} {v : mmM} {c : Nat} {K : mmO → mmM → Prop} (g : mm_E kL_isSound 349 [.ref 0, .int x1, .int x2, .int x3, .int x4, .int x5, l6] [.int (1 : Int32)] v c K) : mm_E kL_isSound 344 [.ref 0, .int x1, .int x2, .int x3, .int x4, .int x5, l6] [] v c K := by
  refine e_run 2 (pc1 := 349) (L1 := [.ref 0, .int x1, .int x2, .int x3, .int x4, .int x5, l6]) (S1 := [.int (1 : Int32)]) (v1 := v) rfl ?_
  exact g
set_option maxRecDepth 20000 in
theorem bL_isSound_348 {x1 : Int32} {x2 : Int32} {x3 : Int32} {x4 : Int32} {x5 : Int32} {l6 : Value} {v : mmM} {c : Nat} {K : mmO → mmM → Prop} (g : mm_E kL_isSound 349 [.ref 0, .int x1, .int x2, .int x3, .int x4, .int x5, l6] [.int (0 : Int32)] v c K) : mm_E kL_isSound 348 [.ref 0, .int x1, .int x2, .int x3, .int x4, .int x5, l6] [] v c K := by
  refine e_run 1 (pc1 := 349) (L1 := [.ref 0, .int x1, .int x2, .int x3, .int x4, .int x5, l6]) (S1 := [.int (0 : Int32)]) (v1 := v) rfl ?_
  exact g
set_option maxRecDepth 20000 in
theorem bL_isSound_349 {x1 : Int32} {x2 : Int32} {x3 : Int32} {x4 : Int32} {x5 : Int32} {l6 : Value} {y0 : Int32} {v : mmM} {c : Nat} {K : mmO → mmM → Prop} (hc : c + mm_mc kL_dueDay ≤ mm_mc kL_isSound) (g : mm_M kL_dueDay [.ref 0, .int x3] v (mm_Kc kL_isSound 354 [.ref 0, .int x1, .int x2, .int x3, .int x4, .int x5, l6] [.int y0] (c + mm_mc kL_dueDay) K)) : mm_E kL_isSound 349 [.ref 0, .int x1, .int x2, .int x3, .int x4, .int x5, l6] [.int y0] v c K := by
  refine e_run 2 (pc1 := 351) (L1 := [.ref 0, .int x1, .int x2, .int x3, .int x4, .int x5, l6]) (S1 := [.int x3, .ref 0, .int y0]) (v1 := v) rfl ?_
  exact e_cl (j := kL_dueDay) rfl hc g
set_option maxRecDepth 20000 in
theorem bL_isSound_354 {x1 : Int32} {x2 : Int32} {x3 : Int32} {x4 : Int32} {x5 : Int32} {l6 : Value} {y0 : Int32} {y1 : Int32} {v : mmM} {c : Nat} {K : mmO → mmM → Prop} (g1 : y1 = (-1002 : Int32) → mm_E kL_isSound 360 [.ref 0, .int x1, .int x2, .int x3, .int x4, .int x5, l6] [.int y0] v c K) (g2 : ¬ y1 = (-1002 : Int32) → mm_E kL_isSound 364 [.ref 0, .int x1, .int x2, .int x3, .int x4, .int x5, l6] [.int y0] v c K) : mm_E kL_isSound 354 [.ref 0, .int x1, .int x2, .int x3, .int x4, .int x5, l6] [.int y1, .int y0] v c K := by
  refine e_run 1 (pc1 := 357) (L1 := [.ref 0, .int x1, .int x2, .int x3, .int x4, .int x5, l6]) (S1 := [.int (-1002 : Int32), .int y1, .int y0]) (v1 := v) rfl ?_
  exact e_if (p := y1 = (-1002 : Int32)) rfl g1 g2
set_option maxRecDepth 20000 in
theorem bL_isSound_360 {x1 : Int32} {x2 : Int32} {x3 : Int32} {x4 : Int32} {x5 : Int32} {l6 : Value} {y0 : Int32} {v : mmM} {c : Nat} {K : mmO → mmM → Prop} (g : mm_E kL_isSound 365 [.ref 0, .int x1, .int x2, .int x3, .int x4, .int x5, l6] [.int (1 : Int32), .int y0] v c K) : mm_E kL_isSound 360 [.ref 0, .int x1, .int x2, .int x3, .int x4, .int x5, l6] [.int y0] v c K := by
  refine e_run 2 (pc1 := 365) (L1 := [.ref 0, .int x1, .int x2, .int x3, .int x4, .int x5, l6]) (S1 := [.int (1 : Int32), .int y0]) (v1 := v) rfl ?_
  exact g
set_option maxRecDepth 20000 in
theorem bL_isSound_364 {x1 : Int32} {x2 : Int32} {x3 : Int32} {x4 : Int32} {x5 : Int32} {l6 : Value} {y0 : Int32} {v : mmM} {c : Nat} {K : mmO → mmM → Prop} (g : mm_E kL_isSound 365 [.ref 0, .int x1, .int x2, .int x3, .int x4, .int x5, l6] [.int (0 : Int32), .int y0] v c K) : mm_E kL_isSound 364 [.ref 0, .int x1, .int x2, .int x3, .int x4, .int x5, l6] [.int y0] v c K := by
  refine e_run 1 (pc1 := 365) (L1 := [.ref 0, .int x1, .int x2, .int x3, .int x4, .int x5, l6]) (S1 := [.int (0 : Int32), .int y0]) (v1 := v) rfl ?_
  exact g
set_option maxRecDepth 20000 in
theorem bL_isSound_365 {x1 : Int32} {x2 : Int32} {x3 : Int32} {x4 : Int32} {x5 : Int32} {l6 : Value} {y0 : Int32} {y1 : Int32} {v : mmM} {c : Nat} {K : mmO → mmM → Prop} (g1 : y0 = y1 → mm_E kL_isSound 368 [.ref 0, .int x1, .int x2, .int x3, .int x4, .int x5, l6] [] v c K) (g2 : ¬ y0 = y1 → mm_E kL_isSound 389 [.ref 0, .int x1, .int x2, .int x3, .int x4, .int x5, l6] [] v c K) : mm_E kL_isSound 365 [.ref 0, .int x1, .int x2, .int x3, .int x4, .int x5, l6] [.int y1, .int y0] v c K := by
  exact e_if (p := y0 = y1) rfl g1 g2
set_option maxRecDepth 20000 in
theorem bL_isSound_368 {x1 : Int32} {x2 : Int32} {x3 : Int32} {x4 : Int32} {x5 : Int32} {l6 : Value} {v : mmM} {c : Nat} {K : mmO → mmM → Prop} (g1 : x4 ≤ 0 → mm_E kL_isSound 391 [.ref 0, .int x1, .int x2, .int x3, .int x4, .int x5, l6] [] v c K) (g2 : ¬ x4 ≤ 0 → mm_E kL_isSound 373 [.ref 0, .int x1, .int x2, .int x3, .int x4, .int x5, l6] [] v c K) : mm_E kL_isSound 368 [.ref 0, .int x1, .int x2, .int x3, .int x4, .int x5, l6] [] v c K := by
  refine e_run 1 (pc1 := 370) (L1 := [.ref 0, .int x1, .int x2, .int x3, .int x4, .int x5, l6]) (S1 := [.int x4]) (v1 := v) rfl ?_
  exact e_if (p := x4 ≤ 0) rfl g1 g2
set_option maxRecDepth 20000 in
theorem bL_isSound_373 {x1 : Int32} {x2 : Int32} {x3 : Int32} {x4 : Int32} {x5 : Int32} {l6 : Value} {v : mmM} {c : Nat} {K : mmO → mmM → Prop} (hc : c + mm_mc kL_dueDay ≤ mm_mc kL_isSound) (g : mm_M kL_dueDay [.ref 0, .int x3] v (mm_Kc kL_isSound 378 [.ref 0, .int x1, .int x2, .int x3, .int x4, .int x5, l6] [] (c + mm_mc kL_dueDay) K)) : mm_E kL_isSound 373 [.ref 0, .int x1, .int x2, .int x3, .int x4, .int x5, l6] [] v c K := by
  refine e_run 2 (pc1 := 375) (L1 := [.ref 0, .int x1, .int x2, .int x3, .int x4, .int x5, l6]) (S1 := [.int x3, .ref 0]) (v1 := v) rfl ?_
  exact e_cl (j := kL_dueDay) rfl hc g
set_option maxRecDepth 20000 in
theorem bL_isSound_378 {x1 : Int32} {x2 : Int32} {x3 : Int32} {x4 : Int32} {x5 : Int32} {l6 : Value} {y0 : Int32} {v : mmM} {c : Nat} {K : mmO → mmM → Prop} (hc : c + mm_mc kL_next ≤ mm_mc kL_isSound) (g : mm_M kL_next [.ref 0] v (mm_Kc kL_isSound 383 [.ref 0, .int x1, .int x2, .int x3, .int x4, .int x5, l6] [.ref 0, .int y0] (c + mm_mc kL_next) K)) : mm_E kL_isSound 378 [.ref 0, .int x1, .int x2, .int x3, .int x4, .int x5, l6] [.int y0] v c K := by
  refine e_run 2 (pc1 := 380) (L1 := [.ref 0, .int x1, .int x2, .int x3, .int x4, .int x5, l6]) (S1 := [.ref 0, .ref 0, .int y0]) (v1 := v) rfl ?_
  exact e_cl (j := kL_next) rfl hc g
set_option maxRecDepth 20000 in
theorem bL_isSound_383 {x1 : Int32} {x2 : Int32} {x3 : Int32} {x4 : Int32} {x5 : Int32} {l6 : Value} {y0 : Int32} {y2 : Int32} {v : mmM} {c : Nat} {K : mmO → mmM → Prop} (hc : c + mm_mc kL_dueDay ≤ mm_mc kL_isSound) (g : mm_M kL_dueDay [.ref 0, .int y2] v (mm_Kc kL_isSound 386 [.ref 0, .int x1, .int x2, .int x3, .int x4, .int x5, l6] [.int y0] (c + mm_mc kL_dueDay) K)) : mm_E kL_isSound 383 [.ref 0, .int x1, .int x2, .int x3, .int x4, .int x5, l6] [.int y2, .ref 0, .int y0] v c K := by
  exact e_cl (j := kL_dueDay) rfl hc g
set_option maxRecDepth 20000 in
theorem bL_isSound_386 {x1 : Int32} {x2 : Int32} {x3 : Int32} {x4 : Int32} {x5 : Int32} {l6 : Value} {y0 : Int32} {y1 : Int32} {v : mmM} {c : Nat} {K : mmO → mmM → Prop} (g1 : y1 ≤ y0 → mm_E kL_isSound 391 [.ref 0, .int x1, .int x2, .int x3, .int x4, .int x5, l6] [] v c K) (g2 : ¬ y1 ≤ y0 → mm_E kL_isSound 389 [.ref 0, .int x1, .int x2, .int x3, .int x4, .int x5, l6] [] v c K) : mm_E kL_isSound 386 [.ref 0, .int x1, .int x2, .int x3, .int x4, .int x5, l6] [.int y1, .int y0] v c K := by
  exact e_if (p := y1 ≤ y0) rfl g1 g2
set_option maxRecDepth 20000 in
theorem bL_isSound_389 {x1 : Int32} {x2 : Int32} {x3 : Int32} {x4 : Int32} {x5 : Int32} {l6 : Value} {v : mmM} {c : Nat} {K : mmO → mmM → Prop} (g : K (.inl (some (.int (0 : Int32)))) v) : mm_E kL_isSound 389 [.ref 0, .int x1, .int x2, .int x3, .int x4, .int x5, l6] [] v c K := by
  refine e_run 1 (pc1 := 390) (L1 := [.ref 0, .int x1, .int x2, .int x3, .int x4, .int x5, l6]) (S1 := [.int (0 : Int32)]) (v1 := v) rfl ?_
  exact e_iret (ty := .boolean) rfl rfl (by decide) g
set_option maxRecDepth 20000 in
theorem bL_isSound_391 {x1 : Int32} {x2 : Int32} {x3 : Int32} {x4 : Int32} {x5 : Int32} {l6 : Value} {v : mmM} {c : Nat} {K : mmO → mmM → Prop} (g : mm_E kL_isSound 256 [.ref 0, .int x1, .int x2, .int (x3 + (1 : Int32)), .int x4, .int x5, l6] [] v c K) : mm_E kL_isSound 391 [.ref 0, .int x1, .int x2, .int x3, .int x4, .int x5, l6] [] v c K := by
  refine e_run 2 (pc1 := 256) (L1 := [.ref 0, .int x1, .int x2, .int (x3 + (1 : Int32)), .int x4, .int x5, l6]) (S1 := []) (v1 := v) rfl ?_
  exact g
set_option maxRecDepth 20000 in
theorem bL_isSound_397 {x1 : Int32} {x2 : Int32} {x3 : Int32} {l4 : Value} {l5 : Value} {l6 : Value} {v : mmM} {c : Nat} {K : mmO → mmM → Prop} (g : mm_E kL_isSound 399 [.ref 0, .int x1, .int x2, .int (0 : Int32), l4, l5, l6] [] v c K) : mm_E kL_isSound 397 [.ref 0, .int x1, .int x2, .int x3, l4, l5, l6] [] v c K := by
  refine e_run 2 (pc1 := 399) (L1 := [.ref 0, .int x1, .int x2, .int (0 : Int32), l4, l5, l6]) (S1 := []) (v1 := v) rfl ?_
  exact g
set_option maxRecDepth 20000 in
theorem bL_isSound_399 {x1 : Int32} {x2 : Int32} {x3 : Int32} {l4 : Value} {l5 : Value} {l6 : Value} {v : mmM} {c : Nat} {K : mmO → mmM → Prop} (g1 : x1 ≤ x3 → mm_E kL_isSound 535 [.ref 0, .int x1, .int x2, .int x3, l4, l5, l6] [] v c K) (g2 : ¬ x1 ≤ x3 → mm_E kL_isSound 404 [.ref 0, .int x1, .int x2, .int x3, l4, l5, l6] [] v c K) : mm_E kL_isSound 399 [.ref 0, .int x1, .int x2, .int x3, l4, l5, l6] [] v c K := by
  refine e_run 2 (pc1 := 401) (L1 := [.ref 0, .int x1, .int x2, .int x3, l4, l5, l6]) (S1 := [.int x1, .int x3]) (v1 := v) rfl ?_
  exact e_if (p := x1 ≤ x3) rfl g1 g2
set_option maxRecDepth 20000 in
theorem bL_isSound_404 {x1 : Int32} {x2 : Int32} {x3 : Int32} {l4 : Value} {l5 : Value} {l6 : Value} {v : mmM} {c : Nat} {K : mmO → mmM → Prop} (hc : c + mm_mc kX5_onHand ≤ mm_mc kL_isSound) (g : mm_M kX5_onHand [.ref 0, .int x3] v (mm_Kc kL_isSound 410 [.ref 0, .int x1, .int x2, .int x3, l4, l5, l6] [.int x2] (c + mm_mc kX5_onHand) K)) : mm_E kL_isSound 404 [.ref 0, .int x1, .int x2, .int x3, l4, l5, l6] [] v c K := by
  refine e_run 3 (pc1 := 407) (L1 := [.ref 0, .int x1, .int x2, .int x3, l4, l5, l6]) (S1 := [.int x3, .ref 0, .int x2]) (v1 := v) rfl ?_
  exact e_cl (j := kX5_onHand) rfl hc g
set_option maxRecDepth 20000 in
theorem bL_isSound_410 {x1 : Int32} {x2 : Int32} {x3 : Int32} {l4 : Value} {l5 : Value} {l6 : Value} {y0 : Int32} {y1 : Int32} {v : mmM} {c : Nat} {K : mmO → mmM → Prop} (hc : c + mm_mc kX5_expired ≤ mm_mc kL_isSound) (g : mm_M kX5_expired [.ref 0, .int x3] v (mm_Kc kL_isSound 415 [.ref 0, .int x1, .int x2, .int x3, l4, l5, l6] [.int y1, .int y0] (c + mm_mc kX5_expired) K)) : mm_E kL_isSound 410 [.ref 0, .int x1, .int x2, .int x3, l4, l5, l6] [.int y1, .int y0] v c K := by
  refine e_run 2 (pc1 := 412) (L1 := [.ref 0, .int x1, .int x2, .int x3, l4, l5, l6]) (S1 := [.int x3, .ref 0, .int y1, .int y0]) (v1 := v) rfl ?_
  exact e_cl (j := kX5_expired) rfl hc g
set_option maxRecDepth 20000 in
theorem bL_isSound_415 {x1 : Int32} {x2 : Int32} {x3 : Int32} {l4 : Value} {l5 : Value} {l6 : Value} {y0 : Int32} {y1 : Int32} {y2 : Int32} {v : mmM} {c : Nat} {K : mmO → mmM → Prop} (hc : c + mm_mc kX5_day ≤ mm_mc kL_isSound) (g : mm_M kX5_day [.ref 0] v (mm_Kc kL_isSound 424 [.ref 0, .int x1, .int (y0 - (y1 + y2)), .int x3, l4, l5, l6] [.int x3, .ref 0] (c + mm_mc kX5_day) K)) : mm_E kL_isSound 415 [.ref 0, .int x1, .int x2, .int x3, l4, l5, l6] [.int y2, .int y1, .int y0] v c K := by
  refine e_run 6 (pc1 := 421) (L1 := [.ref 0, .int x1, .int (y0 - (y1 + y2)), .int x3, l4, l5, l6]) (S1 := [.ref 0, .int x3, .ref 0]) (v1 := v) rfl ?_
  exact e_cl (j := kX5_day) rfl hc g
set_option maxRecDepth 20000 in
theorem bL_isSound_424 {x1 : Int32} {x2 : Int32} {x3 : Int32} {l4 : Value} {l5 : Value} {l6 : Value} {y1 : Int32} {y2 : Int32} {v : mmM} {c : Nat} {K : mmO → mmM → Prop} (hc : c + mm_mc kL_had ≤ mm_mc kL_isSound) (g : mm_M kL_had [.ref 0, .int y1, .int y2] v (mm_Kc kL_isSound 427 [.ref 0, .int x1, .int x2, .int x3, l4, l5, l6] [] (c + mm_mc kL_had) K)) : mm_E kL_isSound 424 [.ref 0, .int x1, .int x2, .int x3, l4, l5, l6] [.int y2, .int y1, .ref 0] v c K := by
  exact e_cl (j := kL_had) rfl hc g
set_option maxRecDepth 20000 in
theorem bL_isSound_427 {x1 : Int32} {x2 : Int32} {x3 : Int32} {l4 : Value} {l5 : Value} {l6 : Value} {y0 : Int32} {v : mmM} {c : Nat} {K : mmO → mmM → Prop} (hc : c + mm_mc kX5_onHand ≤ mm_mc kL_isSound) (g : mm_M kX5_onHand [.ref 0, .int x3] v (mm_Kc kL_isSound 432 [.ref 0, .int x1, .int x2, .int x3, l4, l5, l6] [.int y0] (c + mm_mc kX5_onHand) K)) : mm_E kL_isSound 427 [.ref 0, .int x1, .int x2, .int x3, l4, l5, l6] [.int y0] v c K := by
  refine e_run 2 (pc1 := 429) (L1 := [.ref 0, .int x1, .int x2, .int x3, l4, l5, l6]) (S1 := [.int x3, .ref 0, .int y0]) (v1 := v) rfl ?_
  exact e_cl (j := kX5_onHand) rfl hc g
set_option maxRecDepth 20000 in
theorem bL_isSound_432 {x1 : Int32} {x2 : Int32} {x3 : Int32} {l4 : Value} {l5 : Value} {l6 : Value} {y0 : Int32} {y1 : Int32} {v : mmM} {c : Nat} {K : mmO → mmM → Prop} (hc : c + mm_mc kX5_expired ≤ mm_mc kL_isSound) (g : mm_M kX5_expired [.ref 0, .int x3] v (mm_Kc kL_isSound 437 [.ref 0, .int x1, .int x2, .int x3, l4, l5, l6] [.int y1, .int y0] (c + mm_mc kX5_expired) K)) : mm_E kL_isSound 432 [.ref 0, .int x1, .int x2, .int x3, l4, l5, l6] [.int y1, .int y0] v c K := by
  refine e_run 2 (pc1 := 434) (L1 := [.ref 0, .int x1, .int x2, .int x3, l4, l5, l6]) (S1 := [.int x3, .ref 0, .int y1, .int y0]) (v1 := v) rfl ?_
  exact e_cl (j := kX5_expired) rfl hc g
set_option maxRecDepth 20000 in
theorem bL_isSound_437 {x1 : Int32} {x2 : Int32} {x3 : Int32} {l4 : Value} {l5 : Value} {l6 : Value} {y0 : Int32} {y1 : Int32} {y2 : Int32} {v : mmM} {c : Nat} {K : mmO → mmM → Prop} (g1 : y0 = (y1 + y2) → mm_E kL_isSound 443 [.ref 0, .int x1, .int x2, .int x3, l4, l5, l6] [] v c K) (g2 : ¬ y0 = (y1 + y2) → mm_E kL_isSound 441 [.ref 0, .int x1, .int x2, .int x3, l4, l5, l6] [] v c K) : mm_E kL_isSound 437 [.ref 0, .int x1, .int x2, .int x3, l4, l5, l6] [.int y2, .int y1, .int y0] v c K := by
  refine e_run 1 (pc1 := 438) (L1 := [.ref 0, .int x1, .int x2, .int x3, l4, l5, l6]) (S1 := [.int (y1 + y2), .int y0]) (v1 := v) rfl ?_
  exact e_if (p := y0 = (y1 + y2)) rfl g1 g2
set_option maxRecDepth 20000 in
theorem bL_isSound_441 {x1 : Int32} {x2 : Int32} {x3 : Int32} {l4 : Value} {l5 : Value} {l6 : Value} {v : mmM} {c : Nat} {K : mmO → mmM → Prop} (g : K (.inl (some (.int (0 : Int32)))) v) : mm_E kL_isSound 441 [.ref 0, .int x1, .int x2, .int x3, l4, l5, l6] [] v c K := by
  refine e_run 1 (pc1 := 442) (L1 := [.ref 0, .int x1, .int x2, .int x3, l4, l5, l6]) (S1 := [.int (0 : Int32)]) (v1 := v) rfl ?_
  exact e_iret (ty := .boolean) rfl rfl (by decide) g
set_option maxRecDepth 20000 in
theorem bL_isSound_443 {x1 : Int32} {x2 : Int32} {x3 : Int32} {l4 : Value} {l5 : Value} {l6 : Value} {v : mmM} {c : Nat} {K : mmO → mmM → Prop} (g : mm_E kL_isSound 446 [.ref 0, .int x1, .int x2, .int x3, .int (0 : Int32), l5, l6] [] v c K) : mm_E kL_isSound 443 [.ref 0, .int x1, .int x2, .int x3, l4, l5, l6] [] v c K := by
  refine e_run 2 (pc1 := 446) (L1 := [.ref 0, .int x1, .int x2, .int x3, .int (0 : Int32), l5, l6]) (S1 := []) (v1 := v) rfl ?_
  exact g
set_option maxRecDepth 20000 in
theorem bL_isSound_446 {x1 : Int32} {x2 : Int32} {x3 : Int32} {x4 : Int32} {l5 : Value} {l6 : Value} {v : mmM} {c : Nat} {K : mmO → mmM → Prop} (g1 : (60 : Int32) < x4 → mm_E kL_isSound 529 [.ref 0, .int x1, .int x2, .int x3, .int x4, l5, l6] [] v c K) (g2 : ¬ (60 : Int32) < x4 → mm_E kL_isSound 453 [.ref 0, .int x1, .int x2, .int x3, .int x4, l5, l6] [] v c K) : mm_E kL_isSound 446 [.ref 0, .int x1, .int x2, .int x3, .int x4, l5, l6] [] v c K := by
  refine e_run 2 (pc1 := 450) (L1 := [.ref 0, .int x1, .int x2, .int x3, .int x4, l5, l6]) (S1 := [.int (60 : Int32), .int x4]) (v1 := v) rfl ?_
  exact e_if (p := (60 : Int32) < x4) rfl g1 g2
set_option maxRecDepth 20000 in
theorem bL_isSound_453 {x1 : Int32} {x2 : Int32} {x3 : Int32} {x4 : Int32} {l5 : Value} {l6 : Value} {v : mmM} {c : Nat} {K : mmO → mmM → Prop} (hc : c + mm_mc kX5_day ≤ mm_mc kL_isSound) (g : mm_M kX5_day [.ref 0] v (mm_Kc kL_isSound 459 [.ref 0, .int x1, .int x2, .int x3, .int x4, l5, l6] [.int x3, .ref 0] (c + mm_mc kX5_day) K)) : mm_E kL_isSound 453 [.ref 0, .int x1, .int x2, .int x3, .int x4, l5, l6] [] v c K := by
  refine e_run 3 (pc1 := 456) (L1 := [.ref 0, .int x1, .int x2, .int x3, .int x4, l5, l6]) (S1 := [.ref 0, .int x3, .ref 0]) (v1 := v) rfl ?_
  exact e_cl (j := kX5_day) rfl hc g
set_option maxRecDepth 20000 in
theorem bL_isSound_459 {x1 : Int32} {x2 : Int32} {x3 : Int32} {x4 : Int32} {l5 : Value} {l6 : Value} {y1 : Int32} {y2 : Int32} {v : mmM} {c : Nat} {K : mmO → mmM → Prop} (hc : c + mm_mc kL_free ≤ mm_mc kL_isSound) (g : mm_M kL_free [.ref 0, .int y1, .int (y2 + x4), .int (0 : Int32)] v (mm_Kc kL_isSound 466 [.ref 0, .int x1, .int x2, .int x3, .int x4, l5, l6] [] (c + mm_mc kL_free) K)) : mm_E kL_isSound 459 [.ref 0, .int x1, .int x2, .int x3, .int x4, l5, l6] [.int y2, .int y1, .ref 0] v c K := by
  refine e_run 3 (pc1 := 463) (L1 := [.ref 0, .int x1, .int x2, .int x3, .int x4, l5, l6]) (S1 := [.int (0 : Int32), .int (y2 + x4), .int y1, .ref 0]) (v1 := v) rfl ?_
  exact e_cl (j := kL_free) rfl hc g
set_option maxRecDepth 20000 in
theorem bL_isSound_466 {x1 : Int32} {x2 : Int32} {x3 : Int32} {x4 : Int32} {l5 : Value} {l6 : Value} {y0 : Int32} {v : mmM} {c : Nat} {K : mmO → mmM → Prop} (hc : c + mm_mc kX5_day ≤ mm_mc kL_isSound) (g : mm_M kX5_day [.ref 0] v (mm_Kc kL_isSound 476 [.ref 0, .int x1, .int x2, .int x3, .int x4, .int y0, l6] [.int x3, .ref 0, .int y0] (c + mm_mc kX5_day) K)) : mm_E kL_isSound 466 [.ref 0, .int x1, .int x2, .int x3, .int x4, l5, l6] [.int y0] v c K := by
  refine e_run 5 (pc1 := 473) (L1 := [.ref 0, .int x1, .int x2, .int x3, .int x4, .int y0, l6]) (S1 := [.ref 0, .int x3, .ref 0, .int y0]) (v1 := v) rfl ?_
  exact e_cl (j := kX5_day) rfl hc g
set_option maxRecDepth 20000 in
theorem bL_isSound_476 {x1 : Int32} {x2 : Int32} {x3 : Int32} {x4 : Int32} {x5 : Int32} {l6 : Value} {y0 : Int32} {y2 : Int32} {y3 : Int32} {v : mmM} {c : Nat} {K : mmO → mmM → Prop} (hc : c + mm_mc kL_free ≤ mm_mc kL_isSound) (g : mm_M kL_free [.ref 0, .int y2, .int (y3 + x4), .int (1 : Int32)] v (mm_Kc kL_isSound 483 [.ref 0, .int x1, .int x2, .int x3, .int x4, .int x5, l6] [.int y0] (c + mm_mc kL_free) K)) : mm_E kL_isSound 476 [.ref 0, .int x1, .int x2, .int x3, .int x4, .int x5, l6] [.int y3, .int y2, .ref 0, .int y0] v c K := by
  refine e_run 3 (pc1 := 480) (L1 := [.ref 0, .int x1, .int x2, .int x3, .int x4, .int x5, l6]) (S1 := [.int (1 : Int32), .int (y3 + x4), .int y2, .ref 0, .int y0]) (v1 := v) rfl ?_
  exact e_cl (j := kL_free) rfl hc g
set_option maxRecDepth 20000 in
theorem bL_isSound_483 {x1 : Int32} {x2 : Int32} {x3 : Int32} {x4 : Int32} {x5 : Int32} {l6 : Value} {y0 : Int32} {y1 : Int32} {v : mmM} {c : Nat} {K : mmO → mmM → Prop} (g1 : y0 = y1 → mm_E kL_isSound 486 [.ref 0, .int x1, .int x2, .int x3, .int x4, .int x5, l6] [] v c K) (g2 : ¬ y0 = y1 → mm_E kL_isSound 521 [.ref 0, .int x1, .int x2, .int x3, .int x4, .int x5, l6] [] v c K) : mm_E kL_isSound 483 [.ref 0, .int x1, .int x2, .int x3, .int x4, .int x5, l6] [.int y1, .int y0] v c K := by
  exact e_if (p := y0 = y1) rfl g1 g2
set_option maxRecDepth 20000 in
theorem bL_isSound_486 {x1 : Int32} {x2 : Int32} {x3 : Int32} {x4 : Int32} {x5 : Int32} {l6 : Value} {v : mmM} {c : Nat} {K : mmO → mmM → Prop} (g1 : x5 < 0 → mm_E kL_isSound 521 [.ref 0, .int x1, .int x2, .int x3, .int x4, .int x5, l6] [] v c K) (g2 : ¬ x5 < 0 → mm_E kL_isSound 491 [.ref 0, .int x1, .int x2, .int x3, .int x4, .int x5, l6] [] v c K) : mm_E kL_isSound 486 [.ref 0, .int x1, .int x2, .int x3, .int x4, .int x5, l6] [] v c K := by
  refine e_run 1 (pc1 := 488) (L1 := [.ref 0, .int x1, .int x2, .int x3, .int x4, .int x5, l6]) (S1 := [.int x5]) (v1 := v) rfl ?_
  exact e_if (p := x5 < 0) rfl g1 g2
set_option maxRecDepth 20000 in
theorem bL_isSound_491 {x1 : Int32} {x2 : Int32} {x3 : Int32} {x4 : Int32} {x5 : Int32} {l6 : Value} {v : mmM} {c : Nat} {K : mmO → mmM → Prop} (hc : c + mm_mc kX5_day ≤ mm_mc kL_isSound) (g : mm_M kX5_day [.ref 0] v (mm_Kc kL_isSound 499 [.ref 0, .int x1, .int x2, .int x3, .int x4, .int x5, l6] [.int x3, .ref 0, .int x5] (c + mm_mc kX5_day) K)) : mm_E kL_isSound 491 [.ref 0, .int x1, .int x2, .int x3, .int x4, .int x5, l6] [] v c K := by
  refine e_run 4 (pc1 := 496) (L1 := [.ref 0, .int x1, .int x2, .int x3, .int x4, .int x5, l6]) (S1 := [.ref 0, .int x3, .ref 0, .int x5]) (v1 := v) rfl ?_
  exact e_cl (j := kX5_day) rfl hc g
set_option maxRecDepth 20000 in
theorem bL_isSound_499 {x1 : Int32} {x2 : Int32} {x3 : Int32} {x4 : Int32} {x5 : Int32} {l6 : Value} {y0 : Int32} {y2 : Int32} {y3 : Int32} {v : mmM} {c : Nat} {K : mmO → mmM → Prop} (hc : c + mm_mc kL_free ≤ mm_mc kL_isSound) (g : mm_M kL_free [.ref 0, .int y2, .int y3, .int (0 : Int32)] v (mm_Kc kL_isSound 503 [.ref 0, .int x1, .int x2, .int x3, .int x4, .int x5, l6] [.int y0] (c + mm_mc kL_free) K)) : mm_E kL_isSound 499 [.ref 0, .int x1, .int x2, .int x3, .int x4, .int x5, l6] [.int y3, .int y2, .ref 0, .int y0] v c K := by
  refine e_run 1 (pc1 := 500) (L1 := [.ref 0, .int x1, .int x2, .int x3, .int x4, .int x5, l6]) (S1 := [.int (0 : Int32), .int y3, .int y2, .ref 0, .int y0]) (v1 := v) rfl ?_
  exact e_cl (j := kL_free) rfl hc g
set_option maxRecDepth 20000 in
theorem bL_isSound_503 {x1 : Int32} {x2 : Int32} {x3 : Int32} {x4 : Int32} {x5 : Int32} {l6 : Value} {y0 : Int32} {y1 : Int32} {v : mmM} {c : Nat} {K : mmO → mmM → Prop} (g1 : y0 ≤ y1 → mm_E kL_isSound 511 [.ref 0, .int x1, .int x2, .int x3, .int x4, .int x5, l6] [] v c K) (g2 : ¬ y0 ≤ y1 → mm_E kL_isSound 506 [.ref 0, .int x1, .int x2, .int x3, .int x4, .int x5, l6] [] v c K) : mm_E kL_isSound 503 [.ref 0, .int x1, .int x2, .int x3, .int x4, .int x5, l6] [.int y1, .int y0] v c K := by
  exact e_if (p := y0 ≤ y1) rfl g1 g2
set_option maxRecDepth 20000 in
theorem bL_isSound_506 {x1 : Int32} {x2 : Int32} {x3 : Int32} {x4 : Int32} {x5 : Int32} {l6 : Value} {v : mmM} {c : Nat} {K : mmO → mmM → Prop} (g1 : 0 < x4 → mm_E kL_isSound 521 [.ref 0, .int x1, .int x2, .int x3, .int x4, .int x5, l6] [] v c K) (g2 : ¬ 0 < x4 → mm_E kL_isSound 511 [.ref 0, .int x1, .int x2, .int x3, .int x4, .int x5, l6] [] v c K) : mm_E kL_isSound 506 [.ref 0, .int x1, .int x2, .int x3, .int x4, .int x5, l6] [] v c K := by
  refine e_run 1 (pc1 := 508) (L1 := [.ref 0, .int x1, .int x2, .int x3, .int x4, .int x5, l6]) (S1 := [.int x4]) (v1 := v) rfl ?_
  exact e_if (p := 0 < x4) rfl g1 g2
set_option maxRecDepth 20000 in
theorem bL_isSound_511 {x1 : Int32} {x2 : Int32} {x3 : Int32} {x4 : Int32} {x5 : Int32} {l6 : Value} {v : mmM} {c : Nat} {K : mmO → mmM → Prop} (hc : c + mm_mc kX5_onHand ≤ mm_mc kL_isSound) (g : mm_M kX5_onHand [.ref 0, .int x3] v (mm_Kc kL_isSound 518 [.ref 0, .int x1, .int x2, .int x3, .int x4, .int x5, l6] [.int x5] (c + mm_mc kX5_onHand) K)) : mm_E kL_isSound 511 [.ref 0, .int x1, .int x2, .int x3, .int x4, .int x5, l6] [] v c K := by
  refine e_run 3 (pc1 := 515) (L1 := [.ref 0, .int x1, .int x2, .int x3, .int x4, .int x5, l6]) (S1 := [.int x3, .ref 0, .int x5]) (v1 := v) rfl ?_
  exact e_cl (j := kX5_onHand) rfl hc g
set_option maxRecDepth 20000 in
theorem bL_isSound_518 {x1 : Int32} {x2 : Int32} {x3 : Int32} {x4 : Int32} {x5 : Int32} {l6 : Value} {y0 : Int32} {y1 : Int32} {v : mmM} {c : Nat} {K : mmO → mmM → Prop} (g1 : y0 ≤ y1 → mm_E kL_isSound 523 [.ref 0, .int x1, .int x2, .int x3, .int x4, .int x5, l6] [] v c K) (g2 : ¬ y0 ≤ y1 → mm_E kL_isSound 521 [.ref 0, .int x1, .int x2, .int x3, .int x4, .int x5, l6] [] v c K) : mm_E kL_isSound 518 [.ref 0, .int x1, .int x2, .int x3, .int x4, .int x5, l6] [.int y1, .int y0] v c K := by
  exact e_if (p := y0 ≤ y1) rfl g1 g2
set_option maxRecDepth 20000 in
theorem bL_isSound_521 {x1 : Int32} {x2 : Int32} {x3 : Int32} {x4 : Int32} {x5 : Int32} {l6 : Value} {v : mmM} {c : Nat} {K : mmO → mmM → Prop} (g : K (.inl (some (.int (0 : Int32)))) v) : mm_E kL_isSound 521 [.ref 0, .int x1, .int x2, .int x3, .int x4, .int x5, l6] [] v c K := by
  refine e_run 1 (pc1 := 522) (L1 := [.ref 0, .int x1, .int x2, .int x3, .int x4, .int x5, l6]) (S1 := [.int (0 : Int32)]) (v1 := v) rfl ?_
  exact e_iret (ty := .boolean) rfl rfl (by decide) g
set_option maxRecDepth 20000 in
theorem bL_isSound_523 {x1 : Int32} {x2 : Int32} {x3 : Int32} {x4 : Int32} {x5 : Int32} {l6 : Value} {v : mmM} {c : Nat} {K : mmO → mmM → Prop} (g : mm_E kL_isSound 446 [.ref 0, .int x1, .int x2, .int x3, .int (x4 + (7 : Int32)), .int x5, l6] [] v c K) : mm_E kL_isSound 523 [.ref 0, .int x1, .int x2, .int x3, .int x4, .int x5, l6] [] v c K := by
  refine e_run 2 (pc1 := 446) (L1 := [.ref 0, .int x1, .int x2, .int x3, .int (x4 + (7 : Int32)), .int x5, l6]) (S1 := []) (v1 := v) rfl ?_
  exact g
set_option maxRecDepth 20000 in
theorem bL_isSound_529 {x1 : Int32} {x2 : Int32} {x3 : Int32} {x4 : Int32} {l5 : Value} {l6 : Value} {v : mmM} {c : Nat} {K : mmO → mmM → Prop} (g : mm_E kL_isSound 399 [.ref 0, .int x1, .int x2, .int (x3 + (1 : Int32)), .int x4, l5, l6] [] v c K) : mm_E kL_isSound 529 [.ref 0, .int x1, .int x2, .int x3, .int x4, l5, l6] [] v c K := by
  refine e_run 2 (pc1 := 399) (L1 := [.ref 0, .int x1, .int x2, .int (x3 + (1 : Int32)), .int x4, l5, l6]) (S1 := []) (v1 := v) rfl ?_
  exact g
set_option maxRecDepth 20000 in
theorem bL_isSound_535 {x1 : Int32} {x2 : Int32} {x3 : Int32} {l4 : Value} {l5 : Value} {l6 : Value} {v : mmM} {c : Nat} {K : mmO → mmM → Prop} (g1 : x2 = 0 → mm_E kL_isSound 539 [.ref 0, .int x1, .int x2, .int x3, l4, l5, l6] [] v c K) (g2 : ¬ x2 = 0 → mm_E kL_isSound 543 [.ref 0, .int x1, .int x2, .int x3, l4, l5, l6] [] v c K) : mm_E kL_isSound 535 [.ref 0, .int x1, .int x2, .int x3, l4, l5, l6] [] v c K := by
  refine e_run 1 (pc1 := 536) (L1 := [.ref 0, .int x1, .int x2, .int x3, l4, l5, l6]) (S1 := [.int x2]) (v1 := v) rfl ?_
  exact e_if (p := x2 = 0) rfl g1 g2
set_option maxRecDepth 20000 in
theorem bL_isSound_539 {x1 : Int32} {x2 : Int32} {x3 : Int32} {l4 : Value} {l5 : Value} {l6 : Value} {v : mmM} {c : Nat} {K : mmO → mmM → Prop} (g : mm_E kL_isSound 544 [.ref 0, .int x1, .int x2, .int x3, l4, l5, l6] [.int (1 : Int32)] v c K) : mm_E kL_isSound 539 [.ref 0, .int x1, .int x2, .int x3, l4, l5, l6] [] v c K := by
  refine e_run 2 (pc1 := 544) (L1 := [.ref 0, .int x1, .int x2, .int x3, l4, l5, l6]) (S1 := [.int (1 : Int32)]) (v1 := v) rfl ?_
  exact g
set_option maxRecDepth 20000 in
theorem bL_isSound_543 {x1 : Int32} {x2 : Int32} {x3 : Int32} {l4 : Value} {l5 : Value} {l6 : Value} {v : mmM} {c : Nat} {K : mmO → mmM → Prop} (g : mm_E kL_isSound 544 [.ref 0, .int x1, .int x2, .int x3, l4, l5, l6] [.int (0 : Int32)] v c K) : mm_E kL_isSound 543 [.ref 0, .int x1, .int x2, .int x3, l4, l5, l6] [] v c K := by
  refine e_run 1 (pc1 := 544) (L1 := [.ref 0, .int x1, .int x2, .int x3, l4, l5, l6]) (S1 := [.int (0 : Int32)]) (v1 := v) rfl ?_
  exact g
set_option maxRecDepth 20000 in
theorem bL_isSound_544 {x1 : Int32} {x2 : Int32} {x3 : Int32} {l4 : Value} {l5 : Value} {l6 : Value} {y0 : Int32} {v : mmM} {c : Nat} {K : mmO → mmM → Prop} (h1 : narrow .boolean (.int y0) = .int y0) (g : K (.inl (some (.int y0))) v) : mm_E kL_isSound 544 [.ref 0, .int x1, .int x2, .int x3, l4, l5, l6] [.int y0] v c K := by
  exact e_iret (ty := .boolean) rfl rfl h1 g
