/-! what the law asks after its calls: always so -/
section SO
variable {n : Nat} {s : St} {w0 w : mmM} {K : mmO → mmM → Prop}
theorem lnA_o {p : Nat} (hs : s.st p = 111 ∨ s.st p = 112) : lnA s p = nI (vN s p) := if_pos hs
theorem wkA_o {p : Nat} (hs : s.st p = 111 ∨ s.st p = 112) : wkA s p = nI (wkN s p) := if_pos hs
/-- the lines of one promise -/
theorem so_lines (h : Inv n s) (hj : Jn s) {p c : Nat} {l5 l6 : Value} (hp : p < s.np) (hs : s.st p = 111 ∨ s.st p = 112) (hw : RepC w s) (hf : fC w0 w) (hc : c ≤ 30000) (g : ∀ w' c' l5' l6', RepC w' s → fC w0 w' → c' ≤ c + 1202 → mm_E kL_isSound 164 [.ref 0, .int (nI s.ni), .int (nI p), .int (nI (sm (vQ s p) (vN s p))), .int (nI (vN s p)), l5', l6'] [] w' c' K) : mm_E kL_isSound 73 [.ref 0, .int (nI s.ni), .int (nI p), .int 0, .int 0, l5, l6] [] w c K := by
  have hni := h.ni_; have hnl := h.nl_
  obtain ⟨hN, hV⟩ := vw_ok h.1 hp hs
  obtain ⟨s1, s2, s3⟩ := vQ_sum h hj hp hs
  have hst := h.st_ p
  refine e_for0 (n := vN s p) (a0 := ()) (f := fun _ a => a) (E := fun k _ => ∀ w c' l5 l6, RepC w s → fC w0 w → c' ≤ c + 20 * k → mm_E kL_isSound 73 [.ref 0, .int (nI s.ni), .int (nI p), .int (nI (sm (vQ s p) k)), .int (nI k), l5, l6] [] w c' K) ?_ ?_ w c _ _ hw hf (by omega)
  · intro k _ hk ih w c1 l5 l6 hw hf hc1
    obtain ⟨hB, hL, hQ⟩ := hV k hk
    have h1Q := s2 k hk
    refine bL_isSound_73 (by show c1 + 2 ≤ 32000; omega) (v_lines h hp w hw _ (fun w1 hw1 hf1 => mm_Kr (c1 + 2) rfl ?_))
    rw [lnA_o hs]
    refine bL_isSound_80 (fun q => absurd q (ge_nI hk (by omega))) (fun _ => ?_)
    refine bL_isSound_83 (by show c1 + 2 + 3 ≤ 32000; omega) (wA1_line (q_pickLot h hp hs hk) w1 hw1 _ (fun w2 hw2 hf2 => mm_Kr (c1 + 5) rfl ?_))
    refine bL_isSound_91 (by show c1 + 5 + 3 ≤ 32000; omega) (wA0_line (q_pickBin h hp hs hk) w2 hw2 _ (fun w3 hw3 hf3 => mm_Kr (c1 + 8) rfl ?_))
    refine bL_isSound_101 (by show c1 + 8 + 3 ≤ 32000; omega) (wA2_line (q_pickQuantity h hp hs hk) w3 hw3 _ (fun w4 hw4 hf4 => mm_Kr (c1 + 11) rfl ?_))
    refine bL_isSound_112 (by show c1 + 11 + 3 ≤ 32000; omega) (wA2_line (q_pickQuantity h hp hs hk) w4 hw4 _ (fun w5 hw5 hf5 => mm_Kr (c1 + 14) rfl ?_))
    have hf05 := ((((hf.tr hf1).tr hf2).tr hf3).tr hf4).tr hf5
    have nx : ∀ w' c', RepC w' s → fC w0 w' → c' ≤ c1 + 20 → mm_E kL_isSound 158 [.ref 0, .int (nI s.ni), .int (nI p), .int (nI (sm (vQ s p) k) + nI (vQ s p k)), .int (nI k), .int (nI (vL s p k)), .int (nI (vB s p k))] [] w' c' K := by
      intro w' c' hw' hf' hc'
      refine bL_isSound_158 ?_
      rw [nI_1, nI_add]
      exact ih w' c' _ _ hw' hf' (by omega)
    refine bL_isSound_122 (fun q => ?_) (fun _ => ?_)
    · rw [show (1 : Int32) = nI 1 from rfl, nI_lti (by omega) (by omega)] at q
      omega
    refine bL_isSound_126 (by show c1 + 14 + 1 ≤ 32000; omega) (v_status h hp w5 hw5 _ (fun w6 hw6 hf6 => mm_Kr (c1 + 15) rfl ?_))
    refine bL_isSound_131 (fun q => ?_) (fun _ => nx w6 (c1 + 15) hw6 (hf05.tr hf6) (by omega))
    have q1 : s.st p = 111 := (st_is h.1 p 111 (by decide)).mp q
    refine bL_isSound_136 (by show c1 + 15 + 2 ≤ 32000; omega) (v_stock0 h hL hB w6 hw6 _ (fun w7 hw7 hf7 => mm_Kr (c1 + 17) rfl ?_))
    refine bL_isSound_145 (by show c1 + 17 + 3 ≤ 32000; omega) (wA2_line (q_pickQuantity h hp hs hk) w7 hw7 _ (fun w8 hw8 hf8 => mm_Kr (c1 + 20) rfl ?_))
    have hu := vw_un h.1 hp q1 hk
    have hub := h.1.unb (l := vL s p k) hB
    refine bL_isSound_153 (fun _ => nx w8 (c1 + 20) hw8 (((hf05.tr hf6).tr hf7).tr hf8) (Nat.le_refl _)) (fun z => absurd ?_ z)
    rw [nI_lei (by omega) (by omega)]
    exact hu
  · intro w c1 l5 l6 hw hf hc1
    refine bL_isSound_73 (by show c1 + 2 ≤ 32000; omega) (v_lines h hp w hw _ (fun w1 hw1 hf1 => mm_Kr (c1 + 2) rfl ?_))
    rw [lnA_o hs]
    exact bL_isSound_80 (fun _ => g w1 (c1 + 2) _ _ hw1 (hf.tr hf1) (by omega)) (fun q => absurd (le_nI (Nat.le_refl _) (by omega)) q)
/-- one promise that is open or was picked -/
theorem so_open (h : Inv n s) (hj : Jn s) {p c : Nat} {l3 l4 l5 l6 : Value} (hp : p < s.np) (hs : s.st p = 111 ∨ s.st p = 112) (hw : RepC w s) (hf : fC w0 w) (hc : c ≤ 26000) (g : ∀ w' c' l3' l4' l5' l6', RepC w' s → fC w0 w' → c' ≤ c + 1227 → mm_E kL_isSound 2 [.ref 0, .int (nI s.ni), .int (nI (p + 1)), l3', l4', l5', l6'] [] w' c' K) : mm_E kL_isSound 68 [.ref 0, .int (nI s.ni), .int (nI p), l3, l4, l5, l6] [] w c K := by
  have hni := h.ni_; have hnl := h.nl_; have hnp := h.np_
  obtain ⟨hN, hV⟩ := vw_ok h.1 hp hs
  obtain ⟨s1, s2, s3⟩ := vQ_sum h hj hp hs
  have h60 := h.q_ p hp
  have hsn := sm_qni h hj hp
  obtain ⟨k1, k2⟩ := wkN_ok h hp hs s3
  refine bL_isSound_68 (so_lines h hj hp hs hw hf (by omega) (fun w1 c1 l5 l6 hw1 hf1 hc1 => bL_isSound_164 ?_))
  have hle : ∀ i, i ≤ s.ni → sm (s.q p) i ≤ sm (s.q p) s.ni := by
    intro i hi
    have key : ∀ m, i ≤ m → sm (s.q p) i ≤ sm (s.q p) m := by
      intro m
      induction m with
      | zero => intro z; have : i = 0 := by omega
                subst this; exact Nat.le_refl _
      | succ m ih =>
        intro z
        by_cases e : i = m + 1
        · subst e; exact Nat.le_refl _
        · have := ih (by omega)
          show _ ≤ sm (s.q p) m + s.q p m
          omega
    exact key s.ni hi
  refine e_for0 (n := s.ni) (a0 := ()) (f := fun _ a => a) (E := fun i _ => ∀ w c', RepC w s → fC w0 w → c' ≤ c + 1202 + 2 * i → mm_E kL_isSound 167 [.ref 0, .int (nI s.ni), .int (nI p), .int (nI (sm (vQ s p) (vN s p) - sm (s.q p) i)), .int (nI i), l5, l6] [] w c' K) ?_ ?_ w1 c1 hw1 hf1 hc1
  · intro i _ hi ih w c1 hw hf hc1
    refine bL_isSound_167 (fun q => absurd q (ge_nI hi (by omega))) (fun _ => bL_isSound_173 (by show c1 + 2 ≤ 32000; omega) (q_quantity h hp hi w hw _ (fun w2 hw2 hf2 => mm_Kr (c1 + 2) rfl (bL_isSound_181 ?_))))
    have h1 := hle (i + 1) (by omega)
    have h1 : sm (s.q p) i + s.q p i ≤ sm (s.q p) s.ni := h1
    rw [nI_1, sub_nI (by omega), show sm (vQ s p) (vN s p) - sm (s.q p) i - s.q p i = sm (vQ s p) (vN s p) - sm (s.q p) (i + 1) by show _ = _ - (sm (s.q p) i + s.q p i); omega]
    exact ih w2 (c1 + 2) hw2 (hf.tr hf2) (by omega)
  clear hw1 hf1 hc1 w1 c1
  intro w1 c1 hw1 hf1 hc1
  have e0 : sm (vQ s p) (vN s p) - sm (s.q p) s.ni = 0 := by omega
  rw [e0]
  refine bL_isSound_167 (fun _ => bL_isSound_189 (fun _ => ?_) (fun q => absurd rfl q)) (fun q => absurd (le_nI (Nat.le_refl _) (by omega)) q)
  refine bL_isSound_193 (by show c1 + 2 ≤ 32000; omega) (v_lines h hp w1 hw1 _ (fun w2 hw2 hf2 => mm_Kr (c1 + 2) rfl ?_))
  rw [lnA_o hs]
  refine bL_isSound_198 (fun q => ?_) (fun _ => ?_)
  · rw [show (1 : Int32) = nI 1 from rfl, nI_lti (by omega) (by omega)] at q
    omega
  refine bL_isSound_202 (by show c1 + 2 + 2 ≤ 32000; omega) (v_walk0 h hp w2 hw2 _ (fun w3 hw3 hf3 => mm_Kr (c1 + 4) rfl ?_))
  refine bL_isSound_208 (by show c1 + 4 + 2 ≤ 32000; omega) (v_walk1 h hp w3 hw3 _ (fun w4 hw4 hf4 => mm_Kr (c1 + 6) rfl ?_))
  refine bL_isSound_214 (fun _ => ?_) (fun q => absurd rfl q)
  refine bL_isSound_217 (by show c1 + 6 + 2 ≤ 32000; omega) (v_walk0 h hp w4 hw4 _ (fun w5 hw5 hf5 => mm_Kr (c1 + 8) rfl ?_))
  rw [wkA_o hs]
  refine bL_isSound_223 (fun q => ?_) (fun _ => ?_)
  · rw [show (2 : Int32) = nI 2 from rfl, nI_lti (by omega) (by omega)] at q
    omega
  refine bL_isSound_227 (by show c1 + 8 + 2 ≤ 32000; omega) (v_lines h hp w5 hw5 _ (fun w6 hw6 hf6 => mm_Kr (c1 + 10) rfl ?_))
  rw [lnA_o hs]
  refine bL_isSound_234 (by show c1 + 10 + 3 ≤ 32000; omega) (wX0_line (q_pickBin4 h hp hs (ne_ge rfl (Nat.le_refl _) (by omega))) (y := -1003) (by decide) w6 hw6 _ (fun w7 hw7 hf7 => mm_Kr (c1 + 13) rfl ?_))
  refine bL_isSound_238 (fun _ => bL_isSound_246 ?_) (fun q => absurd rfl q)
  rw [nI_1]
  exact g w7 (c1 + 13) _ _ _ _ hw7 ((((((hf1.tr hf2).tr hf3).tr hf4).tr hf5).tr hf6).tr hf7) (by omega)
/-- one promise -/
theorem so_prom (h : Inv n s) (hj : Jn s) {p c : Nat} {l3 l4 l5 l6 : Value} (hp : p < s.np) (hw : RepC w s) (hf : fC w0 w) (hc : c ≤ 25000) (g : ∀ w' c' l3' l4' l5' l6', RepC w' s → fC w0 w' → c' ≤ c + 1229 → mm_E kL_isSound 2 [.ref 0, .int (nI s.ni), .int (nI (p + 1)), l3', l4', l5', l6'] [] w' c' K) : mm_E kL_isSound 10 [.ref 0, .int (nI s.ni), .int (nI p), l3, l4, l5, l6] [] w c K := by
  refine bL_isSound_10 (by show c + 1 ≤ 32000; omega) (v_status h hp w hw _ (fun w1 hw1 hf1 => mm_Kr (c + 1) rfl ?_))
  refine bL_isSound_15 (fun q => ?_) (fun q1 => ?_)
  · have q : s.st p = 111 := (st_is h.1 p 111 (by decide)).mp q
    exact so_open h hj hp (Or.inl q) hw1 (hf.tr hf1) (by omega) (fun w' c' l3 l4 l5 l6 hw' hf' hc' => g w' c' l3 l4 l5 l6 hw' hf' (by omega))
  refine bL_isSound_20 (by show c + 1 + 1 ≤ 32000; omega) (v_status h hp w1 hw1 _ (fun w2 hw2 hf2 => mm_Kr (c + 2) rfl ?_))
  refine bL_isSound_25 (fun q => ?_) (fun q2 => ?_)
  · have q : s.st p = 112 := (st_is h.1 p 112 (by decide)).mp q
    exact so_open h hj hp (Or.inr q) hw2 ((hf.tr hf1).tr hf2) (by omega) (fun w' c' l3 l4 l5 l6 hw' hf' hc' => g w' c' l3 l4 l5 l6 hw' hf' (by omega))
  have z1 : s.st p ≠ 111 := fun z => q1 ((st_is h.1 p 111 (by decide)).mpr z)
  have z2 : s.st p ≠ 112 := fun z => q2 ((st_is h.1 p 112 (by decide)).mpr z)
  have zo : ¬ (s.st p = 111 ∨ s.st p = 112) := fun z => z.elim z1 z2
  refine bL_isSound_30 (by show c + 2 + 2 ≤ 32000; omega) (v_lines h hp w2 hw2 _ (fun w3 hw3 hf3 => mm_Kr (c + 4) rfl ?_))
  rw [show lnA s p = -1002 from if_neg zo]
  refine bL_isSound_35 (fun _ => ?_) (fun q => absurd rfl q)
  refine bL_isSound_41 (by show c + 4 + 3 ≤ 32000; omega) (wX0_line (q_pickBin1 h hp z1 z2) (y := -1002) (by decide) w3 hw3 _ (fun w4 hw4 hf4 => mm_Kr (c + 7) rfl ?_))
  refine bL_isSound_48 (fun _ => ?_) (fun q => absurd rfl q)
  refine bL_isSound_54 (by show c + 7 + 2 ≤ 32000; omega) (v_walk1 h hp w4 hw4 _ (fun w5 hw5 hf5 => mm_Kr (c + 9) rfl ?_))
  rw [show wkA s p = -1002 from if_neg zo]
  refine bL_isSound_60 (fun _ => bL_isSound_246 ?_) (fun q => absurd rfl q)
  rw [nI_1]
  exact g w5 (c + 9) _ _ _ _ hw5 (((((hf.tr hf1).tr hf2).tr hf3).tr hf4).tr hf5) (by omega)
end SO
