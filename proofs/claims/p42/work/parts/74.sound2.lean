section SO2
variable {n : Nat} {s : St} {w0 w : mmM} {K : mmO → mmM → Prop}
theorem nI_ne2 {a : Nat} (h : a < 1000000) : nI a ≠ -1002 := fun e => nI_pos (n := a) (by omega) (by rw [e]; decide)
/-- one bin -/
theorem so_bin (h : Inv n s) {b c : Nat} {A : Nat} {l4 l5 l6 : Value} (hb : b < 40) (hw : RepC w s) (hf : fC w0 w) (hc : c ≤ 31500) (g : ∀ w' c' l4' l5' l6', RepC w' s → fC w0 w' → c' ≤ c + 152 → mm_E kL_isSound 256 [.ref 0, .int (nI s.ni), .int (nI (A + s.bl b)), .int (nI (b + 1)), l4', l5', l6'] [] w' c' K) : mm_E kL_isSound 262 [.ref 0, .int (nI s.ni), .int (nI A), .int (nI b), l4, l5, l6] [] w c K := by
  have hni := h.ni_; have hnl := h.nl_
  have hbl := h.bl_ b hb
  have hdd := h.ddb b
  refine bL_isSound_262 ?_
  refine e_for0 (n := s.nl) (a0 := ()) (f := fun _ a => a) (E := fun l _ => ∀ w c' l6, RepC w s → fC w0 w → c' ≤ c + 6 * l → mm_E kL_isSound 268 [.ref 0, .int (nI s.ni), .int (nI A), .int (nI b), .int (nI (sm (fun l => s.un l b) l)), .int (nI l), l6] [] w c' K) ?_ ?_ w c _ hw hf (by omega)
  · intro l _ hl ih w c1 l6 hw hf hc1
    refine bL_isSound_268 (by show c1 + 0 ≤ 32000; omega) (q_lots w hw _ (fun w1 hw1 hf1 => mm_Kr c1 rfl ?_))
    refine bL_isSound_274 (fun q => absurd q (ge_nI hl (by omega))) (fun _ => ?_)
    refine bL_isSound_277 (by show c1 + 2 ≤ 32000; omega) (v_stock0 h hl hb w1 hw1 _ (fun w2 hw2 hf2 => mm_Kr (c1 + 2) rfl ?_))
    refine bL_isSound_287 (by show c1 + 2 + 2 ≤ 32000; omega) (v_stock0 h hl hb w2 hw2 _ (fun w3 hw3 hf3 => mm_Kr (c1 + 4) rfl ?_))
    refine bL_isSound_298 (by show c1 + 4 + 2 ≤ 32000; omega) (v_stock1 h hl hb w3 hw3 _ (fun w4 hw4 hf4 => mm_Kr (c1 + 6) rfl ?_))
    refine bL_isSound_306 (fun _ => bL_isSound_311 ?_) (fun q => absurd rfl q)
    rw [nI_1, nI_add]
    exact ih w4 (c1 + 6) _ hw4 ((((hf.tr hf1).tr hf2).tr hf3).tr hf4) (by omega)
  clear hw hf
  intro w c1 l6 hw hf hc1
  rw [show sm (fun l => s.un l b) s.nl = s.bl b from (h.bln b).symm]
  refine bL_isSound_268 (by show c1 + 0 ≤ 32000; omega) (q_lots w hw _ (fun w1 hw1 hf1 => mm_Kr c1 rfl ?_))
  refine bL_isSound_274 (fun _ => ?_) (fun q => absurd (le_nI (Nat.le_refl _) (by omega)) q)
  refine bL_isSound_317 (by show c1 + 1 ≤ 32000; omega) (q_load hb w1 hw1 _ (fun w2 hw2 hf2 => mm_Kr (c1 + 1) rfl ?_))
  refine bL_isSound_327 (fun _ => ?_) (fun q => absurd rfl q)
  refine bL_isSound_332 (fun q => ?_) (fun _ => ?_)
  · rw [show (30 : Int32) = nI 30 from rfl, nI_lti (by omega) (by omega)] at q
    omega
  have hf02 := (hf.tr hf1).tr hf2
  -- from the comparison of both on
  have tail : ∀ w' c', RepC w' s → fC w0 w' → c' ≤ c1 + 3 → mm_E kL_isSound 368 [.ref 0, .int (nI s.ni), .int (nI A + nI (s.bl b)), .int (nI b), .int (nI (s.bl b)), .int (nI s.nl), l6] [] w' c' K := by
    intro w' c' hw' hf' hc'
    have nx : ∀ w' c', RepC w' s → fC w0 w' → c' ≤ c1 + 8 → mm_E kL_isSound 391 [.ref 0, .int (nI s.ni), .int (nI A + nI (s.bl b)), .int (nI b), .int (nI (s.bl b)), .int (nI s.nl), l6] [] w' c' K := by
      intro w' c' hw' hf' hc'
      refine bL_isSound_391 ?_
      rw [nI_1, nI_add]
      exact g w' c' _ _ _ hw' hf' (by omega)
    refine bL_isSound_368 (fun _ => nx w' c' hw' hf' (by omega)) (fun q => ?_)
    have hz : s.bl b ≠ 0 := fun z => q (by rw [z]; decide)
    obtain ⟨m1, m2, m3, m4⟩ := nc_min hb hz
    have hdn := h.ddb (s.nc - 1)
    refine bL_isSound_373 (by show c' + 2 ≤ 32000; omega) (v_dueDay h hb w' hw' _ (fun w3 hw3 hf3 => mm_Kr (c' + 2) rfl ?_))
    refine bL_isSound_378 (by show c' + 2 + 1 ≤ 32000; omega) (v_next h w3 hw3 _ (fun w4 hw4 hf4 => mm_Kr (c' + 3) rfl ?_))
    rw [show nxA s = nI (s.nc - 1) from if_neg m1]
    refine bL_isSound_383 (by show c' + 3 + 2 ≤ 32000; omega) (v_dueDay h m2 w4 hw4 _ (fun w5 hw5 hf5 => mm_Kr (c' + 5) rfl ?_))
    rw [show dyA s b = nI (s.dd b) from if_neg hz, show dyA s (s.nc - 1) = nI (s.dd (s.nc - 1)) from if_neg m3]
    refine bL_isSound_386 (fun _ => nx w5 (c' + 5) hw5 (((hf'.tr hf3).tr hf4).tr hf5) (by omega)) (fun z => absurd ?_ z)
    rw [nI_lei (by omega) (by omega)]
    exact m4
  by_cases hz : s.bl b = 0
  · refine bL_isSound_339 (fun _ => bL_isSound_344 ?_) (fun q => absurd (by rw [hz]; rfl) q)
    refine bL_isSound_349 (by show c1 + 1 + 2 ≤ 32000; omega) (v_dueDay h hb w2 hw2 _ (fun w3 hw3 hf3 => mm_Kr (c1 + 3) rfl ?_))
    rw [show dyA s b = -1002 from if_pos hz]
    exact bL_isSound_354 (fun _ => bL_isSound_360 (bL_isSound_365 (fun _ => tail w3 (c1 + 3) hw3 (hf02.tr hf3) (Nat.le_refl _)) (fun q => absurd rfl q))) (fun q => absurd rfl q)
  · refine bL_isSound_339 (fun q => absurd ((nI_eq (b := 0) (by omega) (by omega)).mp q) hz) (fun _ => bL_isSound_348 ?_)
    refine bL_isSound_349 (by show c1 + 1 + 2 ≤ 32000; omega) (v_dueDay h hb w2 hw2 _ (fun w3 hw3 hf3 => mm_Kr (c1 + 3) rfl ?_))
    rw [show dyA s b = nI (s.dd b) from if_neg hz]
    exact bL_isSound_354 (fun q => absurd q (nI_ne2 (by omega))) (fun _ => bL_isSound_364 (bL_isSound_365 (fun _ => tail w3 (c1 + 3) hw3 (hf02.tr hf3) (Nat.le_refl _)) (fun q => absurd rfl q)))
/-- one item -/
theorem so_item (h : Inv n s) {i c T : Nat} {l4 l5 l6 : Value} (hi : i < s.ni) (hT : s.uu i ≤ T) (hT2 : T < 100000) (hw : RepC w s) (hf : fC w0 w) (hc : c ≤ 31500) (g : ∀ w' c' l4' l5' l6', RepC w' s → fC w0 w' → c' ≤ c + 69 → mm_E kL_isSound 399 [.ref 0, .int (nI s.ni), .int (nI (T - s.uu i)), .int (nI (i + 1)), l4', l5', l6'] [] w' c' K) : mm_E kL_isSound 404 [.ref 0, .int (nI s.ni), .int (nI T), .int (nI i), l4, l5, l6] [] w c K := by
  have hni := h.ni_
  have hu := uu_eq s i s.td
  have hsk := h.skb i s.td
  refine bL_isSound_404 (by show c + 1 ≤ 32000; omega) (q_onHand h hi w hw _ (fun w1 hw1 hf1 => mm_Kr (c + 1) rfl ?_))
  refine bL_isSound_410 (by show c + 1 + 1 ≤ 32000; omega) (q_expired h hi w1 hw1 _ (fun w2 hw2 hf2 => mm_Kr (c + 2) rfl ?_))
  refine bL_isSound_415 (by show c + 2 + 0 ≤ 32000; omega) (q_day w2 hw2 _ (fun w3 hw3 hf3 => mm_Kr (c + 2) rfl ?_))
  rw [nI_add, ← hu, sub_nI hT]
  refine bL_isSound_424 (by show c + 2 + 2 ≤ 32000; omega) (v_had h hi w3 hw3 _ (fun w4 hw4 hf4 => mm_Kr (c + 4) rfl ?_))
  refine bL_isSound_427 (by show c + 4 + 1 ≤ 32000; omega) (q_onHand h hi w4 hw4 _ (fun w5 hw5 hf5 => mm_Kr (c + 5) rfl ?_))
  refine bL_isSound_432 (by show c + 5 + 1 ≤ 32000; omega) (q_expired h hi w5 hw5 _ (fun w6 hw6 hf6 => mm_Kr (c + 6) rfl ?_))
  refine bL_isSound_437 (fun _ => bL_isSound_443 ?_) (fun q => absurd (by rw [nI_add, ← hu]) q)
  have hf06 := (((((hf.tr hf1).tr hf2).tr hf3).tr hf4).tr hf5).tr hf6
  refine e_for0 (n := 9) (a0 := ()) (f := fun _ a => a) (E := fun d _ => ∀ w c' l5 l6, RepC w s → fC w0 w → c' ≤ c + 6 + 7 * d → mm_E kL_isSound 446 [.ref 0, .int (nI s.ni), .int (nI (T - s.uu i)), .int (nI i), .int (nI (7 * d)), l5, l6] [] w c' K) ?_ ?_ w6 (c + 6) _ _ hw6 hf06 (by omega)
  · intro d _ hd ih w c1 l5 l6 hw hf hc1
    have hla : s.la i (7 * d) ≤ s.la i 0 := la_le
    have hla0 : s.la i 0 ≤ s.sk i s.td := Nat.le_trans (la_le (k := 0)) (Nat.sub_le _ _)
    have hlb := h.lab (o := i) (k := 0)
    refine bL_isSound_446 (fun q => ?_) (fun _ => ?_)
    · rw [show (60 : Int32) = nI 60 from rfl, nI_lti (by omega) (by omega)] at q
      omega
    refine bL_isSound_453 (by show c1 + 0 ≤ 32000; omega) (q_day w hw _ (fun w1 hw1 hf1 => mm_Kr c1 rfl ?_))
    refine bL_isSound_459 (by show c1 + 2 ≤ 32000; omega) ?_
    rw [nI_add]
    refine v_free0 h hi (by omega) w1 hw1 _ (fun w2 hw2 hf2 => mm_Kr (c1 + 2) rfl ?_)
    refine bL_isSound_466 (by show c1 + 2 + 0 ≤ 32000; omega) (q_day w2 hw2 _ (fun w3 hw3 hf3 => mm_Kr (c1 + 2) rfl ?_))
    refine bL_isSound_476 (by show c1 + 2 + 2 ≤ 32000; omega) ?_
    rw [nI_add]
    refine v_free1 h hi (by omega) w3 hw3 _ (fun w4 hw4 hf4 => mm_Kr (c1 + 4) rfl ?_)
    refine bL_isSound_483 (fun _ => ?_) (fun q => absurd rfl q)
    refine bL_isSound_486 (fun q => absurd q (nI_pos (by omega))) (fun _ => ?_)
    refine bL_isSound_491 (by show c1 + 4 + 0 ≤ 32000; omega) (q_day w4 hw4 _ (fun w5 hw5 hf5 => mm_Kr (c1 + 4) rfl ?_))
    refine bL_isSound_499 (by show c1 + 4 + 2 ≤ 32000; omega) (v_free0 (k := 0) h hi (by decide) w5 hw5 _ (fun w6 hw6 hf6 => mm_Kr (c1 + 6) rfl ?_))
    refine bL_isSound_503 (fun _ => ?_) (fun q => absurd (by rw [nI_lei (by omega) (by omega)]; exact hla) q)
    refine bL_isSound_511 (by show c1 + 6 + 1 ≤ 32000; omega) (q_onHand h hi w6 hw6 _ (fun w7 hw7 hf7 => mm_Kr (c1 + 7) rfl ?_))
    refine bL_isSound_518 (fun _ => bL_isSound_523 ?_) (fun q => absurd (by rw [nI_lei (by omega) (by omega)]; omega) q)
    rw [show (7 : Int32) = nI 7 from rfl, nI_add, show 7 * d + 7 = 7 * (d + 1) by omega]
    exact ih w7 (c1 + 7) _ _ hw7 (((((((hf.tr hf1).tr hf2).tr hf3).tr hf4).tr hf5).tr hf6).tr hf7) (by omega)
  · intro w c1 l5 l6 hw hf hc1
    refine bL_isSound_446 (fun _ => bL_isSound_529 ?_) (fun q => absurd (by decide) q)
    rw [nI_1]
    exact g w c1 _ _ _ hw hf (by omega)
theorem v_sound (h : Inv n s) (hj : Jn s) : opC kL_isSound [.ref 0, .int (nI s.ni)] s s (.inl (some (.int 1))) := by
  intro w0 hw0 K hK
  have hni := h.ni_; have hnp := h.np_; have hnl := h.nl_
  refine bL_isSound_0 ?_
  refine e_for0 (n := s.np) (a0 := ()) (f := fun _ a => a) (E := fun p _ => ∀ w c l3 l4 l5 l6, RepC w s → fC w0 w → c ≤ 1249 * p → mm_E kL_isSound 2 [.ref 0, .int (nI s.ni), .int (nI p), l3, l4, l5, l6] [] w c K) ?_ ?_ w0 0 _ _ _ _ hw0 fC.rfl (Nat.zero_le _)
  · intro p _ hp ih w c l3 l4 l5 l6 hw hf hc
    refine bL_isSound_2 (by show c + 20 ≤ 32000; omega) (v_promises h hj w hw _ (fun w1 hw1 hf1 => mm_Kr (c + 20) rfl ?_))
    refine bL_isSound_7 (fun q => absurd q (ge_nI hp (by omega))) (fun _ => ?_)
    exact so_prom h hj hp hw1 (hf.tr hf1) (by omega) (fun w' c' l3 l4 l5 l6 hw' hf' hc' => ih w' c' l3 l4 l5 l6 hw' hf' (by omega))
  intro w c l3 l4 l5 l6 hw hf hc
  refine bL_isSound_2 (by show c + 20 ≤ 32000; omega) (v_promises h hj w hw _ (fun w1 hw1 hf1 => mm_Kr (c + 20) rfl ?_))
  refine bL_isSound_7 (fun _ => bL_isSound_252 ?_) (fun q => absurd (le_nI (Nat.le_refl _) (by omega)) q)
  refine e_for0 (n := 40) (a0 := ()) (f := fun _ a => a) (E := fun b _ => ∀ w c l4 l5 l6, RepC w s → fC w0 w → c ≤ 25000 + 152 * b → mm_E kL_isSound 256 [.ref 0, .int (nI s.ni), .int (nI (sm s.bl b)), .int (nI b), l4, l5, l6] [] w c K) ?_ ?_ w1 (c + 20) _ _ _ hw1 (hf.tr hf1) (by omega)
  · intro b _ hb ih w c l4 l5 l6 hw hf hc
    refine bL_isSound_256 (fun q => absurd q (ge_nI hb (by decide))) (fun _ => ?_)
    exact so_bin h hb hw hf (by omega) (fun w' c' l4 l5 l6 hw' hf' hc' => ih w' c' l4 l5 l6 hw' hf' (by omega))
  clear hw hf hc hw1 hf1 w1 w c l3 l4 l5 l6
  intro w c l4 l5 l6 hw hf hc
  refine bL_isSound_256 (fun _ => bL_isSound_397 ?_) (fun q => absurd (le_nI (Nat.le_refl 40) (by decide)) q)
  have hT : sm s.bl 40 ≤ 1200 := Nat.le_trans (sm_le_mul (c := 30) (fun b hb => h.bl_ b hb)) (by decide)
  have hall := all_eq h.1
  have hle : ∀ i, i < s.ni → sm s.uu i + s.uu i ≤ sm s.uu s.ni := by
    intro i hi
    have key : ∀ m, i + 1 ≤ m → sm s.uu i + s.uu i ≤ sm s.uu m := by
      intro m
      induction m with
      | zero => intro z; omega
      | succ m ih =>
        intro z
        by_cases e : i = m
        · subst e; exact Nat.le_refl _
        · have := ih (by omega)
          show _ ≤ sm s.uu m + s.uu m
          omega
    exact key s.ni hi
  refine e_for0 (n := s.ni) (a0 := ()) (f := fun _ a => a) (E := fun i _ => ∀ w c l4 l5 l6, RepC w s → fC w0 w → c ≤ 31080 + 69 * i → mm_E kL_isSound 399 [.ref 0, .int (nI s.ni), .int (nI (sm s.bl 40 - sm s.uu i)), .int (nI i), l4, l5, l6] [] w c K) ?_ ?_ w c _ _ _ hw hf (by omega)
  · intro i _ hi ih w c l4 l5 l6 hw hf hc
    have h1 := hle i hi
    refine bL_isSound_399 (fun q => absurd q (ge_nI hi (by omega))) (fun _ => ?_)
    refine so_item h hi (by omega) (by omega) hw hf (by omega) (fun w' c' l4 l5 l6 hw' hf' hc' => ?_)
    rw [show sm s.bl 40 - sm s.uu i - s.uu i = sm s.bl 40 - sm s.uu (i + 1) by show _ = _ - (sm s.uu i + s.uu i); omega]
    exact ih w' c' l4 l5 l6 hw' hf' (by omega)
  · intro w c l4 l5 l6 hw hf hc
    rw [show sm s.bl 40 - sm s.uu s.ni = 0 by omega]
    exact bL_isSound_399 (fun _ => bL_isSound_535 (fun _ => bL_isSound_539 (bL_isSound_544 nb_1 (hK w hw hf))) (fun q => absurd rfl q)) (fun q => absurd (le_nI (Nat.le_refl _) (by omega)) q)
end SO2
