/-! the law's loop -/
theorem lg_cmp_same (a : Int64) : lg_cmp a a = 0 := (lg_cmp_eq a a).mpr rfl
abbrev LW (it st k x5 x6 x7 x8 : Int32) (B : Int64) (r : Int32) : List Value := [.ref 81, .ref 0, .int it, .int st, .int k, .int x5, .int x6, .int x7, .int x8, .long B, .retAddr 0, .int r]
section LS
variable {n : Nat} {s : St} {w0 w : mmM} {K : mmO → mmM → Prop} {c : Nat} {st k x5 x6 x7 x8 : Int32} {B : Int64} {r0 it : Int32}
/-- what a case of the law's switch comes to -/
def LC (n : Nat) (s : St) (w0 : mmM) (K : mmO → mmM → Prop) (c : Nat) (it st k x5 x6 x7 x8 : Int32) (B : Int64) (X : St → Prop) : Prop := ∀ w' c' s' r, RepC w' s' → fC w0 w' → c' ≤ c + 7 → Inv n s' → ((0 ≤ r.toInt ∧ X s') ∨ (r.toInt < -1000 ∧ s' = s)) → mm_E kL_law 465 (LW it st k x5 x6 x7 x8 B r) [] w' c' K
theorem lc_receives (h : Inv n s) (hw : RepC w s) (hf : fC w0 w) (hc : c ≤ 560000) (h0 : ¬ it = 0) (g : LC n s w0 K c it st k x5 x6 x7 x8 B (XJ s)) : mm_E kL_law 212 (LW it st k x5 x6 x7 x8 B r0) [] w c K := by
  refine bL_law_212 h0 (by show c + 0 ≤ 600104; omega) (q_day w hw _ (fun w1 hw1 hf1 => mm_Kr c rfl ?_))
  obtain ⟨s', r, hi, hx, hC⟩ := oW_receives (op_receive (x := x6 - x6 / it * it) (y := 1 + (x6 / 6 - x6 / 6 / 30 * 30)) (z := nI s.td + (x6 / 180 - x6 / 180 / 20 * 20)) (u := x6 / 3600 - x6 / 3600 / 40 * 40) h)
  exact bL_law_231 (by show c + 7 ≤ 600104; omega) (hC w1 hw1 _ (fun w2 hw2 hf2 => mm_Kr (c + 7) rfl (bL_law_253 (g w2 (c + 7) s' r hw2 ((hf.tr hf1).tr hf2) (Nat.le_refl _) hi hx))))
theorem lc_substitutes (h : Inv n s) (hw : RepC w s) (hf : fC w0 w) (hc : c ≤ 560000) (h0 : ¬ it = 0) (g : LC n s w0 K c it st k x5 x6 x7 x8 B (XJ s)) : mm_E kL_law 258 (LW it st k x5 x6 x7 x8 B r0) [] w c K := by
  obtain ⟨s', r, hi, hx, hC⟩ := oW_substitutes (op_addSubstitute (x := x6 - x6 / it * it) (y := x6 / 6 - x6 / 6 / it * it) (z := 1 + (x6 / 36 - x6 / 36 / 9 * 9)) h)
  exact bL_law_258 h0 h0 (by show c + 4 ≤ 600104; omega) (hC w hw _ (fun w2 hw2 hf2 => mm_Kr (c + 4) rfl (bL_law_283 (g w2 (c + 4) s' r hw2 (hf.tr hf2) (by omega) hi hx))))
theorem lc_moves (h : Inv n s) (hw : RepC w s) (hf : fC w0 w) (hc : c ≤ 560000) (h0 : ¬ x7 = 0) (g : LC n s w0 K c it st k x5 x6 x7 x8 B (XJ s)) : mm_E kL_law 288 (LW it st k x5 x6 x7 x8 B r0) [] w c K := by
  obtain ⟨s', r, hi, hx, hC⟩ := oW_moves (op_move (x := x6 - x6 / x7 * x7) (y := x6 / 24 - x6 / 24 / 40 * 40) (z := x6 / 960 - x6 / 960 / 40 * 40) (u := 1 + (x6 / 7 - x6 / 7 / 8 * 8)) h)
  exact bL_law_288 h0 (by show c + 7 ≤ 600104; omega) (hC w hw _ (fun w2 hw2 hf2 => mm_Kr (c + 7) rfl (bL_law_324 (g w2 (c + 7) s' r hw2 (hf.tr hf2) (by omega) hi hx))))
theorem lc_disposes (h : Inv n s) (hw : RepC w s) (hf : fC w0 w) (hc : c ≤ 560000) (h0 : ¬ x7 = 0) (g : LC n s w0 K c it st k x5 x6 x7 x8 B (XJ s)) : mm_E kL_law 329 (LW it st k x5 x6 x7 x8 B r0) [] w c K := by
  obtain ⟨s', r, hi, hx, hC⟩ := oW_disposes (op_dispose (x := x6 - x6 / x7 * x7) h)
  exact bL_law_329 h0 (by show c + 3 ≤ 600104; omega) (hC w hw _ (fun w2 hw2 hf2 => mm_Kr (c + 3) rfl (bL_law_338 (g w2 (c + 3) s' r hw2 (hf.tr hf2) (by omega) hi hx))))
theorem lc_counts (h : Inv n s) (hw : RepC w s) (hf : fC w0 w) (hc : c ≤ 560000) (h0 : ¬ x7 = 0) (g : LC n s w0 K c it st k x5 x6 x7 x8 B (XJ s)) : mm_E kL_law 343 (LW it st k x5 x6 x7 x8 B r0) [] w c K := by
  obtain ⟨s', r, hi, hx, hC⟩ := oW_counts (op_count (x := x6 - x6 / 40 * 40) (y := x6 / 40 - x6 / 40 / x7 * x7) (z := x6 / 960 - x6 / 960 / 31 * 31) h)
  exact bL_law_343 h0 (by show c + 5 ≤ 600104; omega) (hC w hw _ (fun w2 hw2 hf2 => mm_Kr (c + 5) rfl (bL_law_369 (g w2 (c + 5) s' r hw2 (hf.tr hf2) (by omega) hi hx))))
theorem lc_promises (h : Inv n s) (hw : RepC w s) (hf : fC w0 w) (hc : c ≤ 560000) (h0 : ¬ it = 0) (g : LC n s w0 K c it st k x5 x6 x7 x8 B (XJ s)) : mm_E kL_law 374 (LW it st k x5 x6 x7 x8 B r0) [] w c K := by
  refine bL_law_374 h0 (by show c + 0 ≤ 600104; omega) (q_day w hw _ (fun w1 hw1 hf1 => mm_Kr c rfl ?_))
  have go : ∀ z : Int32, mm_E kL_law 417 (LW it st k x5 x6 x7 x8 B r0) [.int z, .int (nI s.td + (x6 / 120 - x6 / 120 / 15 * 15)), .int (1 + (x6 / 6 - x6 / 6 / 20 * 20)), .int (x6 - x6 / it * it), .ref 0] w1 c K := by
    intro z
    obtain ⟨s', r, hi, hx, hC⟩ := oW_promises (op_promise (x := x6 - x6 / it * it) (y := 1 + (x6 / 6 - x6 / 6 / 20 * 20)) (z := nI s.td + (x6 / 120 - x6 / 120 / 15 * 15)) (u := z) h)
    exact bL_law_417 (by show c + 4 ≤ 600104; omega) (hC w1 hw1 _ (fun w2 hw2 hf2 => mm_Kr (c + 4) rfl (bL_law_420 (g w2 (c + 4) s' r hw2 ((hf.tr hf1).tr hf2) (by omega) hi hx))))
  exact bL_law_393 (fun _ => bL_law_412 (go 1)) (fun _ => bL_law_416 (go 0))
theorem lc_picks (h : Inv n s) (hw : RepC w s) (hf : fC w0 w) (hc : c ≤ 560000) (h0 : ¬ x8 = 0) (g : LC n s w0 K c it st k x5 x6 x7 x8 B (XP (x6 - x6 / x8 * x8) s)) : mm_E kL_law 425 (LW it st k x5 x6 x7 x8 B r0) [] w c K := by
  obtain ⟨s', r, hi, hx, hC⟩ := oW_picks (op_pick (x := x6 - x6 / x8 * x8) h)
  exact bL_law_425 h0 (by show c + 3 ≤ 600104; omega) (hC w hw _ (fun w2 hw2 hf2 => mm_Kr (c + 3) rfl (bL_law_434 (g w2 (c + 3) s' r hw2 (hf.tr hf2) (by omega) hi hx))))
theorem lc_cancels (h : Inv n s) (hw : RepC w s) (hf : fC w0 w) (hc : c ≤ 560000) (h0 : ¬ x8 = 0) (g : LC n s w0 K c it st k x5 x6 x7 x8 B (XJ s)) : mm_E kL_law 439 (LW it st k x5 x6 x7 x8 B r0) [] w c K := by
  obtain ⟨s', r, hi, hx, hC⟩ := oW_cancels (op_cancel (x := x6 - x6 / x8 * x8) h)
  exact bL_law_439 h0 (by show c + 2 ≤ 600104; omega) (hC w hw _ (fun w2 hw2 hf2 => mm_Kr (c + 2) rfl (bL_law_448 (g w2 (c + 2) s' r hw2 (hf.tr hf2) (by omega) hi hx))))
theorem lc_goes (h : Inv n s) (hn : n + 1 ≤ 600) (hw : RepC w s) (hf : fC w0 w) (hc : c ≤ 560000) (g : LC (n + 1) s w0 K c it st k x5 x6 x7 x8 B (XJ s)) : mm_E kL_law 453 (LW it st k x5 x6 x7 x8 B r0) [] w c K := by
  obtain ⟨s', r, hi, hx, hC⟩ := oW_goes (op_pass (x := 1 + (x6 - x6 / 4 * 4)) h hn)
  exact bL_law_453 (by show c + 1 ≤ 600104; omega) (hC w hw _ (fun w2 hw2 hf2 => mm_Kr (c + 1) rfl (bL_law_463 (g w2 (c + 1) s' r hw2 (hf.tr hf2) (by omega) hi hx))))
theorem LC.nx {X : St → Prop} (hn : n + 1 ≤ 600) (g : LC (n + 1) s w0 K c it st k x5 x6 x7 x8 B X) : LC n s w0 K c it st k x5 x6 x7 x8 B X := fun w' c' s' r hw hf hc hi hx => g w' c' s' r hw hf hc (hi.nx hn) hx
/-- behind the switch: a refused call changes nothing; all is sound at each sixth step -/
theorem law_tail {m a P : Nat} {r : Int32} (h : Inv n s) (hj : Jn s) (ha : a < 100000000) (hP : 0 < P) (hP2 : P < 1000) (hm : m < 1000) (hw : RepC w s) (hf : fC w0 w) (hc : c ≤ 565000) (hr : (0 ≤ r.toInt ∧ (a % 16 = 13 → (a / 16) % P < s.np ∧ s.st ((a / 16) % P) = 112)) ∨ (r.toInt < -1000 ∧ suV s = B)) (g : ∀ w' c', RepC w' s → fC w0 w' → c' ≤ c + 3001 + (if m % 6 = 5 then 32000 else 0) → mm_E kL_law 73 (LW (nI s.ni) st (nI (m + 1)) (nI a) (nI (a / 16)) x7 (nI P) B r) [] w' c' K) : mm_E kL_law 465 (LW (nI s.ni) st (nI m) (nI a) (nI (a / 16)) x7 (nI P) B r) [] w c K := by
  have hnp := h.np_
  have e1000 : (-1000 : Int32).toInt = -1000 := by decide
  have e16 : nI a - nI a / 16 * 16 = nI (a % 16) := nI_rem (b := 16) (by omega) (by decide)
  have e6 : nI m - nI m / 6 * 6 = nI (m % 6) := nI_rem (b := 6) (by omega) (by decide)
  have eP : nI (a / 16) - nI (a / 16) / nI P * nI P = nI ((a / 16) % P) := nI_rem (by omega) (by omega)
  have t515 : ∀ w' c', RepC w' s → fC w0 w' → c' ≤ c + 3001 → mm_E kL_law 515 (LW (nI s.ni) st (nI m) (nI a) (nI (a / 16)) x7 (nI P) B r) [] w' c' K := by
    intro w' c' hw' hf' hc'
    refine bL_law_515 (fun q => ?_) (fun q => ?_) <;> rw [e6, show (5 : Int32) = nI 5 from rfl, nI_eq (by omega) (by decide)] at q
    · rw [if_pos q] at g
      refine bL_law_524 (by show c' + 32000 ≤ 600104; omega) (v_sound h hj w' hw' _ (fun w2 hw2 hf2 => mm_Kr (c' + 32000) rfl (bL_law_529 (fun z => absurd z (by decide)) (fun _ => bL_law_534 ?_))))
      rw [nI_1]
      exact g w2 (c' + 32000) hw2 (hf'.tr hf2) (by omega)
    · rw [if_neg q] at g
      refine bL_law_534 ?_
      rw [nI_1]
      exact g w' c' hw' hf' (by omega)
  have t484 : ∀ w' c', RepC w' s → fC w0 w' → c' ≤ c + 3000 → mm_E kL_law 484 (LW (nI s.ni) st (nI m) (nI a) (nI (a / 16)) x7 (nI P) B r) [] w' c' K := by
    intro w' c' hw' hf' hc'
    refine bL_law_484 (fun q => ?_) (fun _ => t515 w' c' hw' hf' (by omega))
    rw [e16, show (13 : Int32) = nI 13 from rfl, nI_eq (by omega) (by decide)] at q
    refine bL_law_494 (fun _ => t515 w' c' hw' hf' (by omega)) (fun z => ?_)
    rcases hr with ⟨_, hp⟩ | ⟨hr, _⟩
    · obtain ⟨p1, p2⟩ := hp q
      refine bL_law_499 (fun y => ?_) (by show c' + 1 ≤ 600104; omega) ?_
      · have := (nI_eq (b := 0) (by omega) (by omega)).mp y
        omega
      rw [eP]
      refine v_status h p1 w' hw' _ (fun w2 hw2 hf2 => mm_Kr (c' + 1) rfl ?_)
      rw [p2]
      exact bL_law_508 (fun _ => t515 w2 (c' + 1) hw2 (hf'.tr hf2) (by omega)) (fun y => absurd rfl y)
    · refine absurd ?_ z
      rw [Int32.lt_iff_toInt_lt]
      show r.toInt < 0
      omega
  refine bL_law_465 (fun _ => t484 w c hw hf (by omega)) (fun q => ?_)
  rcases hr with ⟨hr, _⟩ | ⟨_, hB⟩
  · refine absurd ?_ q
    rw [Int32.le_iff_toInt_le, e1000]
    omega
  · refine bL_law_473 (by show c + 3000 ≤ 600104; omega) (v_sum h hj w hw _ (fun w2 hw2 hf2 => mm_Kr (c + 3000) rfl (bL_law_478 (fun _ => t484 w2 (c + 3000) hw2 (hf.tr hf2) (Nat.le_refl _)) (fun z => absurd ?_ z))))
    rw [hB]
    exact lg_cmp_same _
end LS
