/-! the law from its beginning to its end -/
theorem sw_op : mm_op kL_law 136 = some (.tableswitch 317 0 14 #[76, 76, 76, 76, 122, 152, 152, 193, 207, 207, 238, 238, 238, 289, 303], 212, 0) := by decide +kernel
section RU
variable {w0 : mmM} {K : mmO → mmM → Prop}
theorem max1_nI {m : Nat} (h : m < 1000) : (if (1 : Int32) < nI m then nI m else 1) = nI (max 1 m) := max_nI (a := 1) (by decide) (by omega)
theorem mod6 {k : Nat} : (k + 1) / 6 = k / 6 + (if k % 6 = 5 then 1 else 0) := by split <;> omega
/-- one step of the law's loop, from the switch on -/
theorem law_case {n a P M k steps c : Nat} {s : St} {w : mmM} (h : Inv n s) (hn : n + 1 ≤ 600) (hj : Jn s) (h0 : 0 < s.ni) (ha : a < 100000000) (hP : 0 < P) (hP2 : P < 1000) (hM : 0 < M) (hM2 : M < 1000) (hk : k < 1000) (hw : RepC w s) (hf : fC w0 w) (hc : c ≤ 560000)
    (ih : ∀ s' w' c' r, Inv (n + 1) s' → Jn s' → s'.ni = s.ni → RepC w' s' → fC w0 w' → c' ≤ c + 3008 + (if k % 6 = 5 then 32000 else 0) → mm_E kL_law 73 (LW (nI s'.ni) (nI steps) (nI (k + 1)) (nI a) (nI (a / 16)) (nI M) (nI P) (suV s) r) [] w' c' K) :
    mm_E kL_law 136 (LW (nI s.ni) (nI steps) (nI k) (nI a) (nI (a / 16)) (nI M) (nI P) (suV s) 0) [.int (nI a - nI a / 16 * 16)] w c K := by
  have hni := h.ni_
  have e16 : nI a - nI a / 16 * 16 = nI (a % 16) := nI_rem (b := 16) (by omega) (by decide)
  have eP : nI (a / 16) - nI (a / 16) / nI P * nI P = nI ((a / 16) % P) := nI_rem (by omega) (by omega)
  have i0 : ¬ nI s.ni = 0 := fun z => by
    have := (nI_eq (b := 0) (by omega) (by omega)).mp z
    omega
  have m0 : ¬ nI M = 0 := fun z => by
    have := (nI_eq (b := 0) (by omega) (by omega)).mp z
    omega
  have p0 : ¬ nI P = 0 := fun z => by
    have := (nI_eq (b := 0) (by omega) (by omega)).mp z
    omega
  have go : a % 16 ≠ 13 → LC (n + 1) s w0 K c (nI s.ni) (nI steps) (nI k) (nI a) (nI (a / 16)) (nI M) (nI P) (suV s) (XJ s) := by
    intro h13 w' c' s' r hw' hf' hc' hi hx
    rcases hx with ⟨hr, hx1, hx2⟩ | ⟨hr, e⟩
    · rw [← hx1]
      exact law_tail hi (hx2 hj) ha hP hP2 hk hw' hf' (by omega) (Or.inl ⟨hr, fun z => absurd z h13⟩) (fun w2 c2 hw2 hf2 hc2 => ih s' w2 c2 r hi (hx2 hj) hx1 hw2 hf2 (by omega))
    · subst e
      exact law_tail hi hj ha hP hP2 hk hw' hf' (by omega) (Or.inr ⟨hr, rfl⟩) (fun w2 c2 hw2 hf2 hc2 => ih s' w2 c2 r hi hj rfl hw2 hf2 (by omega))
  have goP : LC (n + 1) s w0 K c (nI s.ni) (nI steps) (nI k) (nI a) (nI (a / 16)) (nI M) (nI P) (suV s) (XP (nI (a / 16) - nI (a / 16) / nI P * nI P) s) := by
    intro w' c' s' r hw' hf' hc' hi hx
    rcases hx with ⟨hr, ⟨hx1, hx2⟩, p, e, hp, h112⟩ | ⟨hr, e⟩
    · rw [eP] at e
      have hp20 := hi.np_
      have e := (nI_eq (by have := Nat.mod_lt (a / 16) hP; omega) (by omega)).mp e
      rw [← hx1]
      exact law_tail hi (hx2 hj) ha hP hP2 hk hw' hf' (by omega) (Or.inl ⟨hr, fun _ => by rw [e]; exact ⟨hp, h112⟩⟩) (fun w2 c2 hw2 hf2 hc2 => ih s' w2 c2 r hi (hx2 hj) hx1 hw2 hf2 (by omega))
    · subst e
      exact law_tail hi hj ha hP hP2 hk hw' hf' (by omega) (Or.inr ⟨hr, rfl⟩) (fun w2 c2 hw2 hf2 hc2 => ih s' w2 c2 r hi hj rfl hw2 hf2 (by omega))
  rw [e16]
  have hj16 : a % 16 < 16 := Nat.mod_lt _ (by decide)
  generalize a % 16 = j at go hj16
  by_cases e0 : j = 0
  · subst e0
    exact e_sw (off := 76) (p := 212) sw_op (by decide +kernel) (by decide +kernel) (by decide +kernel) (by decide +kernel) (lc_receives h hw hf hc i0 (LC.nx hn (go (by decide))))
  by_cases e1 : j = 1
  · subst e1
    exact e_sw (off := 76) (p := 212) sw_op (by decide +kernel) (by decide +kernel) (by decide +kernel) (by decide +kernel) (lc_receives h hw hf hc i0 (LC.nx hn (go (by decide))))
  by_cases e2 : j = 2
  · subst e2
    exact e_sw (off := 76) (p := 212) sw_op (by decide +kernel) (by decide +kernel) (by decide +kernel) (by decide +kernel) (lc_receives h hw hf hc i0 (LC.nx hn (go (by decide))))
  by_cases e3 : j = 3
  · subst e3
    exact e_sw (off := 76) (p := 212) sw_op (by decide +kernel) (by decide +kernel) (by decide +kernel) (by decide +kernel) (lc_receives h hw hf hc i0 (LC.nx hn (go (by decide))))
  by_cases e4 : j = 4
  · subst e4
    exact e_sw (off := 122) (p := 258) sw_op (by decide +kernel) (by decide +kernel) (by decide +kernel) (by decide +kernel) (lc_substitutes h hw hf hc i0 (LC.nx hn (go (by decide))))
  by_cases e5 : j = 5
  · subst e5
    exact e_sw (off := 152) (p := 288) sw_op (by decide +kernel) (by decide +kernel) (by decide +kernel) (by decide +kernel) (lc_moves h hw hf hc m0 (LC.nx hn (go (by decide))))
  by_cases e6 : j = 6
  · subst e6
    exact e_sw (off := 152) (p := 288) sw_op (by decide +kernel) (by decide +kernel) (by decide +kernel) (by decide +kernel) (lc_moves h hw hf hc m0 (LC.nx hn (go (by decide))))
  by_cases e7 : j = 7
  · subst e7
    exact e_sw (off := 193) (p := 329) sw_op (by decide +kernel) (by decide +kernel) (by decide +kernel) (by decide +kernel) (lc_disposes h hw hf hc m0 (LC.nx hn (go (by decide))))
  by_cases e8 : j = 8
  · subst e8
    exact e_sw (off := 207) (p := 343) sw_op (by decide +kernel) (by decide +kernel) (by decide +kernel) (by decide +kernel) (lc_counts h hw hf hc m0 (LC.nx hn (go (by decide))))
  by_cases e9 : j = 9
  · subst e9
    exact e_sw (off := 207) (p := 343) sw_op (by decide +kernel) (by decide +kernel) (by decide +kernel) (by decide +kernel) (lc_counts h hw hf hc m0 (LC.nx hn (go (by decide))))
  by_cases e10 : j = 10
  · subst e10
    exact e_sw (off := 238) (p := 374) sw_op (by decide +kernel) (by decide +kernel) (by decide +kernel) (by decide +kernel) (lc_promises h hw hf hc i0 (LC.nx hn (go (by decide))))
  by_cases e11 : j = 11
  · subst e11
    exact e_sw (off := 238) (p := 374) sw_op (by decide +kernel) (by decide +kernel) (by decide +kernel) (by decide +kernel) (lc_promises h hw hf hc i0 (LC.nx hn (go (by decide))))
  by_cases e12 : j = 12
  · subst e12
    exact e_sw (off := 238) (p := 374) sw_op (by decide +kernel) (by decide +kernel) (by decide +kernel) (by decide +kernel) (lc_promises h hw hf hc i0 (LC.nx hn (go (by decide))))
  by_cases e13 : j = 13
  · subst e13
    exact e_sw (off := 289) (p := 425) sw_op (by decide +kernel) (by decide +kernel) (by decide +kernel) (by decide +kernel) (lc_picks h hw hf hc p0 (LC.nx hn goP))
  by_cases e14 : j = 14
  · subst e14
    exact e_sw (off := 303) (p := 439) sw_op (by decide +kernel) (by decide +kernel) (by decide +kernel) (by decide +kernel) (lc_cancels h hw hf hc p0 (LC.nx hn (go (by decide))))
  have e15 : j = 15 := by omega
  subst e15
  exact e_swd (p := 453) sw_op (by decide +kernel) (by decide +kernel) (by decide +kernel) (lc_goes h hn hw hf hc (go (by decide)))
theorem cstep {c c' k : Nat} (hc : c ≤ 500 + 6028 * k + 32000 * (k / 6)) (hc' : c' ≤ c + 3020 + 3008 + (if k % 6 = 5 then 32000 else 0)) : c' ≤ 500 + 6028 * (k + 1) + 32000 * ((k + 1) / 6) := by
  rw [mod6]
  by_cases q : k % 6 = 5
  · rw [if_pos q] at hc' ⊢
    rw [Nat.mul_add, Nat.mul_add, Nat.mul_one, Nat.mul_one]
    generalize 32000 * (k / 6) = Z at hc ⊢
    generalize 6028 * k = Y at hc ⊢
    exact Nat.le_trans hc' (by omega)
  · rw [if_neg q] at hc' ⊢
    rw [Nat.mul_add, Nat.mul_one, Nat.add_zero]
    generalize 32000 * (k / 6) = Z at hc ⊢
    generalize 6028 * k = Y at hc ⊢
    exact Nat.le_trans hc' (by omega)
theorem law_loop {steps Ls : Nat} (hK : ∀ w', K (.inl (some (.int 1))) w') (hst : steps < 50) (hL : w0 82 0 = nI Ls) (hl : Ls ≤ 1000) : ∀ m k s w c l5 l6 l7 l8 l9 l11, k + m = steps → Inv k s → Jn s → 0 < s.ni → RepC w s → fC w0 w → c ≤ 500 + 6028 * k + 32000 * (k / 6) → mm_E kL_law 73 [.ref 81, .ref 0, .int (nI s.ni), .int (nI steps), .int (nI k), l5, l6, l7, l8, l9, .retAddr 0, l11] [] w c K := by
  intro m
  induction m with
  | zero =>
    intro k s w c l5 l6 l7 l8 l9 l11 hk h hj h0 hw hf hc
    have e : k = steps := by omega
    subst e
    exact bL_law_73 (fun _ => law_last h hj h0 hw hK (by omega)) (fun q => absurd (le_nI (Nat.le_refl k) (by omega)) q)
  | succ m ih =>
    intro k s w c l5 l6 l7 l8 l9 l11 hk h hj h0 hw hf hc
    have hni := h.ni_; have hnl := h.nl_; have hnp := h.np_
    have hLw : w 82 0 = nI Ls := by rw [hf 82 (by decide)]; exact hL
    refine bL_law_73 (fun q => absurd q (ge_nI (show k < steps by omega) (by omega))) (fun _ => bL_law_79 (by show c + 0 ≤ 600104; omega) ?_)
    rw [show (2 : Int32) = nI 2 from rfl, nI_add]
    refine m_at hLw hl (by omega) (mm_Kr c rfl (bL_law_87 (by show c + 0 ≤ 600104; omega) ?_))
    refine m_some (m := 100000000) (by decide) (by decide) (fun a ha => mm_Kr c rfl ?_)
    have e16 : nI a / 16 = nI (a / 16) := nI_div (b := 16) (by omega) (by decide) (by decide)
    refine bL_law_92 (by show c + 0 ≤ 600104; omega) (q_lots w hw _ (fun w1 hw1 hf1 => mm_Kr c rfl ?_))
    rw [e16]
    refine bL_law_106 (by show c + 20 ≤ 600104; omega) ?_
    rw [max1_nI (by omega)]
    refine v_promises h hj w1 hw1 _ (fun w2 hw2 hf2 => mm_Kr (c + 20) rfl ?_)
    refine bL_law_116 (by show c + 20 + 3000 ≤ 600104; omega) ?_
    rw [max1_nI (by omega)]
    refine v_sum h hj w2 hw2 _ (fun w3 hw3 hf3 => mm_Kr (c + 3020) rfl (bL_law_126 ?_))
    refine law_case (n := k) (P := max 1 s.np) (M := max 1 s.nl) h (by omega) hj h0 ha (by omega) (by omega) (by omega) (by omega) (by omega) hw3 (((hf.tr hf1).tr hf2).tr hf3) (by omega) (fun s' w' c' r hi hj' hx hw' hf' hc' => ?_)
    refine ih (k + 1) s' w' c' _ _ _ _ _ _ (by omega) hi hj' (by omega) hw' hf' ?_
    exact cstep hc hc'
theorem cat3 {r : Nat} (h : r < 3) : ((((65 : Int32) + nI r).toUInt32 % 65536).toInt32) = nI (65 + r) := by
  match r, h with
  | 0, _ => decide
  | 1, _ => decide
  | 2, _ => decide
theorem adds_loop {items Ls : Nat} (hit : items ≤ 6) (hL : w0 82 0 = nI Ls) (hl : Ls ≤ 1000) (g : ∀ s w c, Inv 0 s → Jn s → s.ni = items → RepC w s → fC w0 w → c ≤ 440 → mm_E kL_law 59 [.ref 81, .ref 0, .int (nI items), .int (nI items), .retAddr 0, .retAddr 0, .retAddr 0, .retAddr 0, .retAddr 0, .retAddr 0, .retAddr 0, .retAddr 0] [] w c K) : ∀ m i s w c, i + m = items → Inv 0 s → s.ni = i → s.np = 0 → RepC w s → fC w0 w → c ≤ 430 + i → mm_E kL_law 23 [.ref 81, .ref 0, .int (nI items), .int (nI i), .retAddr 0, .retAddr 0, .retAddr 0, .retAddr 0, .retAddr 0, .retAddr 0, .retAddr 0, .retAddr 0] [] w c K := by
  have jn : ∀ s : St, s.np = 0 → Jn s := fun s hz => ⟨fun p hp => by omega, fun p i hp => by omega, fun p hp => by omega, fun p hp => by omega⟩
  intro m
  induction m with
  | zero =>
    intro i s w c hi h hni hnp hw hf hc
    have e : i = items := by omega
    subst e
    exact bL_law_23 (fun _ => g s w c h (jn s hnp) hni hw hf (by omega)) (fun q => absurd (le_nI (Nat.le_refl i) (by omega)) q)
  | succ m ih =>
    intro i s w c hi h hni hnp hw hf hc
    have hLw : w 82 0 = nI Ls := by rw [hf 82 (by decide)]; exact hL
    refine bL_law_23 (fun q => absurd q (ge_nI (show i < items by omega) (by omega))) (fun _ => bL_law_28 (by show c + 0 ≤ 600104; omega) ?_)
    refine m_at (k := 0) hLw hl (by decide) (mm_Kr c rfl (bL_law_36 (by show c + 0 ≤ 600104; omega) ?_))
    refine m_some (m := 3) (by decide) (by decide) (fun r hr => mm_Kr c rfl ?_)
    refine bL_law_42 (by show c + 1 ≤ 600104; omega) ?_
    rw [cat3 hr]
    obtain ⟨hi2, hC⟩ := q_addItem h (c := 65 + r) (by omega) (by omega)
    refine wA_adds hC w hw _ (fun w1 hw1 hf1 => mm_Kr (c + 1) rfl (bL_law_47 (fun _ => bL_law_53 ?_) (fun q => absurd (by rw [hni]) q)))
    rw [nI_1]
    exact ih (i + 1) _ w1 (c + 1) (by omega) hi2 (by rw [← hni]; rfl) hnp hw1 (hf.tr hf1) (by omega)
end RU
