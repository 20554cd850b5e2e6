/-! the law's sum is a number of the state alone -/
def su1 (s : St) (l : Nat) (a : Int64) : Int64 := fo (fun b a => Int64.ofNat 31 * a + (nI (s.un l b)).toInt64) a 40
noncomputable def su2 (s : St) (p : Nat) (a : Int64) : Int64 := fo (fun i a => Int64.ofNat 31 * a + (nI (s.q p i)).toInt64) (Int64.ofNat 31 * a + (nI (s.st p)).toInt64 + Int64.ofNat 3 * (lnA s p).toInt64 + Int64.ofNat 5 * (wkA s p).toInt64) s.ni
def su3 (s : St) (b : Nat) (a : Int64) : Int64 := Int64.ofNat 31 * a + (dyA s b).toInt64
def su4 (s : St) (i : Nat) (a : Int64) : Int64 := Int64.ofNat 31 * a + (nI (s.la i 3)).toInt64 + Int64.ofNat 3 * (fsA s i).toInt64
def su0 (s : St) : Int64 := (nI s.td).toInt64 + Int64.ofNat 31 * (nI s.nl).toInt64 + Int64.ofNat 961 * (nI s.ne).toInt64 + Int64.ofNat 7 * (nI s.cd).toInt64 + Int64.ofNat 11 * (nxA s).toInt64
noncomputable def suV (s : St) : Int64 := fo (su4 s) (fo (su3 s) (fo (su2 s) (fo (su1 s) (su0 s) s.nl) s.np) 40) s.ni
section SV
variable {n : Nat} {s : St} {w0 w : mmM} {K : mmO → mmM → Prop}
theorem su_1 (h : Inv n s) {l c : Nat} {a : Int64} {l5 : Value} (hl : l < s.nl) (hw : RepC w s) (hf : fC w0 w) (hc : c ≤ 2000) (g : ∀ w' c' l5', RepC w' s → fC w0 w' → c' ≤ c + 80 → mm_E kL_sum 49 [.ref 0, .int (nI s.ni), .long (su1 s l a), .retAddr 0, .int (nI (l + 1)), l5'] [] w' c' K) : mm_E kL_sum 58 [.ref 0, .int (nI s.ni), .long a, .retAddr 0, .int (nI l), l5] [] w c K := by
  refine bL_sum_58 ?_
  refine e_for0 (n := 40) (a0 := a) (f := fun b a => Int64.ofNat 31 * a + (nI (s.un l b)).toInt64) (E := fun b a => ∀ w' c', RepC w' s → fC w0 w' → c' ≤ c + 2 * b → mm_E kL_sum 61 [.ref 0, .int (nI s.ni), .long a, .retAddr 0, .int (nI l), .int (nI b)] [] w' c' K) ?_ ?_ w c hw hf (by omega)
  · intro b a hb ih w1 c1 hw1 hf1 hc1
    refine bL_sum_61 (fun q => absurd q (ge_nI hb (by decide))) (fun _ => bL_sum_68 (by show c1 + 2 ≤ 3000; omega) (v_stock0 h hl hb w1 hw1 _ (fun w2 hw2 hf2 => mm_Kr (c1 + 2) rfl (bL_sum_82 ?_))))
    rw [nI_1]
    exact ih w2 (c1 + 2) hw2 (hf1.tr hf2) (by omega)
  · intro w1 c1 hw1 hf1 hc1
    refine bL_sum_61 (fun _ => bL_sum_91 ?_) (fun q => absurd (le_nI (Nat.le_refl 40) (by decide)) q)
    rw [nI_1]
    exact g w1 c1 _ hw1 hf1 hc1
theorem su_2 (h : Inv n s) {p c : Nat} {a : Int64} {l5 : Value} (hp : p < s.np) (hw : RepC w s) (hf : fC w0 w) (hc : c ≤ 2900) (g : ∀ w' c' l5', RepC w' s → fC w0 w' → c' ≤ c + 17 → mm_E kL_sum 100 [.ref 0, .int (nI s.ni), .long (su2 s p a), .retAddr 0, .int (nI (p + 1)), l5'] [] w' c' K) : mm_E kL_sum 109 [.ref 0, .int (nI s.ni), .long a, .retAddr 0, .int (nI p), l5] [] w c K := by
  have hni := h.ni_
  refine bL_sum_109 (by show c + 1 ≤ 3000; omega) (v_status h hp w hw _ (fun w1 hw1 hf1 => mm_Kr (c + 1) rfl ?_))
  refine bL_sum_120 (by show c + 1 + 2 ≤ 3000; omega) (v_lines h hp w1 hw1 _ (fun w2 hw2 hf2 => mm_Kr (c + 3) rfl ?_))
  refine bL_sum_131 (by show c + 3 + 2 ≤ 3000; omega) (v_walk0 h hp w2 hw2 _ (fun w3 hw3 hf3 => mm_Kr (c + 5) rfl (bL_sum_144 ?_)))
  refine e_for0 (n := s.ni) (a0 := Int64.ofNat 31 * a + (nI (s.st p)).toInt64 + Int64.ofNat 3 * (lnA s p).toInt64 + Int64.ofNat 5 * (wkA s p).toInt64) (f := fun i a => Int64.ofNat 31 * a + (nI (s.q p i)).toInt64) (E := fun i a => ∀ w' c', RepC w' s → fC w0 w' → c' ≤ c + 5 + 2 * i → mm_E kL_sum 151 [.ref 0, .int (nI s.ni), .long a, .retAddr 0, .int (nI p), .int (nI i)] [] w' c' K) ?_ ?_ w3 (c + 5) hw3 (((hf.tr hf1).tr hf2).tr hf3) (by omega)
  · intro i a hi ih w1 c1 hw1 hf1 hc1
    refine bL_sum_151 (fun q => absurd q (ge_nI hi (by omega))) (fun _ => bL_sum_157 (by show c1 + 2 ≤ 3000; omega) (q_quantity h hp hi w1 hw1 _ (fun w2 hw2 hf2 => mm_Kr (c1 + 2) rfl (bL_sum_170 ?_))))
    rw [nI_1]
    exact ih w2 (c1 + 2) hw2 (hf1.tr hf2) (by omega)
  · intro w1 c1 hw1 hf1 hc1
    refine bL_sum_151 (fun _ => bL_sum_179 ?_) (fun q => absurd (le_nI (Nat.le_refl s.ni) (by omega)) q)
    rw [nI_1]
    exact g w1 c1 _ hw1 hf1 (by omega)
theorem su_4 (h : Inv n s) {i c : Nat} {a : Int64} {l5 : Value} (hi : i < s.ni) (hw : RepC w s) (hf : fC w0 w) (hc : c ≤ 2990) (g : ∀ w' c' l5', RepC w' s → fC w0 w' → c' ≤ c + 4 → mm_E kL_sum 218 [.ref 0, .int (nI s.ni), .long (su4 s i a), .retAddr 0, .int (nI (i + 1)), l5'] [] w' c' K) : mm_E kL_sum 224 [.ref 0, .int (nI s.ni), .long a, .retAddr 0, .int (nI i), l5] [] w c K := by
  refine bL_sum_224 (by show c + 0 ≤ 3000; omega) (q_day w hw _ (fun w1 hw1 hf1 => mm_Kr c rfl ?_))
  refine bL_sum_236 (by show c + 2 ≤ 3000; omega) ?_
  rw [show (3 : Int32) = nI 3 from rfl, nI_add]
  refine v_free0 h hi (by decide) w1 hw1 _ (fun w2 hw2 hf2 => mm_Kr (c + 2) rfl ?_)
  refine bL_sum_242 (by show c + 2 + 0 ≤ 3000; omega) (q_day w2 hw2 _ (fun w3 hw3 hf3 => mm_Kr (c + 2) rfl ?_))
  refine bL_sum_254 (by show c + 2 + 2 ≤ 3000; omega) (v_first h hi w3 hw3 _ (fun w4 hw4 hf4 => mm_Kr (c + 4) rfl (bL_sum_257 ?_)))
  rw [nI_1]
  exact g w4 (c + 4) _ hw4 ((((hf.tr hf1).tr hf2).tr hf3).tr hf4) (Nat.le_refl _)
theorem v_sum (h : Inv n s) (hj : Jn s) : opC kL_sum [.ref 0, .int (nI s.ni)] s s (.inl (some (.long (suV s)))) := by
  intro w0 hw0 K hK
  have hni := h.ni_; have hnl := h.nl_; have hnp := h.np_
  refine bL_sum_0 (by decide) (q_day w0 hw0 _ (fun w1 hw1 hf1 => mm_Kr 0 rfl ?_))
  refine bL_sum_4 (by decide) (q_lots w1 hw1 _ (fun w2 hw2 hf2 => mm_Kr 0 rfl ?_))
  refine bL_sum_12 (by decide) (q_entries w2 hw2 _ (fun w3 hw3 hf3 => mm_Kr 0 rfl ?_))
  refine bL_sum_22 (by decide) (q_countsDue h w3 hw3 _ (fun w4 hw4 hf4 => mm_Kr 0 rfl ?_))
  refine bL_sum_32 (by decide) (v_next h w4 hw4 _ (fun w5 hw5 hf5 => mm_Kr 1 rfl (bL_sum_42 ?_)))
  have hf05 := (((hf1.tr hf2).tr hf3).tr hf4).tr hf5
  refine e_for0 (n := s.nl) (a0 := su0 s) (f := su1 s) (E := fun l a => ∀ w c l5, RepC w s → fC w0 w → c ≤ 1 + 80 * l → mm_E kL_sum 49 [.ref 0, .int (nI s.ni), .long a, .retAddr 0, .int (nI l), l5] [] w c K) ?_ ?_ w5 1 _ hw5 hf05 (by omega)
  · intro l a hl ih w c l5 hw hf hc
    refine bL_sum_49 (by show c + 0 ≤ 3000; omega) (q_lots w hw _ (fun w1 hw1 hf1 => mm_Kr c rfl ?_))
    refine bL_sum_55 (fun q => absurd q (ge_nI hl (by omega))) (fun _ => ?_)
    exact su_1 h hl hw1 (hf.tr hf1) (by omega) (fun w2 c2 l52 hw2 hf2 hc2 => ih w2 c2 l52 hw2 hf2 (by omega))
  intro w c l5 hw hf hc
  refine bL_sum_49 (by show c + 0 ≤ 3000; omega) (q_lots w hw _ (fun w1 hw1 hf1 => mm_Kr c rfl ?_))
  refine bL_sum_55 (fun _ => bL_sum_97 ?_) (fun q => absurd (le_nI (Nat.le_refl s.nl) (by omega)) q)
  generalize hA1 : fo (su1 s) (su0 s) s.nl = A1
  refine e_for0 (n := s.np) (a0 := A1) (f := su2 s) (E := fun p a => ∀ w c l5, RepC w s → fC w0 w → c ≤ 1921 + 37 * p → mm_E kL_sum 100 [.ref 0, .int (nI s.ni), .long a, .retAddr 0, .int (nI p), l5] [] w c K) ?_ ?_ w1 c _ hw1 (hf.tr hf1) (by omega)
  · intro p a hp ih w c l5 hw hf hc
    refine bL_sum_100 (by show c + 20 ≤ 3000; omega) (v_promises h hj w hw _ (fun w1 hw1 hf1 => mm_Kr (c + 20) rfl ?_))
    refine bL_sum_106 (fun q => absurd q (ge_nI hp (by omega))) (fun _ => ?_)
    exact su_2 h hp hw1 (hf.tr hf1) (by omega) (fun w2 c2 l52 hw2 hf2 hc2 => ih w2 c2 l52 hw2 hf2 (by omega))
  clear hf05 hw5 hf1 hw1 w1 hw hf hc w c l5
  intro w c l5 hw hf hc
  refine bL_sum_100 (by show c + 20 ≤ 3000; omega) (v_promises h hj w hw _ (fun w1 hw1 hf1 => mm_Kr (c + 20) rfl ?_))
  refine bL_sum_106 (fun _ => bL_sum_185 ?_) (fun q => absurd (le_nI (Nat.le_refl s.np) (by omega)) q)
  generalize hA2 : fo (su2 s) A1 s.np = A2
  refine e_for0 (n := 40) (a0 := A2) (f := su3 s) (E := fun b a => ∀ w c, RepC w s → fC w0 w → c ≤ 2681 + 2 * b → mm_E kL_sum 188 [.ref 0, .int (nI s.ni), .long a, .retAddr 0, .int (nI b), l5] [] w c K) ?_ ?_ w1 (c + 20) hw1 (hf.tr hf1) (by omega)
  · intro b a hb ih w c hw hf hc
    refine bL_sum_188 (fun q => absurd q (ge_nI hb (by decide))) (fun _ => bL_sum_195 (by show c + 2 ≤ 3000; omega) (v_dueDay h hb w hw _ (fun w1 hw1 hf1 => mm_Kr (c + 2) rfl (bL_sum_206 ?_))))
    rw [nI_1]
    exact ih w1 (c + 2) hw1 (hf.tr hf1) (by omega)
  clear hf1 hw1 w1 hw hf hc w c
  intro w c hw hf hc
  refine bL_sum_188 (fun _ => bL_sum_215 ?_) (fun q => absurd (le_nI (Nat.le_refl 40) (by decide)) q)
  generalize hA3 : fo (su3 s) A2 40 = A3
  refine e_for0 (n := s.ni) (a0 := A3) (f := su4 s) (E := fun i a => ∀ w c l5, RepC w s → fC w0 w → c ≤ 2761 + 4 * i → mm_E kL_sum 218 [.ref 0, .int (nI s.ni), .long a, .retAddr 0, .int (nI i), l5] [] w c K) ?_ ?_ w c l5 hw hf (by omega)
  · intro i a hi ih w c l5 hw hf hc
    refine bL_sum_218 (fun q => absurd q (ge_nI hi (by omega))) (fun _ => ?_)
    exact su_4 h hi hw hf (by omega) (fun w2 c2 l52 hw2 hf2 hc2 => ih w2 c2 l52 hw2 hf2 (by omega))
  intro w c l5 hw hf hc
  have e : suV s = fo (su4 s) A3 s.ni := by rw [← hA3, ← hA2, ← hA1]; rfl
  rw [e] at hK
  exact bL_sum_218 (fun _ => bL_sum_267 (hK w hw hf)) (fun q => absurd (le_nI (Nat.le_refl s.ni) (by omega)) q)
end SV
