/-! onHandOn -/
def s32 (f : Nat → Int32) : Nat → Int32
  | 0 => 0
  | n + 1 => s32 f n + f n
theorem fo_s32 {c : Nat → Prop} [DecidablePred c] {x : Nat → Int32} : ∀ {n : Nat}, fo (fun i a => if c i then a + x i else a) 0 n = s32 (fun i => if c i then x i else 0) n
  | 0 => rfl
  | n + 1 => by
    show (if c n then fo (fun i a => if c i then a + x i else a) 0 n + x n else fo (fun i a => if c i then a + x i else a) 0 n) = s32 (fun i => if c i then x i else 0) n + (if c n then x n else 0)
    rw [fo_s32]
    by_cases h : c n
    · rw [if_pos h, if_pos h]
    · rw [if_neg h, if_neg h, Int32.add_zero]
theorem s32_cong {f g : Nat → Int32} : ∀ {n : Nat}, (∀ i, i < n → f i = g i) → s32 f n = s32 g n
  | 0, _ => rfl
  | n + 1, h => by
    show s32 f n + f n = s32 g n + g n
    rw [s32_cong (fun i hi => h i (by omega)), h n (by omega)]
theorem s32_0 {f : Nat → Int32} : ∀ {n : Nat}, (∀ i, i < n → f i = 0) → s32 f n = 0
  | 0, _ => rfl
  | n + 1, h => by
    show s32 f n + f n = 0
    rw [s32_0 (fun i hi => h i (by omega)), h n (by omega)]
    rfl
theorem add4 (a b c d : Int32) : a + b + (c + d) = a + c + (b + d) := by
  rw [Int32.add_assoc, Int32.add_assoc, ← Int32.add_assoc b c d, ← Int32.add_assoc c b d, Int32.add_comm b c]
theorem s32_add {f g : Nat → Int32} : ∀ {n : Nat}, s32 (fun i => f i + g i) n = s32 f n + s32 g n
  | 0 => rfl
  | n + 1 => by
    show s32 (fun i => f i + g i) n + (f n + g n) = s32 f n + f n + (s32 g n + g n)
    rw [s32_add, add4]
theorem s32_one {f : Nat → Int32} {j : Nat} : ∀ {n : Nat}, j < n → (∀ i, i ≠ j → f i = 0) → s32 f n = f j
  | 0, h, _ => absurd h (Nat.not_lt_zero _)
  | n + 1, h, hz => by
    show s32 f n + f n = f j
    by_cases e : j = n
    · subst e
      rw [s32_0 (fun i hi => hz i (by omega)), Int32.zero_add]
    · rw [s32_one (n := n) (by omega) hz, hz n (fun q => e q.symm), Int32.add_zero]
theorem ho_sw {jl jd it : Nat → Nat} {G : Nat → Int32} {i d n : Nat} : ∀ {m : Nat}, (∀ e, e < m → jl e < n) → s32 (fun l => if it l = i then s32 (fun e => if jl e = l ∧ jd e ≤ d then G e else 0) m else 0) n = s32 (fun e => if it (jl e) = i ∧ jd e ≤ d then G e else 0) m
  | 0, _ => by
    show _ = 0
    refine s32_0 fun l _ => ?_
    show (if it l = i then (0 : Int32) else 0) = 0
    split <;> rfl
  | m + 1, h => by
    show _ = s32 (fun e => if it (jl e) = i ∧ jd e ≤ d then G e else 0) m + (if it (jl m) = i ∧ jd m ≤ d then G m else 0)
    rw [← ho_sw (G := G) (it := it) (i := i) (n := n) (fun e he => h e (by omega))]
    have e1 : ∀ l, l < n → (if it l = i then s32 (fun e => if jl e = l ∧ jd e ≤ d then G e else 0) (m + 1) else 0) = (if it l = i then s32 (fun e => if jl e = l ∧ jd e ≤ d then G e else 0) m else 0) + (if it l = i then (if jl m = l ∧ jd m ≤ d then G m else 0) else 0) := by
      intro l _
      by_cases q : it l = i
      · rw [if_pos q, if_pos q, if_pos q]
        rfl
      · rw [if_neg q, if_neg q, if_neg q]
        rfl
    rw [s32_cong e1, s32_add, s32_one (f := fun l => if it l = i then (if jl m = l ∧ jd m ≤ d then G m else 0) else 0) (h m (by omega)) (fun l hl => by
      show (if it l = i then (if jl m = l ∧ jd m ≤ d then G m else 0) else 0) = 0
      rw [if_neg (show ¬ (jl m = l ∧ jd m ≤ d) from fun q => hl q.1.symm)]
      split <;> rfl)]
    have e2 : (if it (jl m) = i then (if jl m = jl m ∧ jd m ≤ d then G m else 0) else 0) = if it (jl m) = i ∧ jd m ≤ d then G m else 0 := by
      by_cases q : it (jl m) = i
      · by_cases q2 : jd m ≤ d
        · rw [if_pos q, if_pos ⟨rfl, q2⟩, if_pos ⟨q, q2⟩]
        · rw [if_pos q, if_neg (fun z => q2 z.2), if_neg (fun z => q2 z.2)]
      · rw [if_neg q, if_neg (fun z => q z.1)]
    rw [e2]
section HO
variable {n : Nat} {s : St} {x y : Int32}
def St.gn (s : St) (e : Nat) : Int32 := sGain (fun e => nI (s.jf e) - 1) (fun e => nI (s.jt e) - 1) (fun e => nI (s.jq e)) e
def St.ho (s : St) (i d : Nat) : Int32 := s32 (fun e => if s.it (s.jl e) = i ∧ s.jd e ≤ d then s.gn e else 0) s.ne
theorem sEnd_eq (h : Inw n s) {l d : Nat} (hl : l < 100) (hd : d < 100000) : sEnd (fun e => nI (s.jl e)) (fun e => nI (s.jf e) - 1) (fun e => nI (s.jt e) - 1) (fun e => nI (s.jq e)) (fun e => nI (s.jd e)) (nI l) (nI d) s.ne = s32 (fun e => if s.jl e = l ∧ s.jd e ≤ d then s.gn e else 0) s.ne := by
  have hnl := h.nl_; have htd := h.td_; have hn := h.n_
  rw [← fo_s32 (c := fun e => s.jl e = l ∧ s.jd e ≤ d)]
  refine fo_cong fun e a he => ?_
  have h1 := h.jl_ e he
  have h2 := h.jd_ e he
  have e1 : (nI (s.jl e) = nI l) ↔ s.jl e = l := nI_eq (by omega) (by omega)
  have e2 : (nI (s.jd e) ≤ nI d) ↔ s.jd e ≤ d := nI_lei (by omega) (by omega)
  by_cases q : s.jl e = l ∧ s.jd e ≤ d
  · rw [if_pos ⟨e1.mpr q.1, e2.mpr q.2⟩, if_pos q]
    rfl
  · rw [if_neg (fun z => q ⟨e1.mp z.1, e2.mp z.2⟩), if_neg q]
end HO
