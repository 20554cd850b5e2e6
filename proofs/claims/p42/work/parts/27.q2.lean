/-! more questions -/
theorem fo_sm {y : Nat → Nat} {a0 : Nat} : ∀ {n : Nat}, fo (fun i a => a + nI (y i)) (nI a0) n = nI (a0 + sm y n)
  | 0 => rfl
  | n + 1 => by
    show fo (fun i a => a + nI (y i)) (nI a0) n + nI (y n) = nI (a0 + (sm y n + y n))
    rw [fo_sm, nI_add, Nat.add_assoc]
theorem sm_split {f : Nat → Nat} {m : Nat} : ∀ {n : Nat}, m ≤ n → (∀ i, m ≤ i → i < n → f i = 0) → sm f n = sm f m
  | 0, h, _ => by have : m = 0 := by omega
                  subst this; rfl
  | n + 1, h, hz => by
    by_cases e : m = n + 1
    · subst e; rfl
    · show sm f n + f n = sm f m
      rw [hz n (by omega) (by omega), sm_split (n := n) (by omega) (fun i h1 h2 => hz i h1 (by omega)), Nat.add_zero]
theorem Inw.bln {n : Nat} {s : St} (h : Inw n s) (b : Nat) : s.bl b = sm (fun l => s.un l b) s.nl := sm_split h.nl_ (fun l hl _ => h.un_ l b hl)
theorem Inv.bln {n : Nat} {s : St} (h : Inv n s) (b : Nat) : s.bl b = sm (fun l => s.un l b) s.nl := h.1.bln b
theorem i32_cancel {a b : Nat} : nI (a + b) - nI b = nI a := by rw [← nI_add, Int32.add_sub_cancel]
section Q2
variable {n : Nat} {s : St} {x y : Int32}
theorem sub_add (a b c : Int32) : a - b + c = a + c - b := by rw [Int32.sub_eq_add_neg, Int32.sub_eq_add_neg, Int32.add_assoc, Int32.add_comm (-b) c, ← Int32.add_assoc]
theorem pm1 {a b : Nat} (ha : a < 1000000) (hb : b < 1000000) : (nI a - 1 = nI b) ↔ a = b + 1 := by
  constructor
  · intro h
    have : nI a = nI (b + 1) := by rw [← nI_1, ← h, Int32.sub_add_cancel]
    exact (nI_eq (by omega) (by omega)).mp this
  · intro h
    subst h
    exact nI_pred b
theorem sIn_nI {l b : Nat} (hl : l < 100) (hb : b < 100) : ∀ {m : Nat}, (∀ e, e < m → s.jl e < 100 ∧ s.jf e ≤ 40 ∧ s.jt e ≤ 40) → sIn (fun e => nI (s.jl e)) (fun e => nI (s.jf e) - 1) (fun e => nI (s.jt e) - 1) (fun e => nI (s.jq e)) (nI l) (nI b) m = nI (sm (fun e => if s.jl e = l ∧ s.jt e = b + 1 then s.jq e else 0) m) - nI (sm (fun e => if s.jl e = l ∧ s.jf e = b + 1 then s.jq e else 0) m)
  | 0, _ => show (0 : Int32) = nI 0 - nI 0 by decide
  | m + 1, h => by
    obtain ⟨h1, h2, h3⟩ := h m (by omega)
    have e1 : (nI (s.jl m) = nI l) ↔ s.jl m = l := nI_eq (by omega) (by omega)
    have e2 : (nI (s.jt m) - 1 = nI b) ↔ s.jt m = b + 1 := pm1 (by omega) (by omega)
    have e3 : (nI (s.jf m) - 1 = nI b) ↔ s.jf m = b + 1 := pm1 (by omega) (by omega)
    have ih := sIn_nI hl hb (m := m) (fun e he => h e (by omega))
    unfold sIn at ih ⊢
    unfold fo
    rw [ih]
    simp only [e1, e2, e3, sm]
    generalize sm (fun e => if s.jl e = l ∧ s.jt e = b + 1 then s.jq e else 0) m = A
    generalize sm (fun e => if s.jl e = l ∧ s.jf e = b + 1 then s.jq e else 0) m = B
    have i1 : nI A - nI B + nI (s.jq m) = nI (A + s.jq m) - nI B := by rw [← nI_add, sub_add]
    have i2 : ∀ C : Int32, C - nI B - nI (s.jq m) = C - nI (B + s.jq m) := by
      intro C
      rw [← nI_add, Int32.sub_eq_add_neg, Int32.sub_eq_add_neg, Int32.sub_eq_add_neg, Int32.neg_add, Int32.add_assoc, Int32.sub_eq_add_neg]
    by_cases q1 : s.jl m = l ∧ s.jt m = b + 1
    · by_cases q2 : s.jl m = l ∧ s.jf m = b + 1
      · simp only [if_pos q1, if_pos q2, i1, i2]
      · simp only [if_pos q1, if_neg q2, i1, Nat.add_zero]
    · by_cases q2 : s.jl m = l ∧ s.jf m = b + 1
      · simp only [if_neg q1, if_pos q2, i2, Nat.add_zero]
      · simp only [if_neg q1, if_neg q2, Nat.add_zero]
end Q2
