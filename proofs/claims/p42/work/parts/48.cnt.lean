/-! keys of lines, counted -/
def cnt (f : Nat → Nat) (n : Nat) : Nat := sm (fun x => if f x = 0 then 0 else 1) n
theorem cnt_s (f : Nat → Nat) (n : Nat) : cnt f (n + 1) = cnt f n + (if f n = 0 then 0 else 1) := rfl
theorem cnt_mono {f : Nat → Nat} {a : Nat} : ∀ {b : Nat}, a ≤ b → cnt f a ≤ cnt f b
  | 0, h => by have : a = 0 := by omega
               subst this; exact Nat.le_refl _
  | b + 1, h => by
    by_cases e : a = b + 1
    · subst e; exact Nat.le_refl _
    · have := cnt_mono (f := f) (a := a) (b := b) (by omega)
      rw [cnt_s]
      omega
theorem cnt_lt {f : Nat → Nat} {a b : Nat} (h : a < b) (hf : f a ≠ 0) : cnt f a < cnt f b := by
  have h1 := cnt_mono (f := f) (a := a + 1) (b := b) h
  rw [cnt_s, if_neg hf] at h1
  omega
theorem cnt_at {f : Nat → Nat} {i : Nat} : ∀ {n : Nat}, i < cnt f n → ∃ x, x < n ∧ f x ≠ 0 ∧ cnt f x = i
  | 0, h => absurd h (Nat.not_lt_zero _)
  | n + 1, h => by
    by_cases q : i < cnt f n
    · obtain ⟨x, h1, h2, h3⟩ := cnt_at q
      exact ⟨x, by omega, h2, h3⟩
    · rw [cnt_s] at h
      by_cases z : f n = 0
      · rw [if_pos z] at h
        omega
      · rw [if_neg z] at h
        exact ⟨n, by omega, z, by omega⟩
theorem cnt_upd {f : Nat → Nat} {x q : Nat} (hx : f x = 0) (hq : q ≠ 0) : ∀ n, cnt (updN f x q) n = cnt f n + (if x < n then 1 else 0)
  | 0 => rfl
  | n + 1 => by
    rw [cnt_s, cnt_s, cnt_upd hx hq n]
    by_cases e : n = x
    · have e1 : updN f x q n = q := by rw [e, updN_at]
      have e2 : f n = 0 := by rw [e]; exact hx
      rw [e1, e2, if_neg hq, if_pos rfl, if_neg (show ¬ x < n by omega), if_pos (show x < n + 1 by omega)]
    · rw [updN_ne e]
      by_cases z : x < n
      · rw [if_pos z, if_pos (show x < n + 1 by omega)]
        omega
      · rw [if_neg z, if_neg (show ¬ x < n + 1 by omega)]
        omega
theorem cnt_inj {f : Nat → Nat} {a b : Nat} (ha : f a ≠ 0) (hb : f b ≠ 0) (h : cnt f a = cnt f b) : a = b := by
  rcases Nat.lt_trichotomy a b with q | q | q
  · have := cnt_lt q ha
    omega
  · exact q
  · have := cnt_lt q hb
    omega
