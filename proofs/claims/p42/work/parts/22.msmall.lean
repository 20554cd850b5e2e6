/-! the model's small methods -/
section MS
variable {v : mmM} {K : mmO → mmM → Prop} {x : Int32} {n : Nat}
theorem in_bt {a b : Nat} (ha : a < 1000000) (hb : b < 1000000) : (nI a ≤ x ∧ x ≤ nI b) ↔ bt a b x := by
  constructor
  · rintro ⟨h, h2⟩
    exact bt_yes ha hb h h2
  · rintro ⟨i, h1, h2, e⟩
    subst e
    exact ⟨(nI_lei ha (by omega)).mpr h1, (nI_lei (by omega) hb).mpr h2⟩
theorem in_is (hn : n < 1000000) : (0 ≤ x ∧ x ≤ nI n - 1) ↔ ∃ i, i < n ∧ x = nI i := by
  cases n with
  | zero =>
    constructor
    · rintro ⟨h, h2⟩
      rw [Int32.le_iff_toInt_le] at h h2
      have : (nI 0 - 1).toInt = -1 := by decide
      have : (0 : Int32).toInt = 0 := by decide
      omega
    · rintro ⟨i, h, _⟩
      omega
  | succ m =>
    rw [nI_pred, show (0 : Int32) = nI 0 from rfl, in_bt (by omega) (by omega)]
    constructor
    · rintro ⟨i, h1, h2, e⟩
      exact ⟨i, by omega, e⟩
    · rintro ⟨i, h1, e⟩
      exact ⟨i, by omega, by omega, e⟩
/-- a bool in two cases -/
theorem bi_cases {p : Prop} [Decidable p] {P : Int32 → Prop} (h1 : p → P 1) (h0 : ¬ p → P 0) : P (bi p) := by
  by_cases h : p
  · rw [bi_t h]; exact h1 h
  · rw [bi_f h]; exact h0 h
theorem bi_is {p : Prop} [Decidable p] {q : Prop} (e : p ↔ q) {P : Int32 → Prop} (h1 : q → P 1) (h0 : ¬ q → P 0) : P (bi p) := bi_cases (fun h => h1 (e.mp h)) (fun h => h0 (fun z => h (e.mpr z)))
def sLoad (un : Nat → Int32) (n : Nat) : Int32 := fo (fun l a => a + un l) 0 n
end MS
