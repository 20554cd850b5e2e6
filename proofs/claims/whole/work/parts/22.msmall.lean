/-! the model's small methods -/
section MS
variable {v : mmM} {K : mmO → mmM → Prop} {x : Int32} {n : Nat}
theorem m_in {a b : Int32} (g : K (.inl (some (.int (bi (a ≤ x ∧ x ≤ b))))) v) : mm_M kX6_in [.int x, .int a, .int b] v K := by
  refine bX6_in_0 (fun h => ?_) (fun h => bX6_in_5 (fun h2 => ?_) (fun h2 => ?_))
  · refine bX6_in_14 (bX6_in_15 nb_0 ?_)
    rw [bi_f (fun q => i32_nlt.mpr q.1 h)] at g
    exact g
  · refine bX6_in_14 (bX6_in_15 nb_0 ?_)
    rw [bi_f (fun q => i32_nlt.mpr q.2 h2)] at g
    exact g
  · refine bX6_in_10 (bX6_in_15 nb_1 ?_)
    rw [bi_t ⟨i32_nlt.mp h, i32_nlt.mp h2⟩] at g
    exact g
theorem in_bt {a b : Nat} (ha : a < 1000000) (hb : b < 1000000) : (nI a ≤ x ∧ x ≤ nI b) ↔ bt a b x := by
  constructor
  · rintro ⟨h, h2⟩
    exact bt_yes ha hb h h2
  · rintro ⟨i, h1, h2, e⟩
    subst e
    exact ⟨(nI_lei ha (by omega)).mpr h1, (nI_lei (by omega) hb).mpr h2⟩
theorem in_is (hn : n < 1000000) : (0 ≤ x ∧ x ≤ nI n - 1) ↔ ∃ i, i < n ∧ x = nI i := by
  cases n with
  | zero =>
    constructor
    · rintro ⟨h, h2⟩
      rw [Int32.le_iff_toInt_le] at h h2
      have : (nI 0 - 1).toInt = -1 := by decide
      have : (0 : Int32).toInt = 0 := by decide
      omega
    · rintro ⟨i, h, _⟩
      omega
  | succ m =>
    rw [nI_pred, show (0 : Int32) = nI 0 from rfl, in_bt (by omega) (by omega)]
    constructor
    · rintro ⟨i, h1, h2, e⟩
      exact ⟨i, by omega, e⟩
    · rintro ⟨i, h1, e⟩
      exact ⟨i, by omega, by omega, e⟩
/-- a bool in two cases -/
theorem bi_cases {p : Prop} [Decidable p] {P : Int32 → Prop} (h1 : p → P 1) (h0 : ¬ p → P 0) : P (bi p) := by
  by_cases h : p
  · rw [bi_t h]; exact h1 h
  · rw [bi_f h]; exact h0 h
theorem bi_is {p : Prop} [Decidable p] {q : Prop} (e : p ↔ q) {P : Int32 → Prop} (h1 : q → P 1) (h0 : ¬ q → P 0) : P (bi p) := bi_cases (fun h => h1 (e.mp h)) (fun h => h0 (fun z => h (e.mpr z)))
theorem m_isItem (hn : n ≤ 6) (hs : v 81 2 = nI n) (g0 : (∀ i, i < n → x ≠ nI i) → K (.inl (some (.int 0))) v) (g1 : ∀ i, i < n → x = nI i → K (.inl (some (.int 1))) v) : mm_M kX6_isItem [.ref 81, .int x] v K := by
  refine bX6_isItem_0 (by decide) (m_in (mm_Kr 0 rfl (bX6_isItem_11 (nb_bi _) ?_)))
  rw [hs]
  exact bi_is (in_is (by omega)) (P := fun y => K (.inl (some (.int y))) v) (fun ⟨i, h, e⟩ => g1 i h e) (fun h => g0 (fun i hi e => h ⟨i, hi, e⟩))
theorem m_isLot (hn : n ≤ 24) (hs : v 81 8 = nI n) (g0 : (∀ i, i < n → x ≠ nI i) → K (.inl (some (.int 0))) v) (g1 : ∀ i, i < n → x = nI i → K (.inl (some (.int 1))) v) : mm_M kX6_isLot [.ref 81, .int x] v K := by
  refine bX6_isLot_0 (by decide) (m_in (mm_Kr 0 rfl (bX6_isLot_11 (nb_bi _) ?_)))
  rw [hs]
  exact bi_is (in_is (by omega)) (P := fun y => K (.inl (some (.int y))) v) (fun ⟨i, h, e⟩ => g1 i h e) (fun h => g0 (fun i hi e => h ⟨i, hi, e⟩))
theorem m_isPromise (hn : n ≤ 20) (hs : v 81 17 = nI n) (g0 : (∀ i, i < n → x ≠ nI i) → K (.inl (some (.int 0))) v) (g1 : ∀ i, i < n → x = nI i → K (.inl (some (.int 1))) v) : mm_M kX6_isPromise [.ref 81, .int x] v K := by
  refine bX6_isPromise_0 (by decide) (m_in (mm_Kr 0 rfl (bX6_isPromise_11 (nb_bi _) ?_)))
  rw [hs]
  exact bi_is (in_is (by omega)) (P := fun y => K (.inl (some (.int y))) v) (fun ⟨i, h, e⟩ => g1 i h e) (fun h => g0 (fun i hi e => h ⟨i, hi, e⟩))
theorem m_isBin (g0 : (∀ i, i < 40 → x ≠ nI i) → K (.inl (some (.int 0))) v) (g1 : ∀ i, i < 40 → x = nI i → K (.inl (some (.int 1))) v) : mm_M kX6_isBin [.int x] v K := by
  refine bX6_isBin_0 (by decide) (m_in (mm_Kr 0 rfl (bX6_isBin_7 (nb_bi _) ?_)))
  exact bi_is (in_is (n := 40) (by omega)) (P := fun y => K (.inl (some (.int y))) v) (fun ⟨i, h, e⟩ => g1 i h e) (fun h => g0 (fun i hi e => h ⟨i, hi, e⟩))
def sLoad (un : Nat → Int32) (n : Nat) : Int32 := fo (fun l a => a + un l) 0 n
theorem m_load0 {b : Nat} (hb : b < 40) (hn : n ≤ 24) (hs : v 81 8 = nI n) (g : K (.inl (some (.int (sLoad (fun l => v (93 + l) b) n)))) v) : mm_M kX6_load0 [.ref 81, .int (nI b)] v K := by
  refine bX6_load0_0 ?_
  refine e_for0 (n := n) (E := fun i a => mm_E kX6_load0 4 [.ref 81, .int (nI b), .int a, .int (nI i)] [] v 0 K) (f := fun l a => a + v (93 + l) b) ?_ ?_
  · intro i a hi ih
    refine bX6_load0_4 (fun h => absurd (hs ▸ h) (ge_nI hi (by omega))) (fun _ => bX6_load0_12 (in_nI (by omega) (by decide)) (in_nI hb (by decide)) ?_)
    rw [nI_1, cl_nI (by omega), cl_nI (by omega)]
    exact ih
  · exact bX6_load0_4 (fun _ => bX6_load0_29 g) (fun h => absurd (hs ▸ le_nI (Nat.le_refl n) (by omega)) h)
/-- the model writes an entry -/
def dWr (v : mmM) (n : Nat) (kd lot fr to q : Int32) : mmM := mm_up (mm_up (mm_up (mm_up (mm_up (mm_up (mm_up v 207 n kd) 208 n lot) 209 n fr) 210 n to) 211 n q) 212 n (v 81 25)) 81 24 (nI (n + 1))
theorem m_writes {kd lot fr to q : Int32} (hn : n < 150) (hs : v 81 24 = nI n) (hk : vp_nar .char kd = kd) (g : K (.inl none) (dWr v n kd lot fr to q)) : mm_M kX6_writes [.ref 81, .int kd, .int lot, .int fr, .int to, .int q] v K := by
  have a1 : mm_in (v 81 24) 150 = true := by rw [hs]; exact in_nI hn (by decide)
  refine bX6_writes_0 a1 hk a1 a1 a1 a1 a1 ?_
  rw [hs, cl_nI (by omega), nI_1]
  exact g
def dCh (v : mmM) (l b : Nat) (d : Int32) : mmM := mm_up (mm_up v (93 + l) b (v (93 + l) b + d)) 117 l (v 117 l + d)
theorem m_puts {l b : Nat} {d : Int32} (hl : l < 24) (hb : b < 40) (g : K (.inl none) (dCh v l b d)) : mm_M kX6_puts [.ref 81, .int (nI l), .int (nI b), .int d] v K := by
  have a1 := in_nI hl (show 24 < 1000000 by decide)
  have a2 := in_nI hb (show 40 < 1000000 by decide)
  refine bX6_puts_0 a1 a2 a2 a1 a1 ?_
  rw [cl_nI (by omega), cl_nI (by omega), mm_up_row (by omega)]
  exact g
theorem m_stockFor {item day : Int32} (hn : n ≤ 24) (hs : v 81 8 = nI n) (g : K (.inl (some (.int (sFrom (v 90) (v 91) (v 117) item day n)))) v) : mm_M kX6_stockFor [.ref 81, .int item, .int day] v K := by
  refine bX6_stockFor_0 ?_
  refine e_for0 (n := n) (E := fun i a => mm_E kX6_stockFor 5 [.ref 81, .int item, .int day, .int a, .int (nI i)] [] v 0 K) (f := fun l a => if v 90 l = item ∧ day ≤ v 91 l then a + v 117 l else a) ?_ ?_
  · intro i a hi ih
    have a1 := in_nI (show i < 24 by omega) (by decide)
    refine bX6_stockFor_5 (fun h => absurd (hs ▸ h) (ge_nI hi (by omega))) (fun _ => ?_)
    refine bX6_stockFor_14 a1 (fun h => ?_) (fun h => ?_) <;> rw [cl_nI (by omega)] at h
    · refine bX6_stockFor_26 a1 (fun h2 => ?_) (fun h2 => ?_) <;> rw [cl_nI (by omega)] at h2
      · refine bX6_stockFor_47 (bX6_stockFor_48 ?_)
        rw [nI_1, Int32.add_zero]
        rw [if_neg (fun q => i32_nlt.mpr q.2 h2)] at ih
        exact ih
      · refine bX6_stockFor_37 a1 (bX6_stockFor_48 ?_)
        rw [nI_1, cl_nI (by omega)]
        rw [if_pos ⟨h, i32_nlt.mp h2⟩] at ih
        exact ih
    · refine bX6_stockFor_47 (bX6_stockFor_48 ?_)
      rw [nI_1, Int32.add_zero]
      rw [if_neg (fun q => h q.1)] at ih
      exact ih
  · exact bX6_stockFor_5 (fun _ => bX6_stockFor_56 g) (fun h => absurd (hs ▸ le_nI (Nat.le_refl n) (by omega)) h)
theorem m_promisedFor {it : Nat} {day : Int32} (hn : n ≤ 20) (hi : it < 6) (hs : v 81 17 = nI n) (g : K (.inl (some (.int (sProm (v 121) (v 120) (fun p => v (123 + p) it) day n)))) v) : mm_M kX6_promisedFor [.ref 81, .int (nI it), .int day] v K := by
  refine bX6_promisedFor_0 ?_
  refine e_for0 (n := n) (E := fun p a => mm_E kX6_promisedFor 5 [.ref 81, .int (nI it), .int day, .int a, .int (nI p)] [] v 0 K) (f := fun p a => if v 121 p = 111 ∧ day ≤ v 120 p then a + v (123 + p) it else a) ?_ ?_
  · intro i a hi2 ih
    have a1 := in_nI (show i < 20 by omega) (by decide)
    refine bX6_promisedFor_5 (fun h => absurd (hs ▸ h) (ge_nI hi2 (by omega))) (fun _ => ?_)
    refine bX6_promisedFor_14 a1 (fun h => ?_) (fun h => ?_) <;> rw [cl_nI (by omega)] at h
    · refine bX6_promisedFor_27 a1 (fun h2 => ?_) (fun h2 => ?_) <;> rw [cl_nI (by omega)] at h2
      · refine bX6_promisedFor_50 (bX6_promisedFor_51 ?_)
        rw [nI_1, Int32.add_zero]
        rw [if_neg (fun q => i32_nlt.mpr q.2 h2)] at ih
        exact ih
      · refine bX6_promisedFor_38 a1 (in_nI hi (by decide)) (bX6_promisedFor_51 ?_)
        rw [nI_1, cl_nI (by omega), cl_nI (by omega)]
        rw [if_pos ⟨h, i32_nlt.mp h2⟩] at ih
        exact ih
    · refine bX6_promisedFor_50 (bX6_promisedFor_51 ?_)
      rw [nI_1, Int32.add_zero]
      rw [if_neg (fun q => h q.1)] at ih
      exact ih
  · exact bX6_promisedFor_5 (fun _ => bX6_promisedFor_59 g) (fun h => absurd (hs ▸ le_nI (Nat.le_refl n) (by omega)) h)
end MS
