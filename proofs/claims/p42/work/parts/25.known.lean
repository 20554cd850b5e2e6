/-! requirements in known cases -/
section KN
variable {v : mmM} {K : mmO → mmM → Prop} {x : Int32} {n i : Nat}
theorem k_rItem (hn : n ≤ 6) (hs : v 1 0 = nI n) (hi : i < n) (g : K (.inl none) v) : mm_M kX5_requireItem [.ref 0, .int (nI i)] v K := m_rItem hn hs (fun q => absurd rfl (q i hi)) (fun _ _ _ => g)
theorem k_nItem (hn : n ≤ 6) (hs : v 1 0 = nI n) (hx : ∀ i, i < n → x ≠ nI i) (g : K (.inr 2) v) : mm_M kX5_requireItem [.ref 0, .int x] v K := m_rItem hn hs (fun _ => g) (fun i hi e => absurd e (hx i hi))
theorem k_rBin (hi : i < 40) (g : K (.inl none) v) : mm_M kX5_requireBin [.ref 0, .int (nI i)] v K := m_rBin (fun q => absurd rfl (q i hi)) (fun _ _ _ => g)
theorem k_nBin (hx : ∀ i, i < 40 → x ≠ nI i) (g : K (.inr 2) v) : mm_M kX5_requireBin [.ref 0, .int x] v K := m_rBin (fun _ => g) (fun i hi e => absurd e (hx i hi))
theorem k_rLot (hn : n ≤ 24) (hs : v 2 0 = nI n) (hi : i < n) (g : K (.inl none) v) : mm_M kX5_requireLot [.ref 0, .int (nI i)] v K := m_rLot hn hs (fun q => absurd rfl (q i hi)) (fun _ _ _ => g)
theorem k_nLot (hn : n ≤ 24) (hs : v 2 0 = nI n) (hx : ∀ i, i < n → x ≠ nI i) (g : K (.inr 2) v) : mm_M kX5_requireLot [.ref 0, .int x] v K := m_rLot hn hs (fun _ => g) (fun i hi e => absurd e (hx i hi))
theorem k_rPromise (hn : n ≤ 20) (hs : v 3 0 = nI n) (hi : i < n) (g : K (.inl none) v) : mm_M kX5_requirePromise [.ref 0, .int (nI i)] v K := m_rPromise hn hs (fun q => absurd rfl (q i hi)) (fun _ _ _ => g)
theorem k_nPromise (hn : n ≤ 20) (hs : v 3 0 = nI n) (hx : ∀ i, i < n → x ≠ nI i) (g : K (.inr 2) v) : mm_M kX5_requirePromise [.ref 0, .int x] v K := m_rPromise hn hs (fun _ => g) (fun i hi e => absurd e (hx i hi))
theorem k_rEntry (hn : n ≤ 150) (hs : v 4 0 = nI n) (hi : i < n) (g : K (.inl none) v) : mm_M kX5_requireEntry [.ref 0, .int (nI i)] v K := m_rEntry hn hs (fun q => absurd rfl (q i hi)) (fun _ _ _ => g)
theorem k_nEntry (hn : n ≤ 150) (hs : v 4 0 = nI n) (hx : ∀ i, i < n → x ≠ nI i) (g : K (.inr 2) v) : mm_M kX5_requireEntry [.ref 0, .int x] v K := m_rEntry hn hs (fun _ => g) (fun i hi e => absurd e (hx i hi))
theorem k_rLine (hn : n ≤ 60) (hs : v 5 0 = nI n) (hi : i < n) (g : K (.inl none) v) : mm_M kX5_requireLine [.ref 0, .int (nI i)] v K := m_rLine hn hs (fun q => absurd rfl (q i hi)) (fun _ _ _ => g)
theorem k_nLine (hn : n ≤ 60) (hs : v 5 0 = nI n) (hx : ∀ i, i < n → x ≠ nI i) (g : K (.inr 4) v) : mm_M kX5_requireLine [.ref 0, .int x] v K := m_rLine hn hs (fun _ => g) (fun i hi e => absurd e (hx i hi))
theorem k_bt {a b : Nat} (ha : a < 1000000) (hb : b < 1000000) (hx : bt a b x) (g : K (.inl none) v) : mm_M kX5_requireBetween [.ref 0, .int x, .int (nI a), .int (nI b)] v K := m_rBetween ha hb (fun q => absurd hx q) (fun _ => g)
theorem k_nbt {a b : Nat} (ha : a < 1000000) (hb : b < 1000000) (hx : ¬ bt a b x) (g : K (.inr 0) v) : mm_M kX5_requireBetween [.ref 0, .int x, .int (nI a), .int (nI b)] v K := m_rBetween ha hb (fun _ => g) (fun q => absurd q hx)
theorem is_or (x : Int32) (n : Nat) : (∃ i, i < n ∧ x = nI i) ∨ (∀ i, i < n → x ≠ nI i) := (Classical.em (∃ i, i < n ∧ x = nI i)).imp id (fun h i hi e => h ⟨i, hi, e⟩)
theorem th_at {v : mmM} {y : Int32} : mm_up v 81 26 y 81 26 = y := mm_up_same
theorem ne0 {p : Prop} : ¬ ((1 : Int32) = 0) := by decide
theorem nr_char {k : Nat} (h : k ≤ 120) : narrow .char (.int (nI k)) = .int (nI k) := mm_rows (P := fun k => narrow .char (.int (nI k)) = .int (nI k)) (n := 121) (by decide +kernel) (by omega)
theorem vn_char {k : Nat} (h : k ≤ 120) : vp_nar .char (nI k) = nI k := mm_rows (P := fun k => vp_nar .char (nI k) = nI k) (n := 121) (by decide +kernel) (by omega)
end KN
