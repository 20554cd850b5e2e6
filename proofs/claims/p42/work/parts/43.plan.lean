/-! what a promise is planned to take -/
def PS : Type := Nat × (Nat → Nat)
def gv (s : St) (k o : Nat) (t : PS) : PS := (t.1 - min t.1 (s.la o k), updN t.2 o (min t.1 (s.la o k)))
def plI (s : St) (i k r o : Nat) (t : PS) : PS := if s.rk i o = r then gv s k o t else t
def plR (s : St) (i k r : Nat) (t : PS) : PS := fo (plI s i k r) t s.ni
def plan0 (s : St) (i q k : Nat) : PS := gv s k i (q, fun _ => 0)
def plan (s : St) (i q k : Nat) (sub : Bool) : PS := if sub then fo (fun r t => plR s i k (r + 1) t) (plan0 s i q k) 9 else plan0 s i q k
/-- the plan so far: what is left and what is planned make the quantity; nothing is planned twice or for what is not there -/
def plOK (s : St) (i q k r o : Nat) (t : PS) : Prop := t.1 + sm t.2 6 = q ∧ (∀ j, j < 6 → t.2 j ≤ s.la j k ∧ (s.ni ≤ j → t.2 j = 0)) ∧ ∀ j, (r < s.rk i j ∨ (s.rk i j = r ∧ o ≤ j)) → t.2 j = 0
section PL
variable {n : Nat} {s : St}
theorem gv_ok {i q k r o : Nat} {t : PS} (hr : s.rk i o = r) (ho : o < s.ni) (hni : s.ni ≤ 6) (h : plOK s i q k r o t) : plOK s i q k r (o + 1) (gv s k o t) := by
  obtain ⟨h1, h2, h3⟩ := h
  have hz : t.2 o = 0 := h3 o (Or.inr ⟨hr, Nat.le_refl _⟩)
  have hs := sm_one (f := t.2) (g := updN t.2 o (min t.1 (s.la o k))) (j := o) (n := 6) (by omega) (fun j hj => updN_ne hj)
  rw [updN_at, hz] at hs
  have hm : min t.1 (s.la o k) ≤ t.1 := Nat.min_le_left _ _
  refine ⟨?_, fun j hj => ?_, fun j hj => ?_⟩
  · show t.1 - min t.1 (s.la o k) + sm (updN t.2 o (min t.1 (s.la o k))) 6 = q
    omega
  · show updN t.2 o (min t.1 (s.la o k)) j ≤ _ ∧ _
    by_cases e : j = o
    · subst e
      refine ⟨by rw [updN_at]; exact Nat.min_le_right _ _, fun z => absurd z (by omega)⟩
    · refine ⟨by rw [updN_ne e]; exact (h2 j hj).1, fun z => ?_⟩
      show updN t.2 o _ j = 0
      rw [updN_ne e]
      exact (h2 j hj).2 z
  · show updN t.2 o _ j = 0
    have e : j ≠ o := by rcases hj with z | z <;> intro e <;> subst e <;> omega
    rw [updN_ne e]
    exact h3 j (by omega)
theorem plI_ok {i q k r o : Nat} {t : PS} (ho : o < s.ni) (hni : s.ni ≤ 6) (h : plOK s i q k r o t) : plOK s i q k r (o + 1) (plI s i k r o t) := by
  unfold plI
  split
  · rename_i hr
    exact gv_ok hr ho hni h
  · rename_i hr
    refine ⟨h.1, h.2.1, fun j hj => h.2.2 j ?_⟩
    rcases hj with z | z
    · exact Or.inl z
    · exact Or.inr ⟨z.1, by omega⟩
theorem plR_ok {i q k r : Nat} {t : PS} (hni : s.ni ≤ 6) (h : plOK s i q k r 0 t) : ∀ m, m ≤ s.ni → plOK s i q k r m (fo (plI s i k r) t m) := by
  intro m
  induction m with
  | zero => intro _; exact h
  | succ m ih => intro hm; exact plI_ok (by omega) hni (ih (by omega))
theorem plR_nx {i q k r : Nat} {t : PS} (h : plOK s i q k r s.ni t) (hn : ∀ j, s.ni ≤ j → j < 6 → t.2 j = 0) (h6 : ∀ j, 6 ≤ j → t.2 j = 0) : plOK s i q k (r + 1) 0 t := by
  refine ⟨h.1, h.2.1, fun j hj => ?_⟩
  by_cases z : s.ni ≤ j
  · by_cases y : j < 6
    · exact hn j z y
    · exact h6 j (by omega)
  · exact h.2.2 j (by omega)
/-- nothing is planned beyond the sixth -/
theorem gv_6 {k o : Nat} {t : PS} (ho : o < 6) (h : ∀ j, 6 ≤ j → t.2 j = 0) : ∀ j, 6 ≤ j → (gv s k o t).2 j = 0 := by
  intro j hj
  show updN t.2 o _ j = 0
  rw [updN_ne (by omega)]
  exact h j hj
theorem plR_6 {i k r : Nat} {t : PS} (hni : s.ni ≤ 6) (h : ∀ j, 6 ≤ j → t.2 j = 0) : ∀ m, m ≤ s.ni → ∀ j, 6 ≤ j → (fo (plI s i k r) t m).2 j = 0 := by
  intro m
  induction m with
  | zero => intro _; exact h
  | succ m ih =>
    intro hm j hj
    show (plI s i k r m (fo (plI s i k r) t m)).2 j = 0
    unfold plI
    split
    · exact gv_6 (by omega) (ih (by omega)) j hj
    · exact ih (by omega) j hj
theorem plan0_ok {i q k : Nat} (h : Inv n s) (hi : i < s.ni) : plOK s i q k 1 0 (plan0 s i q k) ∧ ∀ j, 6 ≤ j → (plan0 s i q k).2 j = 0 := by
  have hni := h.ni_
  have h0 := h.rk0_ i
  have b : plOK s i q k 0 i ((q, fun _ => 0) : PS) := ⟨by show q + sm (fun _ => 0) 6 = q; rw [sm_0 (fun _ _ => rfl)]; rfl, fun j _ => ⟨Nat.zero_le _, fun _ => rfl⟩, fun _ _ => rfl⟩
  have g := gv_ok h0 hi hni b
  refine ⟨⟨g.1, g.2.1, fun j hj => ?_⟩, gv_6 (by omega) (fun _ _ => rfl)⟩
  show updN (fun _ => 0) i _ j = 0
  have e : j ≠ i := by intro e; subst e; omega
  rw [updN_ne e]
theorem planR_ok {i q k : Nat} (h : Inv n s) (hi : i < s.ni) : ∀ m, m ≤ 9 → plOK s i q k (m + 1) 0 (fo (fun r t => plR s i k (r + 1) t) (plan0 s i q k) m) ∧ ∀ j, 6 ≤ j → (fo (fun r t => plR s i k (r + 1) t) (plan0 s i q k) m).2 j = 0 := by
  intro m
  induction m with
  | zero => intro _; exact plan0_ok h hi
  | succ m ih =>
    intro hm
    obtain ⟨h1, h2⟩ := ih (by omega)
    have g1 := plR_ok h.ni_ h1 s.ni (Nat.le_refl _)
    have g2 := plR_6 (s := s) (i := i) (k := k) (r := m + 1) h.ni_ h2 s.ni (Nat.le_refl _)
    exact ⟨plR_nx g1 (fun j hj hj6 => (g1.2.1 j hj6).2 hj) g2, g2⟩
theorem plan_ok {i q k : Nat} {sub : Bool} (h : Inv n s) (hi : i < s.ni) : (plan s i q k sub).1 + sm (plan s i q k sub).2 6 = q ∧ (∀ j, j < 6 → (plan s i q k sub).2 j ≤ s.la j k ∧ (s.ni ≤ j → (plan s i q k sub).2 j = 0)) := by
  unfold plan
  split
  · have := (planR_ok (q := q) (k := k) h hi 9 (Nat.le_refl _)).1
    exact ⟨this.1, this.2.1⟩
  · have := (plan0_ok (q := q) (k := k) h hi).1
    exact ⟨this.1, this.2.1⟩
end PL
