/-! walks: both find the same shortest length -/
theorem nI_mul (a b : Nat) : nI a * nI b = nI (a * b) := (Int32.ofNat_mul a b).symm
def lstA (B : Nat → Nat) (N : Nat) : Nat := fo (fun k m => max m (B k / 10)) 0 N
def rF (B : Nat → Nat) (N a : Nat) : Nat := fo (fun k m => if B k / 10 = a then max m (B k % 10 + 1) else m) 0 N
def rB (B : Nat → Nat) (N a : Nat) : Nat := fo (fun k m => if B k / 10 = a then max m (10 - B k % 10) else m) 0 N
theorem lstA_le {B : Nat → Nat} : ∀ {N : Nat}, (∀ k, k < N → B k < 40) → lstA B N ≤ 3
  | 0, _ => Nat.zero_le _
  | N + 1, h => by
    show max (lstA B N) (B N / 10) ≤ 3
    have h1 := lstA_le (B := B) (N := N) (fun k hk => h k (by omega))
    have h2 := h N (by omega)
    omega
theorem rF_le {B : Nat → Nat} {a : Nat} : ∀ {N : Nat}, rF B N a ≤ 10
  | 0 => Nat.zero_le _
  | N + 1 => by
    show (if B N / 10 = a then max (rF B N a) (B N % 10 + 1) else rF B N a) ≤ 10
    have h1 := rF_le (B := B) (a := a) (N := N)
    split <;> omega
theorem rB_le {B : Nat → Nat} {a : Nat} : ∀ {N : Nat}, rB B N a ≤ 10
  | 0 => Nat.zero_le _
  | N + 1 => by
    show (if B N / 10 = a then max (rB B N a) (10 - B N % 10) else rB B N a) ≤ 10
    have h1 := rB_le (B := B) (a := a) (N := N)
    split <;> omega
/-- the shortest ways to the front and the back of an aisle -/
def wks (B : Nat → Nat) (N a : Nat) (t : Nat × Nat) : Nat × Nat := (min (t.1 + 2 * rF B N a) (t.2 + 11), min (t.2 + 2 * rB B N a) (t.1 + 11))
def wkc (B : Nat → Nat) (N k : Nat) : Nat × Nat := fo (wks B N) (0, 1000000) k
/-- the model's: what goes along the back or the front is added on the way -/
def wkm (B : Nat → Nat) (N l k : Nat) : Nat × Nat := fo (fun a t => let u := wks B N a t; (u.1 + (if a < l then 4 else 0), u.2 + (if a < l then 4 else 0))) (0, 100000) k
theorem wkc_b {B : Nat → Nat} {N : Nat} : ∀ k, (wkc B N k).1 ≤ 20 * k ∧ (wkc B N (k + 1)).2 ≤ 20 * k + 11
  | 0 => ⟨Nat.le_refl _, by
    show min (1000000 + 2 * rB B N 0) (0 + 11) ≤ _
    omega⟩
  | k + 1 => by
    obtain ⟨h1, h2⟩ := wkc_b (B := B) (N := N) k
    have h3 := rF_le (B := B) (a := k) (N := N)
    have e1 : (wkc B N (k + 1)).1 ≤ 20 * (k + 1) := by
      show min ((wkc B N k).1 + 2 * rF B N k) ((wkc B N k).2 + 11) ≤ _
      omega
    refine ⟨e1, ?_⟩
    show min ((wkc B N (k + 1)).2 + 2 * rB B N (k + 1)) ((wkc B N (k + 1)).1 + 11) ≤ _
    omega
theorem wkm_c {B : Nat → Nat} {N l : Nat} : ∀ k, k ≤ l → (wkm B N l (k + 1)).1 = (wkc B N (k + 1)).1 + 4 * (min (k + 1) l) ∧ (wkm B N l (k + 1)).2 = (wkc B N (k + 1)).2 + 4 * (min (k + 1) l)
  | 0, h => by
    have h1 := rF_le (B := B) (a := 0) (N := N)
    have h2 := rB_le (B := B) (a := 0) (N := N)
    show min (0 + 2 * rF B N 0) (100000 + 11) + (if 0 < l then 4 else 0) = min (0 + 2 * rF B N 0) (1000000 + 11) + _ ∧ min (100000 + 2 * rB B N 0) (0 + 11) + (if 0 < l then 4 else 0) = min (1000000 + 2 * rB B N 0) (0 + 11) + _
    constructor <;> split <;> omega
  | k + 1, h => by
    obtain ⟨h1, h2⟩ := wkm_c (B := B) (N := N) (l := l) k (by omega)
    show min ((wkm B N l (k + 1)).1 + 2 * rF B N (k + 1)) ((wkm B N l (k + 1)).2 + 11) + (if k + 1 < l then 4 else 0) = min ((wkc B N (k + 1)).1 + 2 * rF B N (k + 1)) ((wkc B N (k + 1)).2 + 11) + _ ∧ min ((wkm B N l (k + 1)).2 + 2 * rB B N (k + 1)) ((wkm B N l (k + 1)).1 + 11) + (if k + 1 < l then 4 else 0) = min ((wkc B N (k + 1)).2 + 2 * rB B N (k + 1)) ((wkc B N (k + 1)).1 + 11) + _
    rw [h1, h2]
    constructor <;> split <;> omega
/-- a choice of the aisles that are crossed -/
def wko (B : Nat → Nat) (N c : Nat) : Nat → Nat × Bool
  | 0 => (0, true)
  | a + 1 => if c / 2 ^ a % 2 = 1 then ((wko B N c a).1 + 11, !(wko B N c a).2) else ((wko B N c a).1 + 2 * (if (wko B N c a).2 then rF B N a else rB B N a), (wko B N c a).2)
theorem wko_ge {B : Nat → Nat} {N c : Nat} : ∀ k, ((wko B N c k).2 = true → (wkc B N k).1 ≤ (wko B N c k).1) ∧ ((wko B N c k).2 = false → (wkc B N k).2 ≤ (wko B N c k).1)
  | 0 => ⟨fun _ => Nat.le_refl _, fun h => by cases h⟩
  | k + 1 => by
    obtain ⟨h1, h2⟩ := wko_ge (B := B) (N := N) (c := c) k
    have e1 : (wkc B N (k + 1)).1 = min ((wkc B N k).1 + 2 * rF B N k) ((wkc B N k).2 + 11) := rfl
    have e2 : (wkc B N (k + 1)).2 = min ((wkc B N k).2 + 2 * rB B N k) ((wkc B N k).1 + 11) := rfl
    rw [e1, e2]
    unfold wko
    cases hb : (wko B N c k).2 with
    | true =>
      have h1 := h1 hb
      by_cases q : c / 2 ^ k % 2 = 1
      · rw [if_pos q]
        exact ⟨fun z => (by cases z), fun _ => by show _ ≤ (wko B N c k).1 + 11; omega⟩
      · rw [if_neg q]
        exact ⟨fun _ => by show _ ≤ (wko B N c k).1 + 2 * rF B N k; omega, fun z => (by cases z)⟩
    | false =>
      have h2 := h2 hb
      by_cases q : c / 2 ^ k % 2 = 1
      · rw [if_pos q]
        exact ⟨fun _ => by show _ ≤ (wko B N c k).1 + 11; omega, fun z => (by cases z)⟩
      · rw [if_neg q]
        exact ⟨fun z => (by cases z), fun _ => by show _ ≤ (wko B N c k).1 + 2 * rB B N k; omega⟩
theorem wko_up {B : Nat → Nat} {N c k : Nat} (hk : k < 4) (hc : c < 8) : ∀ a, a ≤ k → wko B N (c + 2 ^ k) a = wko B N c a
  | 0, _ => rfl
  | a + 1, h => by
    have e : (c + 2 ^ k) / 2 ^ a % 2 = c / 2 ^ a % 2 := by
      have : ∀ k, k < 4 → ∀ c, c < 8 → ∀ a, a < 4 → a < k → (c + 2 ^ k) / 2 ^ a % 2 = c / 2 ^ a % 2 := by decide
      exact this k hk c hc a (by omega) (by omega)
    have ih := wko_up (B := B) (N := N) hk hc a (by omega)
    show (if (c + 2 ^ k) / 2 ^ a % 2 = 1 then _ else _) = (if c / 2 ^ a % 2 = 1 then _ else _)
    rw [e, ih]
theorem pw_le {k : Nat} (h : k ≤ 3) : 2 ^ k ≤ 8 := by
  have : ∀ k, k ≤ 3 → 2 ^ k ≤ 8 := by decide
  exact this k h
theorem wko_at {B : Nat → Nat} {N : Nat} : ∀ k, k ≤ 4 → (∃ c, c < 2 ^ k ∧ wko B N c k = ((wkc B N k).1, true)) ∧ (0 < k → ∃ c, c < 2 ^ k ∧ wko B N c k = ((wkc B N k).2, false))
  | 0, _ => ⟨⟨0, by decide, rfl⟩, fun h => absurd h (Nat.lt_irrefl _)⟩
  | k + 1, hk => by
    obtain ⟨⟨c1, h1, e1⟩, h2⟩ := wko_at (B := B) (N := N) k (by omega)
    have hp := pw_le (k := k) (by omega)
    have e2 : (wkc B N (k + 1)).1 = min ((wkc B N k).1 + 2 * rF B N k) ((wkc B N k).2 + 11) := rfl
    have e3 : (wkc B N (k + 1)).2 = min ((wkc B N k).2 + 2 * rB B N k) ((wkc B N k).1 + 11) := rfl
    have ep : 2 ^ (k + 1) = 2 ^ k + 2 ^ k := by rw [Nat.pow_succ]; omega
    have z : ∀ c, c < 2 ^ k → ¬ c / 2 ^ k % 2 = 1 := fun c hc => by rw [Nat.div_eq_of_lt hc]; decide
    have o : ∀ c, c < 2 ^ k → (c + 2 ^ k) / 2 ^ k % 2 = 1 := fun c hc => by rw [Nat.add_div_right _ (by omega), Nat.div_eq_of_lt hc]
    have st : ∀ c, c < 2 ^ k → wko B N c (k + 1) = ((wko B N c k).1 + 2 * (if (wko B N c k).2 then rF B N k else rB B N k), (wko B N c k).2) := fun c hc => if_neg (z c hc)
    have cr : ∀ c, c < 2 ^ k → wko B N (c + 2 ^ k) (k + 1) = ((wko B N c k).1 + 11, !(wko B N c k).2) := fun c hc => by
      have e := wko_up (B := B) (N := N) (c := c) (k := k) (by omega) (by omega) k (Nat.le_refl _)
      show (if (c + 2 ^ k) / 2 ^ k % 2 = 1 then _ else _) = _
      rw [if_pos (o c hc), e]
    constructor
    · by_cases q : (wkc B N k).1 + 2 * rF B N k ≤ (wkc B N k).2 + 11
      · refine ⟨c1, by omega, ?_⟩
        rw [st c1 h1, e1, e2, Nat.min_eq_left q]
        rfl
      · have k0 : 0 < k := by
          rcases Nat.eq_zero_or_pos k with z | z
          · subst z
            have h3 := rF_le (B := B) (a := 0) (N := N)
            have q : ¬ (0 + 2 * rF B N 0 ≤ 1000000 + 11) := q
            omega
          · exact z
        obtain ⟨c2, h3, e4⟩ := h2 k0
        refine ⟨c2 + 2 ^ k, by omega, ?_⟩
        rw [cr c2 h3, e4, e2, Nat.min_eq_right (by omega)]
        rfl
    · intro _
      by_cases q : (wkc B N k).1 + 11 ≤ (wkc B N k).2 + 2 * rB B N k
      · refine ⟨c1 + 2 ^ k, by omega, ?_⟩
        rw [cr c1 h1, e1, e3, Nat.min_eq_right q]
        rfl
      · have k0 : 0 < k := by
          rcases Nat.eq_zero_or_pos k with z | z
          · subst z
            have q : ¬ (0 + 11 ≤ 1000000 + 2 * rB B N 0) := q
            omega
          · exact z
        obtain ⟨c2, h3, e4⟩ := h2 k0
        refine ⟨c2, by omega, ?_⟩
        rw [st c2 h3, e4, e3, Nat.min_eq_left (by omega)]
        rfl
/-- what one choice costs; the least of all -/
def wkL (B : Nat → Nat) (N l c : Nat) : Nat := if (wko B N c (l + 1)).2 then 8 * l + (wko B N c (l + 1)).1 else 1000000
def wkT (B : Nat → Nat) (N l : Nat) : Nat := fo (fun c m => min m (wkL B N l c)) 1000000 (2 ^ (l + 1))
theorem fo_min {g : Nat → Nat} {m0 : Nat} : ∀ n, fo (fun c m => min m (g c)) m0 n ≤ m0 ∧ (∀ c, c < n → fo (fun c m => min m (g c)) m0 n ≤ g c) ∧ (fo (fun c m => min m (g c)) m0 n = m0 ∨ ∃ c, c < n ∧ fo (fun c m => min m (g c)) m0 n = g c)
  | 0 => ⟨Nat.le_refl _, fun c h => absurd h (Nat.not_lt_zero _), Or.inl rfl⟩
  | n + 1 => by
    obtain ⟨h1, h2, h3⟩ := fo_min (g := g) (m0 := m0) n
    have e : fo (fun c m => min m (g c)) m0 (n + 1) = min (fo (fun c m => min m (g c)) m0 n) (g n) := rfl
    rw [e]
    refine ⟨by omega, fun c hc => ?_, ?_⟩
    · by_cases z : c = n
      · subst z; omega
      · have := h2 c (by omega)
        omega
    · by_cases q : fo (fun c m => min m (g c)) m0 n ≤ g n
      · rw [Nat.min_eq_left q]
        rcases h3 with h3 | ⟨c, hc, h3⟩
        · exact Or.inl h3
        · exact Or.inr ⟨c, by omega, h3⟩
      · rw [Nat.min_eq_right (by omega)]
        exact Or.inr ⟨n, by omega, rfl⟩
theorem wkT_eq {B : Nat → Nat} {N l : Nat} (hl : l ≤ 3) : wkT B N l = (wkc B N (l + 1)).1 + 8 * l := by
  obtain ⟨h1, h2, h3⟩ := fo_min (g := wkL B N l) (m0 := 1000000) (2 ^ (l + 1))
  have hb := (wkc_b (B := B) (N := N) (l + 1)).1
  obtain ⟨⟨c, hc, e⟩, _⟩ := wko_at (B := B) (N := N) (l + 1) (by omega)
  have e2 : wkL B N l c = 8 * l + (wkc B N (l + 1)).1 := by
    unfold wkL
    rw [e, if_pos rfl]
  have h4 := h2 c hc
  have h1 : wkT B N l ≤ 1000000 := h1
  have h4 : wkT B N l ≤ wkL B N l c := h4
  have h3 : wkT B N l = 1000000 ∨ ∃ c, c < 2 ^ (l + 1) ∧ wkT B N l = wkL B N l c := h3
  have h5 : (wkc B N (l + 1)).1 + 8 * l ≤ wkT B N l := by
    rcases h3 with h3 | ⟨c2, hc2, h3⟩
    · omega
    · rw [h3]
      have := wko_ge (B := B) (N := N) (c := c2) (l + 1)
      unfold wkL
      split
      · rename_i z
        have := this.1 z
        omega
      · omega
  omega
section WK
variable {n : Nat} {s : St} {K : mmO → mmM → Prop} {x : Int32} {N : Nat} {B : Nat → Nat} {w : mmM}
theorem b10 {b : Nat} (h : b < 40) : nI b / 10 = nI (b / 10) ∧ nI b - nI b / 10 * 10 = nI (b % 10) := (rt_i h).2.2.2
theorem max_nI {a b : Nat} (ha : a < 1000000) (hb : b < 1000000) : (if nI a < nI b then nI b else nI a) = nI (max a b) := by
  have e : (nI a < nI b) ↔ a < b := nI_lti ha hb
  by_cases q : a < b
  · rw [if_pos (e.mpr q), Nat.max_eq_right (by omega)]
  · rw [if_neg (fun z => q (e.mp z)), Nat.max_eq_left (by omega)]
theorem k_lastAisle (hN : N ≤ 60) (hsz : w 5 0 = nI N) (hB : ∀ k, k < N → w 78 k = nI (B k) ∧ B k < 40) (g : K (.inl (some (.int (nI (lstA B N))))) w) : mm_M kX3_lastAisle [.ref 5] w K := by
  refine bX3_lastAisle_0 ?_
  refine e_for (n := N) (a0 := 0) (f := fun k m => max m (B k / 10)) (E := fun k m => mm_E kX3_lastAisle 4 [.ref 5, .int (nI m), .int (nI k)] [] w 0 K) (fun _ m => m ≤ 3) (Nat.zero_le _) (fun k m hk hm => by have := (hB k hk).2; show max m (B k / 10) ≤ 3; omega) ?_ ?_
  · intro k m hk hm ih
    obtain ⟨e1, e2⟩ := hB k hk
    refine bX3_lastAisle_4 (fun q => absurd (hsz ▸ q) (ge_nI hk (by omega))) (fun _ => bX3_lastAisle_12 (in_nI (by omega) (by decide)) ?_)
    rw [cl_nI (by omega), e1, (b10 e2).1, max_nI (by omega) (by omega), nI_1]
    exact ih
  · intro _
    exact bX3_lastAisle_4 (fun _ => bX3_lastAisle_32 g) (fun q => absurd (hsz ▸ le_nI (Nat.le_refl N) (by omega)) q)
theorem k_reach {a : Nat} {ff : Bool} (ha : a < 1000) (hN : N ≤ 60) (hsz : w 5 0 = nI N) (hB : ∀ k, k < N → w 78 k = nI (B k) ∧ B k < 40) (g : K (.inl (some (.int (nI (if ff then rF B N a else rB B N a))))) w) : mm_M kX3_reach [.ref 5, .int (nI a), .int (if ff then 1 else 0)] w K := by
  refine bX3_reach_0 ?_
  have key : ∀ l5, mm_E kX3_reach 5 [.ref 5, .int (nI a), .int (if ff then 1 else 0), .int (nI 0), .int (nI 0), l5] [] w 0 K := by
    refine e_for (n := N) (a0 := 0) (f := fun k m => if B k / 10 = a then max m (if ff then B k % 10 + 1 else 10 - B k % 10) else m) (E := fun k m => ∀ l5, mm_E kX3_reach 5 [.ref 5, .int (nI a), .int (if ff then 1 else 0), .int (nI m), .int (nI k), l5] [] w 0 K) (fun _ m => m ≤ 10) (Nat.zero_le _) ?_ ?_ ?_
    · intro k m hk hm
      show (if B k / 10 = a then max m (if ff then B k % 10 + 1 else 10 - B k % 10) else m) ≤ 10
      split
      · split <;> omega
      · exact hm
    · intro k m hk hm ih l5
      obtain ⟨e1, e2⟩ := hB k hk
      have a1 := in_nI (show k < 60 by omega) (by decide)
      refine bX3_reach_5 (fun q => absurd (hsz ▸ q) (ge_nI hk (by omega))) (fun _ => bX3_reach_14 a1 (fun q => ?_) (fun q => ?_)) <;> rw [cl_nI (by omega), e1, (b10 e2).1, nI_eq (by omega) (by omega)] at q
      · rw [if_pos q] at ih
        cases ff with
        | true =>
          refine bX3_reach_28 a1 (fun z => absurd z (by decide)) (fun _ => bX3_reach_47 (bX3_reach_57 (bX3_reach_61 ?_)))
          rw [cl_nI (by omega), e1, (b10 e2).2, nI_1, max_nI (by omega) (by omega), nI_1]
          exact ih _
        | false =>
          refine bX3_reach_28 a1 (fun _ => bX3_reach_52 (bX3_reach_57 (bX3_reach_61 ?_))) (fun z => absurd rfl z)
          have e3 : (11 : Int32) - nI (B k % 10 + 1) = nI (10 - B k % 10) := by
            rw [show (11 : Int32) = nI 11 from rfl, sub_nI (by omega)]
            congr 1
            omega
          rw [cl_nI (by omega), e1, (b10 e2).2, nI_1, e3, max_nI (by omega) (by omega), nI_1]
          exact ih _
      · rw [if_neg q] at ih
        refine bX3_reach_61 ?_
        rw [nI_1]
        exact ih _
    · intro _ l5
      refine bX3_reach_5 (fun _ => bX3_reach_67 ?_) (fun q => absurd (hsz ▸ le_nI (Nat.le_refl N) (by omega)) q)
      cases ff with
      | true => exact g
      | false => exact g
  exact key _
theorem min_nIw {a b : Nat} (ha : a < 2 ^ 31) (hb : b < 2 ^ 31) : (if nI b < nI a then nI b else nI a) = nI (min a b) := by
  have e : (nI b < nI a) ↔ b < a := nI_ltI hb ha
  by_cases q : b < a
  · rw [if_pos (e.mpr q), Nat.min_eq_right (Nat.le_of_lt q)]
  · rw [if_neg (fun z => q (e.mp z)), Nat.min_eq_left (by omega)]
theorem k_walkC (hN : N ≤ 60) (hsz : w 5 0 = nI N) (hB : ∀ k, k < N → w 78 k = nI (B k) ∧ B k < 40) (g : K (.inl (some (.int (nI ((wkc B N (lstA B N + 1)).1 + 8 * lstA B N))))) w) : mm_M kX3_shortestWalk [.ref 5] w K := by
  have hl := lstA_le (B := B) (N := N) (fun k hk => (hB k hk).2)
  have i11 : (11 : Int32) = nI 11 := rfl
  have i2 : (2 : Int32) = nI 2 := rfl
  refine bX3_shortestWalk_0 (by decide) (k_lastAisle hN hsz hB (mm_Kr 0 rfl (bX3_shortestWalk_4 ?_)))
  have key : ∀ l5 l6, mm_E kX3_shortestWalk 13 [.ref 5, .int (nI (lstA B N)), .int (nI 0), .int (nI 1000000), .int (nI 0), l5, l6] [] w 0 K := by
    refine e_for (n := lstA B N + 1) (a0 := ((0, 1000000) : Nat × Nat)) (f := wks B N) (E := fun a t => ∀ l5 l6, mm_E kX3_shortestWalk 13 [.ref 5, .int (nI (lstA B N)), .int (nI t.1), .int (nI t.2), .int (nI a), l5, l6] [] w 0 K) (fun a t => t.1 ≤ 20 * a ∧ t.2 ≤ 1000000) ⟨Nat.le_refl _, Nat.le_refl _⟩ ?_ ?_ ?_
    · intro a t ha ⟨h1, h2⟩
      have h4 := rF_le (B := B) (a := a) (N := N)
      have h5 := rB_le (B := B) (a := a) (N := N)
      refine ⟨?_, ?_⟩
      · show min (t.1 + 2 * rF B N a) (t.2 + 11) ≤ _
        omega
      · show min (t.2 + 2 * rB B N a) (t.1 + 11) ≤ _
        omega
    · intro a t ha ⟨h1, h2⟩ ih l5 l6
      have h4 := rF_le (B := B) (a := a) (N := N)
      have h5 := rB_le (B := B) (a := a) (N := N)
      refine bX3_shortestWalk_13 (fun q => absurd q (nI_nlt (by omega) (by omega))) (fun _ => bX3_shortestWalk_19 (by decide) (k_reach (ff := true) (by omega) hN hsz hB (mm_Kr 0 rfl (bX3_shortestWalk_28 (by decide) (k_reach (ff := false) (by omega) hN hsz hB (mm_Kr 0 rfl (bX3_shortestWalk_48 ?_)))))))
      rw [i11, i2, nI_add, nI_add, nI_1]
      show mm_E kX3_shortestWalk 13 [.ref 5, .int (nI (lstA B N)), .int (if nI (t.2 + 11) < nI t.1 + nI 2 * nI (rF B N a) then nI (t.2 + 11) else nI t.1 + nI 2 * nI (rF B N a)), .int (if nI (t.1 + 11) < nI t.2 + nI 2 * nI (rB B N a) then nI (t.1 + 11) else nI t.2 + nI 2 * nI (rB B N a)), _, _, _] [] w 0 K
      rw [nI_mul, nI_mul, nI_add, nI_add, min_nIw (by omega) (by omega), min_nIw (by omega) (by omega)]
      exact ih _ _
    · intro ⟨h1, h2⟩ l5 l6
      have i4 : (4 : Int32) = nI 4 := rfl
      refine bX3_shortestWalk_13 (fun _ => bX3_shortestWalk_71 ?_) (fun q => absurd (nI_lt (Nat.lt_succ_self _) (by omega)) q)
      rw [i2, i4, nI_mul, nI_mul, nI_add, show 2 * lstA B N * 4 = 8 * lstA B N by omega]
      exact g
  exact key _ _
theorem bit_nI {c a : Nat} (hc : c < 16) (ha : a < 4) : ((nI c >>> (nI a &&& 31)) &&& 1 = 1) ↔ c / 2 ^ a % 2 = 1 := by
  have := mm_rows (P := fun x => ((nI (x / 4) >>> (nI (x % 4) &&& 31)) &&& 1 = 1) ↔ (x / 4) / 2 ^ (x % 4) % 2 = 1) (n := 64) (by decide +kernel) (x := c * 4 + a) (by omega)
  rw [show (c * 4 + a) / 4 = c by omega, show (c * 4 + a) % 4 = a by omega] at this
  exact this
theorem k_walkOf {c : Nat} (hc : c < 16) (hN : N ≤ 60) (hsz : w 5 0 = nI N) (hB : ∀ k, k < N → w 78 k = nI (B k) ∧ B k < 40) (g : K (.inl (some (.int (nI (wkL B N (lstA B N) c))))) w) : mm_M kX3_walkOf [.ref 5, .int (nI c), .int (nI (lstA B N))] w K := by
  have hl := lstA_le (B := B) (N := N) (fun k hk => (hB k hk).2)
  have i11 : (11 : Int32) = nI 11 := rfl
  have i2 : (2 : Int32) = nI 2 := rfl
  have i4 : (4 : Int32) = nI 4 := rfl
  refine bX3_walkOf_0 ?_
  rw [i2, i4, nI_mul, nI_mul, show 2 * lstA B N * 4 = 8 * lstA B N by omega]
  have key : ∀ m a l6, a + m = lstA B N + 1 → (wko B N c a).1 ≤ 20 * a → mm_E kX3_walkOf 12 [.ref 5, .int (nI c), .int (nI (lstA B N)), .int (nI (8 * lstA B N + (wko B N c a).1)), .int (if (wko B N c a).2 then 1 else 0), .int (nI a), l6] [] w 0 K := by
    intro m
    induction m with
    | zero =>
      intro a l6 ha hb
      have e : a = lstA B N + 1 := by omega
      subst e
      refine bX3_walkOf_12 (fun _ => ?_) (fun q => absurd (nI_lt (Nat.lt_succ_self _) (by omega)) q)
      unfold wkL at g
      cases hx : (wko B N c (lstA B N + 1)).2 with
      | true =>
        rw [hx] at g
        exact bX3_walkOf_78 (fun q => absurd q (by decide)) (fun _ => bX3_walkOf_83 (bX3_walkOf_89 g))
      | false =>
        rw [hx] at g
        exact bX3_walkOf_78 (fun _ => bX3_walkOf_87 (bX3_walkOf_89 g)) (fun q => absurd rfl q)
    | succ m ih =>
      intro a l6 ha hb
      have h4 := rF_le (B := B) (a := a) (N := N)
      have h5 := rB_le (B := B) (a := a) (N := N)
      have ebit := bit_nI (c := c) (a := a) hc (by omega)
      refine bX3_walkOf_12 (fun q => absurd q (nI_nlt (by omega) (by omega))) (fun _ => bX3_walkOf_18 (fun q => ?_) (fun q => ?_))
      · have q := ebit.mp q
        have e : wko B N c (a + 1) = ((wko B N c a).1 + 11, !(wko B N c a).2) := if_pos q
        have ih := ih (a + 1)
        rw [e] at ih
        refine bX3_walkOf_28 (bX3_walkOf_33 (fun z => absurd z (by decide)) (fun _ => bX3_walkOf_41 ?_))
        cases hx : (wko B N c a).2 with
        | true =>
          rw [hx] at ih
          refine bX3_walkOf_56 (fun _ => bX3_walkOf_69 (bX3_walkOf_70 ?_)) (fun z => absurd rfl z)
          rw [i11, nI_add, nI_1, Nat.add_assoc]
          exact ih _ (by omega) (by show (wko B N c a).1 + 11 ≤ _; omega)
        | false =>
          rw [hx] at ih
          refine bX3_walkOf_56 (fun z => absurd z (by decide)) (fun _ => bX3_walkOf_65 (bX3_walkOf_70 ?_))
          rw [i11, nI_add, nI_1, Nat.add_assoc]
          exact ih _ (by omega) (by show (wko B N c a).1 + 11 ≤ _; omega)
      · have q : ¬ c / 2 ^ a % 2 = 1 := fun z => q (ebit.mpr z)
        have e : wko B N c (a + 1) = ((wko B N c a).1 + 2 * (if (wko B N c a).2 then rF B N a else rB B N a), (wko B N c a).2) := if_neg q
        have ih := ih (a + 1)
        rw [e] at ih
        refine bX3_walkOf_32 (bX3_walkOf_33 (fun _ => bX3_walkOf_46 (by decide) (k_reach (ff := (wko B N c a).2) (by omega) hN hsz hB (mm_Kr 0 rfl (bX3_walkOf_55 ?_)))) (fun z => absurd rfl z))
        rw [i2, nI_mul]
        cases hx : (wko B N c a).2 with
        | true =>
          rw [hx] at ih
          refine bX3_walkOf_56 (fun z => absurd z (by decide)) (fun _ => bX3_walkOf_65 (bX3_walkOf_70 ?_))
          rw [nI_add, nI_1, Nat.add_assoc]
          exact ih _ (by omega) (by show (wko B N c a).1 + 2 * rF B N a ≤ _; omega)
        | false =>
          rw [hx] at ih
          refine bX3_walkOf_56 (fun _ => bX3_walkOf_69 (bX3_walkOf_70 ?_)) (fun z => absurd rfl z)
          rw [nI_add, nI_1, Nat.add_assoc]
          exact ih _ (by omega) (by show (wko B N c a).1 + 2 * rB B N a ≤ _; omega)
  exact key (lstA B N + 1) 0 _ (by omega) (Nat.le_refl _)
theorem k_tryC (hN : N ≤ 60) (hsz : w 5 0 = nI N) (hB : ∀ k, k < N → w 78 k = nI (B k) ∧ B k < 40) (g : K (.inl (some (.int (nI ((wkc B N (lstA B N + 1)).1 + 8 * lstA B N))))) w) : mm_M kX3_shortestWalkByTrying [.ref 5] w K := by
  have hl := lstA_le (B := B) (N := N) (fun k hk => (hB k hk).2)
  rw [← wkT_eq hl] at g
  have hp := pw_le (k := lstA B N) hl
  have ep : 2 ^ (lstA B N + 1) = 2 ^ lstA B N + 2 ^ lstA B N := by rw [Nat.pow_succ]; omega
  have esh : (1 : Int32) <<< ((nI (lstA B N) + 1) &&& 31) = nI (2 ^ (lstA B N + 1)) := mm_rows (P := fun x => (1 : Int32) <<< ((nI x + 1) &&& 31) = nI (2 ^ (x + 1))) (n := 4) (by decide +kernel) (by omega)
  refine bX3_shortestWalkByTrying_0 (by decide) (k_lastAisle hN hsz hB (mm_Kr 0 rfl (bX3_shortestWalkByTrying_4 ?_)))
  rw [esh]
  refine e_for (n := 2 ^ (lstA B N + 1)) (a0 := 1000000) (f := fun c m => min m (wkL B N (lstA B N) c)) (E := fun c m => mm_E kX3_shortestWalkByTrying 17 [.ref 5, .int (nI (lstA B N)), .int (nI m), .int (nI (2 ^ (lstA B N + 1))), .int (nI c)] [] w 0 K) (fun _ m => m ≤ 1000000) (Nat.le_refl _) (fun c m _ hm => Nat.le_trans (Nat.min_le_left _ _) hm) ?_ ?_
  · intro c m hc hm ih
    have hw : wkL B N (lstA B N) c ≤ 1000000 := by
      have : ∀ a, (wko B N c a).1 ≤ 20 * a := by
        intro a
        induction a with
        | zero => exact Nat.le_refl _
        | succ a ih =>
          have h4 := rF_le (B := B) (a := a) (N := N)
          have h5 := rB_le (B := B) (a := a) (N := N)
          unfold wko
          split
          · show (wko B N c a).1 + 11 ≤ _
            omega
          · show (wko B N c a).1 + 2 * (if _ then _ else _) ≤ _
            split <;> omega
      have := this (lstA B N + 1)
      unfold wkL
      split <;> omega
    refine bX3_shortestWalkByTrying_17 (fun q => absurd q (nI_ge hc (by omega))) (fun _ => bX3_shortestWalkByTrying_23 (by decide) (k_walkOf (by omega) hN hsz hB (mm_Kr 0 rfl (bX3_shortestWalkByTrying_31 ?_))))
    rw [min_nIw (by omega) (by omega), nI_1]
    exact ih
  · intro _
    exact bX3_shortestWalkByTrying_17 (fun _ => bX3_shortestWalkByTrying_41 g) (fun q => absurd (nI_le (Nat.le_refl _) (by omega)) q)
theorem hi_nI {m r : Nat} (hm : m ≤ 10) (hr : r < 10) : (if nI m - 1 < nI r then nI r else nI m - 1) = nI (max m (r + 1)) - 1 := by
  have := mm_rows (P := fun x => (if nI (x / 10) - 1 < nI (x % 10) then nI (x % 10) else nI (x / 10) - 1) = nI (max (x / 10) (x % 10 + 1)) - 1) (n := 110) (by decide +kernel) (x := m * 10 + r) (by omega)
  rw [show (m * 10 + r) / 10 = m by omega, show (m * 10 + r) % 10 = r by omega] at this
  exact this
theorem lo_nI {m r : Nat} (hm : m ≤ 10) (hr : r < 10) : (if nI r < nI (10 - m) then nI r else nI (10 - m)) = nI (10 - max m (10 - r)) := by
  rw [min_nI (by omega) (by omega)]
  congr 1
  omega
end WK
