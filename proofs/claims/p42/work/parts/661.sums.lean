/-! the lines of a promise come to what was promised; a pick keeps what Jn says -/
theorem kx_cnt {f : Nat → Nat} {x : Nat} (hx : x < 960) (h0 : f x ≠ 0) : kx f (cnt f x) = x := by
  obtain ⟨a1, a2, a3⟩ := kx_ok (cnt_lt (f := f) hx h0)
  exact cnt_inj a2 h0 a3
theorem kx_sum {f : Nat → Nat} : ∀ n, n ≤ 960 → sm (fun k => f (kx f k)) (cnt f n) = sm f n
  | 0, _ => rfl
  | n + 1, h => by
    have ih := kx_sum (f := f) n (by omega)
    show sm (fun k => f (kx f k)) (cnt f n + if f n = 0 then 0 else 1) = sm f n + f n
    by_cases q : f n = 0
    · rw [if_pos q, q]
      exact ih
    · rw [if_neg q]
      show sm (fun k => f (kx f k)) (cnt f n) + f (kx f (cnt f n)) = _
      rw [ih, kx_cnt (by omega) q]
section SU
variable {n : Nat} {s : St}
theorem lsP_sum (h : Inv n s) {p : Nat} (hp : p < s.np) (hs : s.st p = 111) : sm (lsP s p) 960 = sm (s.q p) s.ni := by
  have hni := h.ni_
  have key : ∀ i, i ≤ s.ni → sm (fo (fun i f => (lsI s i (s.du p) (s.q p i) f).2) (fun _ => 0) i) 960 = sm (s.q p) i := by
    intro i
    induction i with
    | zero => intro _; exact sm_0 (fun _ _ => rfl)
    | succ i ih =>
      intro hi
      have ih := ih (by omega)
      have hH := lsH_all h.1 (p := p) i
      show sm (lsI s i (s.du p) (s.q p i) (fo (fun i f => (lsI s i (s.du p) (s.q p i) f).2) (fun _ => 0) i)).2 960 = sm (s.q p) i + s.q p i
      generalize fo (fun i f => (lsI s i (s.du p) (s.q p i) f).2) (fun _ => 0) i = f0 at ih hH ⊢
      obtain ⟨g1, -, -, -, g5⟩ := lsG_all h.1 (i := i) (d := s.du p) (q := s.q p i) (lsH_f h.1 hH) s.nl (Nat.le_refl _)
      have e : fo (lsK s i (s.du p)) (s.q p i, f0) s.nl = lsI s i (s.du p) (s.q p i) f0 := rfl
      rw [e] at g1 g5
      have hd := h.du_ p hp hs
      have hc := h.cv_ i (s.du p) (by omega) hd.1
      have hq : s.q p i ≤ s.pr i (s.du p) := by
        have := sm_at (f := fun p2 => if s.st p2 = 111 ∧ s.du p ≤ s.du p2 then s.q p2 i else 0) hp
        rw [if_pos ⟨hs, Nat.le_refl _⟩] at this
        exact this
      rw [uk_sk h.1 i (s.du p)] at g1
      omega
  exact key s.ni (Nat.le_refl _)
theorem sm_qni (h : Inv n s) (hj : Jn s) {p : Nat} (hp : p < s.np) : sm (s.q p) s.ni = sm (s.q p) 6 := (sm_split h.ni_ (fun i h1 h2 => hj.2.1 p i hp h1 h2)).symm
theorem vQ_sum (h : Inv n s) (hj : Jn s) {p : Nat} (hp : p < s.np) (hs : s.st p = 111 ∨ s.st p = 112) : sm (vQ s p) (vN s p) = sm (s.q p) 6 ∧ (∀ k, k < vN s p → 1 ≤ vQ s p k) ∧ 1 ≤ vN s p := by
  have hpos := hj.2.2.1 p hp
  have main : sm (vQ s p) (vN s p) = sm (s.q p) 6 ∧ (∀ k, k < vN s p → 1 ≤ vQ s p k) := by
    by_cases q : s.st p = 111
    · obtain ⟨o1, -, -, o4⟩ := vw_open q
      refine ⟨?_, fun k hk => ?_⟩
      · rw [o1, ← sm_qni h hj hp, ← lsP_sum h hp q, ← kx_sum 960 (Nat.le_refl _)]
        exact sm_cong (fun k _ => o4 k)
      · rw [o4]
        rw [o1] at hk
        have := (kx_ok hk).2.1
        omega
    · have hs : s.st p = 112 := by omega
      have e1 : vN s p = s.lc p := if_neg q
      have e2 : ∀ k, vQ s p k = s.jq (s.fe p + k) := fun k => if_neg q
      obtain ⟨x, y⟩ := hj.2.2.2 p hp hs
      refine ⟨?_, fun k hk => ?_⟩
      · rw [e1, ← y]
        exact sm_cong (fun k _ => e2 k)
      · rw [e2]
        exact x k (by rw [← e1]; exact hk)
  refine ⟨main.1, main.2, ?_⟩
  rcases Nat.eq_zero_or_pos (vN s p) with z | z
  · have := main.1
    rw [z] at this
    have : (0 : Nat) = sm (s.q p) 6 := this
    omega
  · exact z
theorem pks_jq (h : Inw n s) {p : Nat} (hp : p < s.np) (hs : s.st p = 111) (hsp : s.ne + vN s p ≤ 150) : ∀ k, k ≤ vN s p → ∀ e, e < s.ne → (pks s p k).jq e = s.jq e := by
  intro k
  induction k with
  | zero => intro _ e _; rfl
  | succ k ih =>
    intro hk e he
    have g2 := (pkG_all h hp hs hsp k (by omega)).2.1
    show updN (pks s p k).jq (pks s p k).ne (vQ s p k) e = _
    rw [g2, updN_ne (by omega)]
    exact ih (by omega) e he
theorem pk_J (h : Inv n s) {p : Nat} (hp : p < s.np) (hs : s.st p = 111) (hsp : s.ne + vN s p ≤ 150) : XJ s (pkE s p) ∧ (pkE s p).np = s.np ∧ (pkE s p).st p = 112 := by
  obtain ⟨g1, g2, g3, g4, g5, g6⟩ := pkG_all h.1 hp hs hsp _ (Nat.le_refl _)
  have hq := pks_jq h.1 hp hs hsp _ (Nat.le_refl _)
  unfold pkE
  generalize pks s p (vN s p) = t at g1 g2 g3 g4 g5 g6 hq
  have e0 : t.ni = s.ni := by show t 0 0 0 = _; rw [g3 0 (by decide) (by decide) (by decide)]; rfl
  have e2 : t.np = s.np := by show t 2 0 0 = _; rw [g3 2 (by decide) (by decide) (by decide)]; rfl
  have e14 : t.q = s.q := by funext i j; show t 14 i j = _; rw [g3 14 (by decide) (by decide) (by decide)]; rfl
  have e15 : t.fe = updN s.fe p s.ne := by funext j; show t 15 0 j = _; rw [g3 15 (by decide) (by decide) (by decide)]; rfl
  have e16 : t.lc = updN s.lc p (vN s p) := by funext j; show t 16 0 j = _; rw [g3 16 (by decide) (by decide) (by decide)]; rfl
  refine ⟨⟨e0, fun hj => ⟨fun p2 hp2 => ?_, fun p2 i hp2 h1 h2 => ?_, fun p2 hp2 => ?_, fun p2 hp2 hs2 => ?_⟩⟩, e2, updN_at⟩
  · show updN s.st p 112 p2 ≠ 45
    by_cases e : p2 = p
    · subst e; rw [updN_at]; decide
    · rw [updN_ne e]; exact hj.1 p2 (e2 ▸ hp2)
  · show t.q p2 i = 0
    rw [e14]
    exact hj.2.1 p2 i (e2 ▸ hp2) (e0 ▸ h1) h2
  · show 1 ≤ sm (t.q p2) 6
    rw [e14]
    exact hj.2.2.1 p2 (e2 ▸ hp2)
  · have hs2 : updN s.st p 112 p2 = 112 := hs2
    have hp3 : p2 < s.np := e2 ▸ hp2
    show (∀ k, k < t.lc p2 → 1 ≤ t.jq (t.fe p2 + k)) ∧ sm (fun k => t.jq (t.fe p2 + k)) (t.lc p2) = sm (t.q p2) 6
    rw [e14, e15, e16]
    by_cases e : p2 = p
    · subst e
      rw [updN_at, updN_at]
      obtain ⟨v1, v2, -⟩ := vQ_sum h hj hp (Or.inl hs)
      refine ⟨fun k hk => by rw [(g6 k hk).2.2]; exact v2 k hk, ?_⟩
      rw [← v1]
      exact sm_cong (fun k hk => (g6 k hk).2.2)
    · rw [updN_ne e] at hs2
      rw [updN_ne e, updN_ne e]
      obtain ⟨x, y⟩ := hj.2.2.2 p2 hp3 hs2
      have hk2 := (h.pk_ p2 hp3 hs2).2.1
      refine ⟨fun k hk => by rw [hq _ (by omega)]; exact x k hk, ?_⟩
      rw [← y]
      exact sm_cong (fun k hk => hq _ (by omega))
end SU
