/-! days that are short; promises that break -/
theorem sLast_some {c : Nat → Bool} : ∀ {n a : Nat}, sLast c n = some a → a < n ∧ c a = true
  | 0, _, h => by cases h
  | n + 1, a, h => by
    unfold sLast at h
    by_cases q : c n = true
    · rw [if_pos q] at h
      cases h
      exact ⟨by omega, q⟩
    · rw [if_neg q] at h
      have := sLast_some h
      exact ⟨by omega, this.2⟩
theorem sLast_none {c : Nat → Bool} : ∀ {n : Nat}, sLast c n = none → ∀ a, a < n → c a = false
  | 0, _, a, h => absurd h (Nat.not_lt_zero _)
  | n + 1, h, a, ha => by
    unfold sLast at h
    by_cases q : c n = true
    · rw [if_pos q] at h
      cases h
    · rw [if_neg q] at h
      by_cases e : a = n
      · subst e
        exact Bool.eq_false_iff.mpr q
      · exact sLast_none h a (by omega)
theorem sLast_cut {c : Nat → Bool} {m : Nat} : ∀ {n : Nat}, m ≤ n → (∀ a, m ≤ a → a < n → c a = false) → sLast c n = sLast c m
  | 0, h, _ => by have : m = 0 := by omega
                  subst this; rfl
  | n + 1, h, hc => by
    by_cases e : m = n + 1
    · subst e; rfl
    · show (if c n then some n else sLast c n) = _
      rw [hc n (by omega) (by omega), sLast_cut (n := n) (by omega) (fun a h1 h2 => hc a h1 (by omega))]
      rfl
theorem sLast_cong {c c2 : Nat → Bool} : ∀ {n : Nat}, (∀ a, a < n → c a = c2 a) → sLast c n = sLast c2 n
  | 0, _ => rfl
  | n + 1, h => by
    show (if c n then some n else sLast c n) = (if c2 n then some n else sLast c2 n)
    rw [h n (by omega), sLast_cong (fun a ha => h a (by omega))]
def cS (s : St) (i a : Nat) : Bool := decide (s.sk i (s.td + a) < s.pr i (s.td + a))
def St.sd (s : St) (i : Nat) : Option Nat := sLast (cS s i) 61
def cO (s : St) (i d p : Nat) : Bool := decide ((s.st p = 111 ∧ d ≤ s.du p) ∧ 0 < s.q p i)
def St.lo (s : St) (i d : Nat) : Option Nat := sLast (cO s i d) s.np
/-- nothing is promised where no open promise is -/
theorem pr_0 {s : St} {i d : Nat} (h : ∀ p, p < s.np → s.st p = 111 → 0 < s.q p i → s.du p < d) : s.pr i d = 0 := by
  refine sm_0 fun p hp => ?_
  by_cases q : s.st p = 111 ∧ d ≤ s.du p
  · rw [if_pos q]
    by_cases q2 : 0 < s.q p i
    · have := h p hp q.1 q2
      omega
    · omega
  · rw [if_neg q]
theorem pr_pos {s : St} {i d : Nat} (h : 0 < s.pr i d) : ∃ p, p < s.np ∧ cO s i d p = true := by
  obtain ⟨p, hp, h2⟩ := sm_pos h
  have h2 : 0 < if s.st p = 111 ∧ d ≤ s.du p then s.q p i else 0 := h2
  refine ⟨p, hp, decide_eq_true ?_⟩
  by_cases q : s.st p = 111 ∧ d ≤ s.du p
  · rw [if_pos q] at h2
    exact ⟨q, h2⟩
  · rw [if_neg q] at h2
    omega
section BK
variable {n : Nat} {s : St}
theorem k_sdC {i : Nat} {w : mmM} {K : mmO → mmM → Prop} (h : Inw n s) (hw : RepC w s) (hi : i < 6) (g : K (.inl (some (.int (match s.sd i with | some a => nI (s.td + a) | none => -1)))) w) : mm_M kX5_lastDayTooShort [.ref 0, .int (nI i)] w K := by
  have htd := h.td_; have hn := h.n_
  have loop : ∀ m, m ≤ 61 → K (.inl (some (.int (match sLast (cS s i) m with | some a => nI (s.td + a) | none => -1)))) w → mm_E kX5_lastDayTooShort 3 [.ref 0, .int (nI i), .int (nI m - 1)] [] w 0 K := by
    intro m
    induction m with
    | zero => intro _ g; exact bX5_lastDayTooShort_3 (fun _ => bX5_lastDayTooShort_34 g) (fun h => absurd (by decide) h)
    | succ m ih =>
      intro hm g
      rw [nI_pred]
      refine bX5_lastDayTooShort_3 (fun h => absurd h (nI_pos (by omega))) (fun _ => bX5_lastDayTooShort_7 (by decide) ?_)
      rw [hw.td, nI_add]
      refine k_diff h hw hi (by omega) (mm_Kr 0 rfl ?_)
      have hs := h.skb i (s.td + m); have hp := h.prb hi (s.td + m)
      have e0 := sub_le0 (a := s.sk i (s.td + m)) (b := s.pr i (s.td + m)) (by omega) (by omega)
      refine bX5_lastDayTooShort_18 (fun q => ?_) (fun q => ?_) <;> rw [e0] at q
      · have hc : cS s i m = false := decide_eq_false (by omega)
        refine bX5_lastDayTooShort_28 ?_
        rw [show nI m + -1 = nI m - 1 by rw [Int32.sub_eq_add_neg]]
        refine ih (by omega) ?_
        unfold sLast at g
        rw [hc] at g
        exact g
      · have hc : cS s i m = true := decide_eq_true (by omega)
        unfold sLast at g
        rw [hc] at g
        refine bX5_lastDayTooShort_21 ?_
        rw [hw.td, nI_add]
        exact g
  exact bX5_lastDayTooShort_0 (loop 61 (Nat.le_refl _) g)
theorem k_loC {i d : Nat} {w : mmM} {K : mmO → mmM → Prop} (h : Inw n s) (hw : RepC w s) (hi : i < 6) (hd : d < 100000) (g : K (.inl (some (.int (match s.lo i d with | some p => nI p | none => -1)))) w) : mm_M kX4_lastOpenFor [.ref 3, .int (nI i), .int (nI d)] w K := by
  have hnp := h.np_; have htd := h.td_; have hn := h.n_
  refine m_lastOpenFor h.np_ hi hw.np ?_
  have e : sLast (cOpen (w 48) (w 47) (fun p => w (50 + p) i) (nI d)) s.np = s.lo i d := by
    refine sLast_cong fun p hp => ?_
    unfold cOpen cO
    rw [hw.st, hw.du]
    show decide (((nI (s.st p) = 111 ∧ nI d ≤ nI (s.du p)) ∧ 0 < w (50 + p) i)) = _
    rw [hw.q p (by omega) i hi]
    have hq := h.qb hp hi
    have e1 := st_is h p 111 (by decide)
    have e3 : (0 < nI (s.q p i)) ↔ 0 < s.q p i := nI_lti (a := 0) (by omega) (by omega)
    have e : ((nI (s.st p) = 111 ∧ nI d ≤ nI (s.du p)) ∧ 0 < nI (s.q p i)) ↔ ((s.st p = 111 ∧ d ≤ s.du p) ∧ 0 < s.q p i) := by
      constructor
      · rintro ⟨⟨q1, q2⟩, q3⟩
        have q1 := e1.mp q1
        have := h.du_ p hp q1
        exact ⟨⟨q1, (nI_lei (by omega) (by omega)).mp q2⟩, e3.mp q3⟩
      · rintro ⟨⟨q1, q2⟩, q3⟩
        have := h.du_ p hp q1
        exact ⟨⟨e1.mpr q1, (nI_lei (by omega) (by omega)).mpr q2⟩, e3.mpr q3⟩
    exact decide_eq_decide.mpr e
  rw [e]
  exact g
/-- the greatest due of the open promises with some of the item, plus 1; 0 if there is none -/
def mdf (s : St) (i p a : Nat) : Nat := if s.st p = 111 ∧ 0 < s.q p i then (if a < s.du p + 1 then s.du p + 1 else a) else a
theorem md_ge {s : St} {i : Nat} : ∀ {m p : Nat}, p < m → s.st p = 111 → 0 < s.q p i → s.du p + 1 ≤ fo (mdf s i) 0 m
  | 0, p, h, _, _ => absurd h (Nat.not_lt_zero _)
  | m + 1, p, h, h1, h2 => by
    show s.du p + 1 ≤ mdf s i m (fo (mdf s i) 0 m)
    by_cases e : p = m
    · subst e
      generalize fo (mdf s i) 0 p = A
      unfold mdf
      rw [if_pos ⟨h1, h2⟩]
      split <;> omega
    · have := md_ge (m := m) (p := p) (by omega) h1 h2
      generalize fo (mdf s i) 0 m = A at this ⊢
      unfold mdf
      split
      · split <;> omega
      · exact this
theorem md_is {s : St} {i : Nat} : ∀ {m : Nat}, fo (mdf s i) 0 m = 0 ∨ ∃ p, p < m ∧ s.st p = 111 ∧ fo (mdf s i) 0 m = s.du p + 1
  | 0 => Or.inl rfl
  | m + 1 => by
    have ih := md_is (s := s) (i := i) (m := m)
    have e : fo (mdf s i) 0 (m + 1) = mdf s i m (fo (mdf s i) 0 m) := rfl
    rw [e]
    generalize fo (mdf s i) 0 m = A at ih ⊢
    unfold mdf
    split
    · rename_i q
      split
      · exact Or.inr ⟨m, by omega, q.1, rfl⟩
      · rcases ih with ih | ⟨p, hp, h1, h2⟩
        · exact Or.inl ih
        · exact Or.inr ⟨p, by omega, h1, h2⟩
    · rcases ih with ih | ⟨p, hp, h1, h2⟩
      · exact Or.inl ih
      · exact Or.inr ⟨p, by omega, h1, h2⟩
theorem lt1_nI {a b : Nat} (ha : a < 1000000) (hb : b < 1000000) : (nI a - 1 < nI b) ↔ a < b + 1 := by
  rw [Int32.lt_iff_toInt_lt, show (1 : Int32) = nI 1 from rfl, sub_nIt ha (by decide), nI_toInt (by omega)]
  omega
end BK
