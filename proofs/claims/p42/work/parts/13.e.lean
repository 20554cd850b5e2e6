/-! the pure level: from here the mini machine comes to an end of which K holds -/
def mm_E (k pc : Nat) (L S : List Value) (v : mmM) (c : Nat) (K : mmO → mmM → Prop) : Prop := ∃ n o v', mm_go n k pc L S v c = some (o, v') ∧ K o v'
def mm_M (j : Nat) (ar : List Value) (v : mmM) (K : mmO → mmM → Prop) : Prop := mm_E j 0 (mm_en j ar) [] v 0 K
def mm_Kc (k np : Nat) (L rest : List Value) (c : Nat) (K : mmO → mmM → Prop) : mmO → mmM → Prop := fun o v => match o with
  | .inl r => mm_E k np L (r.toList ++ rest) v c K
  | .inr e => if (mm_hh k).isEmpty then K (.inr e) v else match mm_hd k e with
    | some x => K (.inl (some (.int x))) v
    | none => False
theorem mm_go_up : ∀ (n m k pc : Nat) (L S : List Value) (v : mmM) (c : Nat) (q : mmO × mmM), mm_go n k pc L S v c = some q → mm_go (n + m) k pc L S v c = some q := by
  intro n
  induction n with
  | zero => intro m k pc L S v c q h; cases h
  | succ n ih =>
    intro m k pc L S v c q h
    rw [Nat.succ_add]
    unfold mm_go at h ⊢
    cases hst : mm_stp k pc L S v with
    | none => rw [hst] at h; cases h
    | some r =>
      rw [hst] at h
      match r, h with
      | .inl (pc1, L1, S1, v1), h => exact ih m _ _ _ _ _ _ _ h
      | .inr (.inl (j, ar, rest, np)), h =>
        simp only at h ⊢
        split at h
        · rename_i hc
          rw [if_pos hc]
          cases hj : mm_go n j 0 (mm_en j ar) [] v 0 with
          | none => rw [hj] at h; cases h
          | some q1 =>
            obtain ⟨o1, v1⟩ := q1
            rw [hj] at h
            rw [ih m _ _ _ _ _ _ _ hj]
            cases o1 with
            | inl r => exact ih m _ _ _ _ _ _ _ h
            | inr e => exact h
        · cases h
      | .inr (.inr (.inl r)), h => exact h
      | .inr (.inr (.inr e)), h => exact h
section MME
variable {k pc : Nat} {L S : List Value} {v : mmM} {c : Nat} {K : mmO → mmM → Prop}
theorem e_nx {pc1 : Nat} {L1 S1 : List Value} {v1 : mmM} (h : mm_stp k pc L S v = some (.inl (pc1, L1, S1, v1))) (g : mm_E k pc1 L1 S1 v1 c K) : mm_E k pc L S v c K := by
  obtain ⟨n, o, v', h1, h2⟩ := g
  refine ⟨n + 1, o, v', ?_, h2⟩
  unfold mm_go
  rw [h]
  exact h1
theorem e_cl {j np : Nat} {ar rest : List Value} (h : mm_stp k pc L S v = some (.inr (.inl (j, ar, rest, np)))) (hc : c + mm_mc j ≤ mm_mc k) (g : mm_M j ar v (mm_Kc k np L rest (c + mm_mc j) K)) : mm_E k pc L S v c K := by
  obtain ⟨n, o, v1, h1, h2⟩ := g
  cases o with
  | inl r =>
    obtain ⟨n2, o2, v2, h3, h4⟩ := h2
    refine ⟨n + n2 + 1, o2, v2, ?_, h4⟩
    unfold mm_go
    rw [h]
    simp only
    rw [if_pos hc, mm_go_up n n2 _ _ _ _ _ _ _ h1]
    simp only
    rw [Nat.add_comm n n2]
    exact mm_go_up n2 n _ _ _ _ _ _ _ h3
  | inr e =>
    have h2 : if (mm_hh k).isEmpty then K (.inr e) v1 else match mm_hd k e with
      | some x => K (.inl (some (.int x))) v1
      | none => False := h2
    by_cases hem : (mm_hh k).isEmpty = true
    · rw [if_pos hem] at h2
      refine ⟨n + 1, .inr e, v1, ?_, h2⟩
      unfold mm_go
      rw [h]
      simp only
      rw [if_pos hc, h1]
      simp only
      rw [if_pos hem]
    · rw [if_neg hem] at h2
      cases hd : mm_hd k e with
      | none => rw [hd] at h2; exact h2.elim
      | some x =>
        rw [hd] at h2
        refine ⟨n + 1, .inl (some (.int x)), v1, ?_, h2⟩
        unfold mm_go
        rw [h]
        simp only
        rw [if_pos hc, h1]
        simp only
        rw [if_neg hem, hd]
theorem e_rt {r : Option Value} (h : mm_stp k pc L S v = some (.inr (.inr (.inl r)))) (g : K (.inl r) v) : mm_E k pc L S v c K := by
  refine ⟨1, .inl r, v, ?_, g⟩
  unfold mm_go
  rw [h]
theorem e_th {e : Nat} (h : mm_stp k pc L S v = some (.inr (.inr (.inr e)))) (hc : c + 1 ≤ mm_mc k) (g : K (.inr e) v) : mm_E k pc L S v c K := by
  refine ⟨1, .inr e, v, ?_, g⟩
  unfold mm_go
  rw [h]
  simp only
  rw [if_pos hc]
theorem mm_E.mono {K2 : mmO → mmM → Prop} (h : mm_E k pc L S v c K) (hk : ∀ o v, K o v → K2 o v) : mm_E k pc L S v c K2 := by
  obtain ⟨n, o, v', h1, h2⟩ := h
  exact ⟨n, o, v', h1, hk _ _ h2⟩
end MME
theorem mm_M.mono {j : Nat} {ar : List Value} {v : mmM} {K K2 : mmO → mmM → Prop} (h : mm_M j ar v K) (hk : ∀ o v, K o v → K2 o v) : mm_M j ar v K2 := mm_E.mono h hk
