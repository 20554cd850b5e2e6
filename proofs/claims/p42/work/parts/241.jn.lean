/-! what else the runs of this law keep: letters of statuses, whole promises, kept rows -/
def Jn (s : St) : Prop := (∀ p, p < s.np → s.st p ≠ 45) ∧ (∀ p i, p < s.np → s.ni ≤ i → i < 6 → s.q p i = 0) ∧ (∀ p, p < s.np → 1 ≤ sm (s.q p) 6) ∧ (∀ p, p < s.np → s.st p = 112 → (∀ k, k < s.lc p → 1 ≤ s.jq (s.fe p + k)) ∧ sm (fun k => s.jq (s.fe p + k)) (s.lc p) = sm (s.q p) 6)
def XJ (s s' : St) : Prop := s'.ni = s.ni ∧ (Jn s → Jn s')
def XP (x : Int32) (s s' : St) : Prop := XJ s s' ∧ ∃ p, x = nI p ∧ p < s'.np ∧ s'.st p = 112
theorem nI_nn {a : Nat} (h : a < 1000000) : 0 ≤ (nI a).toInt := by rw [nI_toInt (by omega)]; omega
theorem Jn.of {s s' : St} (h : Jn s) (h1 : s'.np = s.np) (h2 : s'.ni = s.ni) (h3 : s'.q = s.q) (hst : ∀ p, p < s.np → s'.st p ≠ 45) (hpk : ∀ p, p < s.np → s'.st p = 112 → s.st p = 112 ∧ s'.lc p = s.lc p ∧ s'.fe p = s.fe p ∧ ∀ k, k < s.lc p → s'.jq (s.fe p + k) = s.jq (s.fe p + k)) : Jn s' := by
  refine ⟨fun p hp => hst p (h1 ▸ hp), fun p i hp hi h6 => ?_, fun p hp => ?_, fun p hp hs => ?_⟩
  · rw [h3]
    exact h.2.1 p i (h1 ▸ hp) (h2 ▸ hi) h6
  · rw [h3]
    exact h.2.2.1 p (h1 ▸ hp)
  · obtain ⟨a, b, c, d⟩ := hpk p (h1 ▸ hp) hs
    obtain ⟨x, y⟩ := h.2.2.2 p (h1 ▸ hp) a
    rw [b, c, h3]
    refine ⟨fun k hk => by rw [d k hk]; exact x k hk, ?_⟩
    rw [sm_cong (fun k hk => d k hk)]
    exact y
