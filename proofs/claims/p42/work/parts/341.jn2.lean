/-! an entry written behind the kept rows -/
theorem Jn.put {s : St} {u : Nat → Nat → Nat} {kd l f t q : Nat} (h : Jn s) (hp : ∀ p, p < s.np → s.st p = 112 → s.fe p + s.lc p ≤ s.ne) : Jn ((s.set 10 u).jn kd l f t q) := by
  refine h.of (s' := (s.set 10 u).jn kd l f t q) rfl rfl rfl (fun p hp => h.1 p hp) (fun p hp2 hs => ⟨hs, rfl, rfl, fun k hk => ?_⟩)
  have hs : s.st p = 112 := hs
  have := hp p hp2 hs
  show updN s.jq s.ne q (s.fe p + k) = _
  exact updN_ne (by omega)
