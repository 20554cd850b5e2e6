/-! the state at the start: nothing -/
def st0 : St := fun k _ _ => if k = 19 ∨ k = 20 then 1 else 0
theorem sm_z0 (n : Nat) : sm (fun _ => 0) n = 0 := by
  induction n with
  | zero => rfl
  | succ n ih => show sm (fun _ => 0) n + 0 = 0; rw [ih]
theorem st0_lu (l : Nat) : st0.lu l = 0 := sm_z0 40
theorem st0_bl (b : Nat) : st0.bl b = 0 := sm_z0 24
theorem st0_n {i : Nat} {P : Prop} (h : i < 0) : P := absurd h (Nat.not_lt_zero i)
theorem inv0 : Inv 0 st0 := by
  refine ⟨⟨Nat.zero_le _, Nat.zero_le _, Nat.zero_le _, Nat.zero_le _, Nat.zero_le _, Nat.zero_le _, fun i h => st0_n h, fun _ _ => Nat.zero_le _, fun _ => rfl, fun l h => st0_n h, fun l h => st0_n h, fun k h => st0_n h, fun f => rfl, fun j k _ h => st0_n h, fun _ _ _ => rfl, fun b _ => ?_, fun _ => Nat.zero_le _, fun p h _ => st0_n h, fun p h => st0_n h, fun _ => Nat.zero_le _, fun e h => st0_n h, fun e h => st0_n h, fun e h => st0_n h, fun e h => st0_n h, fun e h => st0_n h, fun _ => Nat.zero_le _, fun l b h _ => st0_n h, fun p h _ => st0_n h⟩, fun _ _ _ _ => Nat.zero_le _⟩
  rw [st0_bl]
  exact Nat.zero_le _
section I0
variable {xs : Nat → Int32} {Ls : Nat}
theorem v0_r {i : Nat} (h : i < 81) : v0 xs Ls i = fun _ => nI 0 := by
  funext j
  unfold v0
  rw [if_neg (by omega), if_neg (by omega)]
  rfl
theorem v0_r1 {i : Nat} (h : i < 81) : v0 xs Ls i = fun _ => nI 1 - 1 := by
  rw [v0_r h]
  funext j
  decide
theorem v0_a {i j : Nat} (h : i < 81) : v0 xs Ls i j = nI 0 := by rw [v0_r h]
theorem repC0 : RepC (v0 xs Ls) st0 := by
  refine ⟨v0_a (by decide), v0_a (by decide), v0_a (by decide), v0_a (by decide), v0_a (by decide), v0_r (by decide), fun i h => v0_r (by omega), v0_r (by decide), v0_r (by decide), v0_r (by decide), fun i h => v0_r (by omega), ?_, ?_, v0_r (by decide), v0_r (by decide), v0_r (by decide), fun p h i _ => v0_a (by omega), v0_r (by decide), v0_r (by decide), v0_r (by decide), v0_r (by decide), v0_r1 (by decide), v0_r1 (by decide), v0_r (by decide), v0_r (by decide)⟩
  · rw [v0_r (by decide)]
    funext l
    rw [st0_lu]
  · rw [v0_r (by decide)]
    funext l
    rw [st0_bl]
end I0
theorem jn0 : Jn st0 := ⟨fun p h => st0_n h, fun p i h => st0_n h, fun p h => st0_n h, fun p h => st0_n h⟩
