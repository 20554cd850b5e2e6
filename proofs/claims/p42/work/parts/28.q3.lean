/-! nextLot, onHand, expired, onHandOn -/
theorem nI_m1 {a : Nat} (h : a < 1000000) : nI a ≠ -1 := fun e => nI_pos (n := a) (by omega) (by rw [e]; decide)
section Q3
variable {n : Nat} {s : St} {x y : Int32}
end Q3
