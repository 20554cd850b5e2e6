/-! the script; a switch -/
section LO
variable {k pc np x : Nat} {L S : List Value} {v : mmM} {c : Nat} {K : mmO → mmM → Prop}
theorem e_sald {j : Int32} (o : mm_op k pc = some (.iaload, np, x)) (h : mm_in j (v 82 0).toNatClampNeg = true) (g : mm_E k np L (.int (v 81 j.toNatClampNeg) :: S) v c K) : mm_E k pc L (.int j :: .ref 81 :: S) v c K := by
  refine e_nx ?_ g
  unfold mm_stp
  rw [o]
  simp only [mm_ex]
  rw [if_pos (by decide), if_pos h]
theorem e_sw {d lo hi off : Int} {offs : Array Int} {y : Int32} {p : Nat} (o : mm_op k pc = some (.tableswitch d lo hi offs, np, x)) (h : (decide (y.toInt < lo) || decide (hi < y.toInt)) = false) (h2 : offs[(y.toInt - lo).toNat]? = some off) (h3 : decide (0 ≤ (pc : Int) + off) = true) (hp : ((pc : Int) + off).toNat = p) (g : mm_E k p L S v c K) : mm_E k pc L (.int y :: S) v c K := by
  subst hp
  refine e_nx ?_ g
  unfold mm_stp
  rw [o]
  simp only [mm_ex]
  rw [h, h2]
  simp only
  rw [if_neg (by decide), if_pos h3]
theorem e_swd {d lo hi : Int} {offs : Array Int} {y : Int32} {p : Nat} (o : mm_op k pc = some (.tableswitch d lo hi offs, np, x)) (h : (decide (y.toInt < lo) || decide (hi < y.toInt)) = true) (h3 : decide (0 ≤ (pc : Int) + d) = true) (hp : ((pc : Int) + d).toNat = p) (g : mm_E k p L S v c K) : mm_E k pc L (.int y :: S) v c K := by
  subst hp
  refine e_nx ?_ g
  unfold mm_stp
  rw [o]
  simp only [mm_ex]
  rw [h]
  simp only
  rw [if_pos trivial, if_pos h3]
end LO
