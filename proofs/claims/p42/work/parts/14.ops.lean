/-! rows of the pure level: runs of ops that check nothing symbolic; ops that do -/
def mm_stn : Nat → Nat → Nat → List Value → List Value → mmM → Option (Nat × List Value × List Value × mmM)
  | 0, _, pc, L, S, v => some (pc, L, S, v)
  | n + 1, k, pc, L, S, v => match mm_stp k pc L S v with
    | some (.inl (pc, L, S, v)) => mm_stn n k pc L S v
    | _ => none
theorem mm_in_lt {j : Int32} {n : Nat} (h : mm_in j n = true) : j.toNatClampNeg < n := Nat.not_le.mp fun q => mm_inv h (Or.inr q)
theorem mm_in_nI {i n : Nat} (h : i < n) (hn : n < 2 ^ 31) : mm_in (nI i) n = true := by
  unfold mm_in
  rw [nI_toInt (by omega)]
  simp only [Bool.and_eq_true, decide_eq_true_eq]
  omega
theorem mm_in_of {j : Int32} {n : Nat} (h0 : 0 ≤ j.toInt) (h1 : j.toInt < n) : mm_in j n = true := by
  unfold mm_in
  simp only [Bool.and_eq_true, decide_eq_true_eq]
  exact ⟨h0, h1⟩
section MMP
variable {k pc : Nat} {L S : List Value} {v : mmM} {c : Nat} {K : mmO → mmM → Prop}
theorem e_run (n : Nat) {pc1 : Nat} {L1 S1 : List Value} {v1 : mmM} (h : mm_stn n k pc L S v = some (pc1, L1, S1, v1)) (g : mm_E k pc1 L1 S1 v1 c K) : mm_E k pc L S v c K := by
  induction n generalizing pc L S v with
  | zero =>
    cases h
    exact g
  | succ n ih =>
    unfold mm_stn at h
    split at h
    · rename_i hs
      exact e_nx hs (ih h)
    · cases h
theorem e_if {p : Prop} [Decidable p] {p1 p2 : Nat} {L1 S1 L2 S2 : List Value} {v1 v2 : mmM} (h : mm_stp k pc L S v = if decide p = true then some (.inl (p1, L1, S1, v1)) else some (.inl (p2, L2, S2, v2))) (g1 : p → mm_E k p1 L1 S1 v1 c K) (g2 : ¬ p → mm_E k p2 L2 S2 v2 c K) : mm_E k pc L S v c K := by
  by_cases hp : p
  · rw [if_pos (decide_eq_true hp)] at h
    exact e_nx h (g1 hp)
  · rw [if_neg (by simpa using hp)] at h
    exact e_nx h (g2 hp)
variable {np x i n : Nat} {j : Int32}
theorem e_iald (o : mm_op k pc = some (.iaload, np, x)) (hs : mm_sh i = (0, n, 0, [])) (hi : i < mm_NW) (h : mm_in j n = true) (g : mm_E k np L (.int (v i j.toNatClampNeg) :: S) v c K) : mm_E k pc L (.int j :: .ref i :: S) v c K := by
  refine e_nx ?_ g
  unfold mm_stp
  rw [o]
  simp only [mm_ex, hs]
  rw [if_neg (Nat.ne_of_lt hi), if_pos (by simp; exact hi), if_pos h]
theorem e_cald (o : mm_op k pc = some (.caload, np, x)) (hs : mm_sh i = (1, n, 0, [])) (hi : i < mm_NW) (h : mm_in j n = true) (g : mm_E k np L (.int (v i j.toNatClampNeg) :: S) v c K) : mm_E k pc L (.int j :: .ref i :: S) v c K := by
  refine e_nx ?_ g
  unfold mm_stp
  rw [o]
  simp only [mm_ex, hs]
  rw [if_pos (by simp; exact hi), if_pos h]
theorem e_aald {r : Nat} (o : mm_op k pc = some (.aaload, np, x)) (hs : mm_sh i = (2, n, r, [])) (hi : i < mm_NW) (h : mm_in j n = true) (g : mm_E k np L (.ref (r + j.toNatClampNeg) :: S) v c K) : mm_E k pc L (.int j :: .ref i :: S) v c K := by
  refine e_nx ?_ g
  unfold mm_stp
  rw [o]
  simp only [mm_ex, hs]
  rw [if_pos (by simp; exact hi), if_pos h]
theorem e_iast {y : Int32} (o : mm_op k pc = some (.iastore, np, x)) (hs : mm_sh i = (0, n, 0, [])) (hi : i < mm_NW) (h : mm_in j n = true) (g : mm_E k np L S (mm_up v i j.toNatClampNeg y) c K) : mm_E k pc L (.int y :: .int j :: .ref i :: S) v c K := by
  refine e_nx ?_ g
  unfold mm_stp
  rw [o]
  simp only [mm_ex, hs]
  rw [if_pos (by simp; exact hi), if_pos h]
theorem e_cast {y : Int32} (o : mm_op k pc = some (.castore, np, x)) (hs : mm_sh i = (1, n, 0, [])) (hi : i < mm_NW) (h : mm_in j n = true) (hn : vp_nar .char y = y) (g : mm_E k np L S (mm_up v i j.toNatClampNeg y) c K) : mm_E k pc L (.int y :: .int j :: .ref i :: S) v c K := by
  refine e_nx ?_ g
  unfold mm_stp
  rw [o]
  simp only [mm_ex, hs]
  rw [if_pos (by simp; exact hi), if_pos h, if_pos (by simpa using hn)]
theorem e_idiv {a y : Int32} (o : mm_op k pc = some (.idiv, np, x)) (hy : ¬ y = 0) (g : mm_E k np L (.int (a / y) :: S) v c K) : mm_E k pc L (.int y :: .int a :: S) v c K := by
  refine e_nx ?_ g
  unfold mm_stp
  rw [o]
  simp only [mm_ex]
  rw [if_pos (by simpa using hy)]
theorem e_irem {a y : Int32} (o : mm_op k pc = some (.irem, np, x)) (hy : ¬ y = 0) (g : mm_E k np L (.int (a - a / y * y) :: S) v c K) : mm_E k pc L (.int y :: .int a :: S) v c K := by
  refine e_nx ?_ g
  unfold mm_stp
  rw [o]
  simp only [mm_ex]
  rw [if_pos (by simpa using hy)]
theorem e_iret {y : Int32} {ty : FieldType} (o : mm_op k pc = some (.ireturn, np, x)) (hr : mm_ret k = some ty) (hn : narrow ty (.int y) = .int y) (g : K (.inl (some (.int y))) v) : mm_E k pc L [.int y] v c K := by
  refine e_rt ?_ g
  unfold mm_stp
  rw [o]
  simp only [mm_ex, hr]
  rw [if_pos (by simpa using hn)]
theorem e_copy {i2 n2 : Nat} {m sp dp : Int32} (o : mm_op k pc = some (.invokestatic 1003, np, x)) (hs : mm_sh i = (0, n, 0, [])) (hi : i < mm_NW) (hs2 : mm_sh i2 = (0, n2, 0, [])) (hi2 : i2 < mm_NW) (hw : mm_wt S = true) (h0 : 0 ≤ sp.toInt ∧ 0 ≤ dp.toInt ∧ 0 ≤ m.toInt) (h1 : sp.toNatClampNeg + m.toNatClampNeg ≤ n) (h2 : dp.toNatClampNeg + m.toNatClampNeg ≤ n2)
    (g : mm_E k np L S (mm_cp v i sp.toNatClampNeg i2 dp.toNatClampNeg m.toNatClampNeg) c K) : mm_E k pc L (.int m :: .int dp :: .ref i2 :: .int sp :: .ref i :: S) v c K := by
  refine e_nx ?_ g
  unfold mm_stp
  rw [o]
  simp only [mm_ex, hs, hs2]
  rw [if_neg (by decide), if_neg (by decide), if_pos trivial, if_pos (by simp only [Bool.and_eq_true, decide_eq_true_eq]; exact ⟨⟨⟨⟨hi, trivial⟩, hi2⟩, trivial⟩, hw⟩), if_pos (by simp only [Bool.and_eq_true, decide_eq_true_eq]; exact ⟨⟨h0.1, h0.2.1⟩, h0.2.2⟩), if_pos (by simp only [Bool.and_eq_true, decide_eq_true_eq]; exact ⟨h1, h2⟩)]
end MMP
/-- rows of the arrays of arrays -/
theorem mm_rows {P : Nat → Prop} [DecidablePred P] {n : Nat} (h : (List.range n).all (fun x => decide (P x)) = true) {x : Nat} (hx : x < n) : P x := of_decide_eq_true (List.all_eq_true.mp h x (List.mem_range.mpr hx))
