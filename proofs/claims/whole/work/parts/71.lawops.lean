/-! the law's own ops, one by one -/
def lwC (l : List (Nat × Instr × Nat × Nat)) : Bool := l.all (fun q => decide (mm_op 198 q.1 = some q.2))
theorem lwC_at {l : List (Nat × Instr × Nat × Nat)} (h : lwC l = true) {i pc : Nat} {op : Instr × Nat × Nat} (hl : l[i]? = some (pc, op)) : mm_op 198 pc = some op :=
  of_decide_eq_true (List.all_eq_true.mp h (pc, op) (List.mem_of_getElem? hl))
section LO
variable {k pc np x : Nat} {L S : List Value} {v : mmM} {c : Nat} {K : mmO → mmM → Prop}
theorem e_al {a r : Nat} (o : mm_op k pc = some (.aload a, np, x)) (hL : L[a]? = some (.ref r)) (g : mm_E k np L (.ref r :: S) v c K) : mm_E k pc L S v c K := by
  refine e_nx ?_ g
  unfold mm_stp
  rw [o]
  simp only [mm_ex, hL]
theorem e_il {a : Nat} {y : Int32} (o : mm_op k pc = some (.iload a, np, x)) (hL : L[a]? = some (.int y)) (g : mm_E k np L (.int y :: S) v c K) : mm_E k pc L S v c K := by
  refine e_nx ?_ g
  unfold mm_stp
  rw [o]
  simp only [mm_ex, hL]
theorem e_fl {a : Nat} {y : UInt32} (o : mm_op k pc = some (.fload a, np, x)) (hL : L[a]? = some (.float y)) (g : mm_E k np L (.float y :: S) v c K) : mm_E k pc L S v c K := by
  refine e_nx ?_ g
  unfold mm_stp
  rw [o]
  simp only [mm_ex, hL]
theorem e_ist {a : Nat} {y : Int32} (o : mm_op k pc = some (.istore a, np, x)) (hL : decide (a < L.length) = true) (g : mm_E k np (L.set a (.int y)) S v c K) : mm_E k pc L (.int y :: S) v c K := by
  refine e_nx ?_ g
  unfold mm_stp
  rw [o]
  simp only [mm_ex]
  rw [if_pos hL]
theorem e_fst {a : Nat} {y : UInt32} (o : mm_op k pc = some (.fstore a, np, x)) (hL : decide (a < L.length) = true) (g : mm_E k np (L.set a (.float y)) S v c K) : mm_E k pc L (.float y :: S) v c K := by
  refine e_nx ?_ g
  unfold mm_stp
  rw [o]
  simp only [mm_ex]
  rw [if_pos hL]
theorem e_ic {a : Int} (o : mm_op k pc = some (.iconst a, np, x)) (g : mm_E k np L (.int (Int32.ofInt a) :: S) v c K) : mm_E k pc L S v c K := by
  refine e_nx ?_ g
  unfold mm_stp
  rw [o]
  rfl
theorem e_iinc {a : Nat} {d : Int} {y : Int32} (o : mm_op k pc = some (.iinc a d, np, x)) (hL : L[a]? = some (.int y)) (g : mm_E k np (L.set a (.int (y + Int32.ofInt d))) S v c K) : mm_E k pc L S v c K := by
  refine e_nx ?_ g
  unfold mm_stp
  rw [o]
  simp only [mm_ex, hL]
theorem e_ia {a y : Int32} (o : mm_op k pc = some (.iadd, np, x)) (g : mm_E k np L (.int (a + y) :: S) v c K) : mm_E k pc L (.int y :: .int a :: S) v c K := by
  refine e_nx ?_ g
  unfold mm_stp
  rw [o]
  rfl
theorem e_is {a y : Int32} (o : mm_op k pc = some (.isub, np, x)) (g : mm_E k np L (.int (a - y) :: S) v c K) : mm_E k pc L (.int y :: .int a :: S) v c K := by
  refine e_nx ?_ g
  unfold mm_stp
  rw [o]
  rfl
theorem e_iand {a y : Int32} (o : mm_op k pc = some (.iand, np, x)) (g : mm_E k np L (.int (a &&& y) :: S) v c K) : mm_E k pc L (.int y :: .int a :: S) v c K := by
  refine e_nx ?_ g
  unfold mm_stp
  rw [o]
  rfl
theorem e_i2c {y : Int32} (o : mm_op k pc = some (.i2c, np, x)) (g : mm_E k np L (.int (y.toUInt32 % 65536).toInt32 :: S) v c K) : mm_E k pc L (.int y :: S) v c K := by
  refine e_nx ?_ g
  unfold mm_stp
  rw [o]
  rfl
theorem e_i2l {y : Int32} (o : mm_op k pc = some (.i2l, np, x)) (g : mm_E k np L (.long y.toInt64 :: S) v c K) : mm_E k pc L (.int y :: S) v c K := by
  refine e_nx ?_ g
  unfold mm_stp
  rw [o]
  rfl
theorem e_lcmp {a y : Int64} (o : mm_op k pc = some (.lcmp, np, x)) (g : mm_E k np L (.int (lg_cmp a y) :: S) v c K) : mm_E k pc L (.long y :: .long a :: S) v c K := by
  refine e_nx ?_ g
  unfold mm_stp
  rw [o]
  rfl
theorem e_dcmp {a y : UInt64} {m : CmpOp} (o : mm_op k pc = some (.dcmp m, np, x)) (g : mm_E k np L (.int (Op.cmpValue (FP.dcmp a y) m) :: S) v c K) : mm_E k pc L (.double y :: .double a :: S) v c K := by
  refine e_nx ?_ g
  unfold mm_stp
  rw [o]
  rfl
theorem e_alen (o : mm_op k pc = some (.arraylength, np, x)) (g : mm_E k np L (.int (v 245 0) :: S) v c K) : mm_E k pc L (.ref 244 :: S) v c K := by
  refine e_nx ?_ g
  unfold mm_stp
  rw [o]
  rfl
theorem e_sald {j : Int32} (o : mm_op k pc = some (.iaload, np, x)) (h : mm_in j (v 245 0).toNatClampNeg = true) (g : mm_E k np L (.int (v 244 j.toNatClampNeg) :: S) v c K) : mm_E k pc L (.int j :: .ref 244 :: S) v c K := by
  refine e_nx ?_ g
  unfold mm_stp
  rw [o]
  simp only [mm_ex]
  rw [if_pos (by decide), if_pos h]
theorem e_lald {j : Int32} (o : mm_op k pc = some (.laload, np, x)) (h : mm_in j 1 = true) (g : mm_E k np L (.long (v 242 j.toNatClampNeg).toInt64 :: S) v c K) : mm_E k pc L (.int j :: .ref 242 :: S) v c K := by
  refine e_nx ?_ g
  unfold mm_stp
  rw [o]
  simp only [mm_ex]
  rw [if_pos (by decide), show (mm_sh 242).2.1 = 1 from rfl, if_pos h]
theorem e_go {a : Int} (o : mm_op k pc = some (.goto a, np, x)) (g : mm_E k np L S v c K) : mm_E k pc L S v c K := by
  refine e_nx ?_ g
  unfold mm_stp
  rw [o]
  rfl
theorem e_ife {a : Int} {y : Int32} (o : mm_op k pc = some (.ifCond .eq a, np, x)) (g1 : y = 0 → mm_E k x L S v c K) (g2 : ¬ y = 0 → mm_E k np L S v c K) : mm_E k pc L (.int y :: S) v c K := by
  refine e_if (p := y = 0) ?_ g1 g2
  unfold mm_stp
  rw [o]
  rfl
theorem e_ifn {a : Int} {y : Int32} (o : mm_op k pc = some (.ifCond .ne a, np, x)) (g1 : y = 0 → mm_E k np L S v c K) (g2 : ¬ y = 0 → mm_E k x L S v c K) : mm_E k pc L (.int y :: S) v c K := by
  refine e_if (p := y = 0) ?_ g1 g2
  unfold mm_stp
  rw [o]
  rfl
theorem e_icq {a : Int} {y z : Int32} (o : mm_op k pc = some (.if_icmp .eq a, np, x)) (g1 : z = y → mm_E k x L S v c K) (g2 : ¬ z = y → mm_E k np L S v c K) : mm_E k pc L (.int y :: .int z :: S) v c K := by
  refine e_if (p := z = y) ?_ g1 g2
  unfold mm_stp
  rw [o]
  rfl
theorem e_icg {a : Int} {y z : Int32} (o : mm_op k pc = some (.if_icmp .gt a, np, x)) (g1 : y < z → mm_E k x L S v c K) (g2 : ¬ y < z → mm_E k np L S v c K) : mm_E k pc L (.int y :: .int z :: S) v c K := by
  refine e_if (p := y < z) ?_ g1 g2
  unfold mm_stp
  rw [o]
  rfl
theorem e_sw {d lo hi off : Int} {offs : Array Int} {y : Int32} {p : Nat} (o : mm_op k pc = some (.tableswitch d lo hi offs, np, x)) (h : (decide (y.toInt < lo) || decide (hi < y.toInt)) = false) (h2 : offs[(y.toInt - lo).toNat]? = some off) (h3 : decide (0 ≤ (pc : Int) + off) = true) (hp : ((pc : Int) + off).toNat = p) (g : mm_E k p L S v c K) : mm_E k pc L (.int y :: S) v c K := by
  subst hp
  refine e_nx ?_ g
  unfold mm_stp
  rw [o]
  simp only [mm_ex]
  rw [h, h2]
  simp only
  rw [if_neg (by decide), if_pos h3]
theorem e_swd {d lo hi : Int} {offs : Array Int} {y : Int32} {p : Nat} (o : mm_op k pc = some (.tableswitch d lo hi offs, np, x)) (h : (decide (y.toInt < lo) || decide (hi < y.toInt)) = true) (h3 : decide (0 ≤ (pc : Int) + d) = true) (hp : ((pc : Int) + d).toNat = p) (g : mm_E k p L S v c K) : mm_E k pc L (.int y :: S) v c K := by
  subst hp
  refine e_nx ?_ g
  unfold mm_stp
  rw [o]
  simp only [mm_ex]
  rw [h]
  simp only
  rw [if_pos trivial, if_pos h3]
theorem e_call {j : Nat} {ar rest : List Value} {op : Instr × Nat × Nat} (o : mm_op k pc = some op)
    (h : mm_ex none (fun c a => if c then a else none) (fun c a b => if c then a else b) (fun pc L S v => some (.inl (pc, L, S, v))) (fun j a r np => some (.inr (.inl (j, a, r, np)))) (fun r => some (.inr (.inr (.inl r)))) (fun e => some (.inr (.inr (.inr e)))) k pc op L S v = (some (.inr (.inl (j, ar, rest, np))) : Option mmR))
    (hc : c + mm_mc j ≤ mm_mc k) (g : mm_M j ar v (mm_Kc k np L rest (c + mm_mc j) K)) : mm_E k pc L S v c K := by
  refine e_cl ?_ hc g
  unfold mm_stp
  rw [o]
  exact h
end LO
/-! an int of the script; the law's comparison -/
def LL (iv : Int32) (l6 l7 : Value) : List Value := [.ref 244, .ref 0, .ref 81, .ref 242, .ref 243, .int iv, l6, l7]
def rdC (q : Nat) (a : Int) : Bool := lwC [(q, .aload 0, q + 1, 0), (q + 1, .iload 5, q + 3, 1), (q + 3, .iconst a, q + 4, 0), (q + 4, .iadd, q + 5, 0), (q + 5, .iaload, q + 6, 0)]
abbrev sc (v : mmM) (iv : Int32) (a : Int) : Int32 := v 244 (iv + Int32.ofInt a).toNatClampNeg
def tlC (q : Nat) : Bool := lwC [(q, .aload 2, q + 1, 0), (q + 1, .invokevirtual 100, q + 4, 143), (q + 4, .iload 6, q + 6, 1), (q + 6, .if_icmp .eq 0, q + 9, q + 11), (q + 11, .iload 6, q + 13, 1), (q + 13, .ifCond .ne 0, q + 16, q + 28), (q + 16, .aload 3, q + 17, 0), (q + 17, .iconst 0, q + 18, 0), (q + 18, .laload, q + 19, 0), (q + 19, .iload 7, q + 21, 1), (q + 21, .i2l, q + 22, 0), (q + 22, .lcmp, q + 23, 0), (q + 23, .ifCond .eq 0, q + 26, q + 28), (q + 28, .goto 0, 2520, 0)]
section LT
variable {iv : Int32} {l6 l7 : Value} {S : List Value} {v : mmM} {c : Nat} {K : mmO → mmM → Prop}
theorem e_rd {q : Nat} {a : Int} (h : rdC q a = true) (hin : mm_in (iv + Int32.ofInt a) (v 245 0).toNatClampNeg = true) (g : mm_E 198 (q + 6) (LL iv l6 l7) (.int (sc v iv a) :: S) v c K) : mm_E 198 q (LL iv l6 l7) S v c K := by
  refine e_al (lwC_at h (i := 0) rfl) rfl (e_il (lwC_at h (i := 1) rfl) rfl (e_ic (lwC_at h (i := 2) rfl) (e_ia (lwC_at h (i := 3) rfl) (e_sald (lwC_at h (i := 4) rfl) hin g))))
theorem lg_cmp_same (a : Int64) : lg_cmp a a = 0 := (lg_cmp_eq a a).mpr rfl
theorem e_tail {q t : Nat} {y : Int32} (h : tlC q = true) (ht : t ≤ 5) (h26 : v 81 26 = nI t) (hy : t = 0 → v 242 0 = y) (hc : c ≤ 601024) (g : mm_E 198 2520 (LL iv (.int (nI t)) (.int y)) [] v c K) : mm_E 198 q (LL iv (.int (nI t)) (.int y)) [] v c K := by
  have end_ : mm_E 198 (q + 28) (LL iv (.int (nI t)) (.int y)) [] v c K := e_go (lwC_at h (i := 13) rfl) g
  refine e_al (lwC_at h (i := 0) rfl) rfl (e_call (j := kX6_thrown) (ar := [.ref 81]) (rest := []) (lwC_at h (i := 1) rfl) rfl hc (bX6_thrown_0 (mm_Kr c rfl ?_)))
  rw [h26]
  refine e_il (lwC_at h (i := 2) rfl) rfl (e_icq (lwC_at h (i := 3) rfl) (fun _ => ?_) (fun z => absurd rfl z))
  refine e_il (lwC_at h (i := 4) rfl) rfl (e_ifn (lwC_at h (i := 5) rfl) (fun z => ?_) (fun _ => end_))
  have z : t = 0 := (nI_eq (b := 0) (by omega) (by omega)).mp z
  refine e_al (lwC_at h (i := 6) rfl) rfl (e_ic (lwC_at h (i := 7) rfl) (e_lald (lwC_at h (i := 8) rfl) rfl (e_il (lwC_at h (i := 9) rfl) rfl (e_i2l (lwC_at h (i := 10) rfl) (e_lcmp (lwC_at h (i := 11) rfl) ?_)))))
  have e0 : v 242 (Int32.ofInt 0).toNatClampNeg = y := hy z
  rw [e0, lg_cmp_same]
  exact e_ife (lwC_at h (i := 12) rfl) (fun _ => end_) (fun z => absurd rfl z)
end LT
