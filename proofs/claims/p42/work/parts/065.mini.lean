/-- one op, in any reading: 'fail', a thing that must hold, a branch, going on, a call, an answer, a throw -/
def mm_ex {α : Type} (fail : α) (chk : Bool → α → α) (br : Bool → α → α → α) (nx : Nat → List Value → List Value → mmM → α)
    (cl : Nat → List Value → List Value → Nat → α) (rt : Option Value → α) (th : Nat → α) (k pc : Nat) (op : Instr × Nat × Nat) (L S : List Value) (v : mmM) : α :=
  match op with
  | (.iload a, np, _) => match L[a]? with
    | some (.int x) => nx np L (.int x :: S) v
    | _ => fail
  | (.aload a, np, _) => match L[a]? with
    | some (.ref x) => nx np L (.ref x :: S) v
    | _ => fail
  | (.lload a, np, _) => match L[a]? with
    | some (.long x) => nx np L (.long x :: S) v
    | _ => fail
  | (.istore a, np, _) => match S with
    | .int x :: S => chk (decide (a < L.length) && (mm_ll k || mm_l1 L a)) (nx np (L.set a (.int x)) S v)
    | _ => fail
  | (.astore a, np, _) => match S with
    | .ref x :: S => chk (decide (a < L.length) && (mm_ll k || mm_l1 L a)) (nx np (L.set a (.ref x)) S v)
    | _ => fail
  | (.lstore a, np, _) => match S with
    | .long x :: S => chk (decide (a + 1 < L.length) && (mm_ll k || mm_l1 L a) && !mm_ll k) (nx np ((L.set a (.long x)).set (a + 1) (.retAddr 0)) S v)
    | _ => fail
  | (.iinc a n, np, _) => match L[a]? with
    | some (.int x) => chk (mm_ll k || mm_l1 L a) (nx np (L.set a (.int (x + Int32.ofInt n))) S v)
    | _ => fail
  | (.iconst n, np, _) => nx np L (.int (Int32.ofInt n) :: S) v
  | (.ldc2_w n, np, _) => nx np L (.long (Int64.ofNat n) :: S) v
  | (.iadd, np, _) => match S with
    | .int y :: .int x :: S => nx np L (.int (x + y) :: S) v
    | _ => fail
  | (.isub, np, _) => match S with
    | .int y :: .int x :: S => nx np L (.int (x - y) :: S) v
    | _ => fail
  | (.imul, np, _) => match S with
    | .int y :: .int x :: S => nx np L (.int (x * y) :: S) v
    | _ => fail
  | (.idiv, np, _) => match S with
    | .int y :: .int x :: S => chk (!decide (y = 0)) (nx np L (.int (x / y) :: S) v)
    | _ => fail
  | (.irem, np, _) => match S with
    | .int y :: .int x :: S => chk (!decide (y = 0)) (nx np L (.int (x - x / y * y) :: S) v)
    | _ => fail
  | (.ineg, np, _) => match S with
    | .int x :: S => nx np L (.int (-x) :: S) v
    | _ => fail
  | (.iand, np, _) => match S with
    | .int y :: .int x :: S => nx np L (.int (x &&& y) :: S) v
    | _ => fail
  | (.ishl, np, _) => match S with
    | .int y :: .int x :: S => nx np L (.int (x <<< (y &&& 31)) :: S) v
    | _ => fail
  | (.ishr, np, _) => match S with
    | .int y :: .int x :: S => nx np L (.int (x >>> (y &&& 31)) :: S) v
    | _ => fail
  | (.i2c, np, _) => match S with
    | .int x :: S => nx np L (.int (x.toUInt32 % 65536).toInt32 :: S) v
    | _ => fail
  | (.i2l, np, _) => match S with
    | .int x :: S => nx np L (.long x.toInt64 :: S) v
    | _ => fail
  | (.ladd, np, _) => match S with
    | .long y :: .long x :: S => nx np L (.long (x + y) :: S) v
    | _ => fail
  | (.lmul, np, _) => match S with
    | .long y :: .long x :: S => nx np L (.long (x * y) :: S) v
    | _ => fail
  | (.lcmp, np, _) => match S with
    | .long y :: .long x :: S => nx np L (.int (lg_cmp x y) :: S) v
    | _ => fail
  | (.dup, np, _) => match S with
    | a :: S => chk (decide (a.category = 1)) (nx np L (a :: a :: S) v)
    | _ => fail
  | (.dup2, np, _) => match S with
    | a :: b :: S => chk (decide (a.category = 1) && decide (b.category = 1)) (nx np L (a :: b :: a :: b :: S) v)
    | _ => fail
  | (.goto _, t, _) => nx t L S v
  | (.ifCond c _, np, t) => match S with
    | .int x :: S => match c with
      | .eq => br (decide (x = 0)) (nx t L S v) (nx np L S v)
      | .ne => br (decide (x = 0)) (nx np L S v) (nx t L S v)
      | .lt => br (decide (x < 0)) (nx t L S v) (nx np L S v)
      | .ge => br (decide (0 ≤ x)) (nx t L S v) (nx np L S v)
      | .gt => br (decide (0 < x)) (nx t L S v) (nx np L S v)
      | .le => br (decide (x ≤ 0)) (nx t L S v) (nx np L S v)
    | _ => fail
  | (.if_icmp c _, np, t) => match S with
    | .int y :: .int x :: S => match c with
      | .eq => br (decide (x = y)) (nx t L S v) (nx np L S v)
      | .ne => br (decide (x = y)) (nx np L S v) (nx t L S v)
      | .lt => br (decide (x < y)) (nx t L S v) (nx np L S v)
      | .ge => br (decide (y ≤ x)) (nx t L S v) (nx np L S v)
      | .gt => br (decide (y < x)) (nx t L S v) (nx np L S v)
      | .le => br (decide (x ≤ y)) (nx t L S v) (nx np L S v)
    | _ => fail
  | (.tableswitch d lo hi offs, _, _) => match S with
    | .int x :: S => br (decide (x.toInt < lo) || decide (hi < x.toInt)) (chk (decide (0 ≤ (pc : Int) + d)) (nx ((pc : Int) + d).toNat L S v))
        (match offs[(x.toInt - lo).toNat]? with
          | some off => chk (decide (0 ≤ (pc : Int) + off)) (nx ((pc : Int) + off).toNat L S v)
          | none => fail)
    | _ => fail
  | (.getfield a, np, _) => match S with
    | .ref i :: S => chk (decide (i < mm_NW) && decide ((mm_sh i).1 = 3) && decide ((mm_sh i).2.1 = a / 100)) (match (mm_sh i).2.2.2[a % 100]? with
        | some 0 => nx np L (.int (v i (a % 100)) :: S) v
        | some (r + 1) => nx np L (.ref r :: S) v
        | none => fail)
    | _ => fail
  | (.putfield a, np, _) => match S with
    | .int x :: .ref i :: S => chk (decide (i < mm_NW) && decide ((mm_sh i).1 = 3) && decide ((mm_sh i).2.1 = a / 100)) (match (mm_sh i).2.2.2[a % 100]? with
        | some 0 => nx np L S (mm_up v i (a % 100) x)
        | _ => fail)
    | _ => fail
  | (.iaload, np, _) => match S with
    | .int j :: .ref i :: S => if i = mm_NW then chk (mm_in j (v (mm_NW + 1) 0).toNatClampNeg) (nx np L (.int (v i j.toNatClampNeg) :: S) v)
        else chk (decide (i < mm_NW) && decide ((mm_sh i).1 = 0)) (chk (mm_in j (mm_sh i).2.1) (nx np L (.int (v i j.toNatClampNeg) :: S) v))
    | _ => fail
  | (.caload, np, _) => match S with
    | .int j :: .ref i :: S => chk (decide (i < mm_NW) && decide ((mm_sh i).1 = 1)) (chk (mm_in j (mm_sh i).2.1) (nx np L (.int (v i j.toNatClampNeg) :: S) v))
    | _ => fail
  | (.iastore, np, _) => match S with
    | .int x :: .int j :: .ref i :: S => chk (decide (i < mm_NW) && decide ((mm_sh i).1 = 0)) (chk (mm_in j (mm_sh i).2.1) (nx np L S (mm_up v i j.toNatClampNeg x)))
    | _ => fail
  | (.castore, np, _) => match S with
    | .int x :: .int j :: .ref i :: S => chk (decide (i < mm_NW) && decide ((mm_sh i).1 = 1)) (chk (mm_in j (mm_sh i).2.1) (chk (decide (vp_nar .char x = x)) (nx np L S (mm_up v i j.toNatClampNeg x))))
    | _ => fail
  | (.aaload, np, _) => match S with
    | .int j :: .ref i :: S => chk (decide (i < mm_NW) && decide ((mm_sh i).1 = 2)) (chk (mm_in j (mm_sh i).2.1) (nx np L (.ref ((mm_sh i).2.2.1 + j.toNatClampNeg) :: S) v))
    | _ => fail
  | (.arraylength, np, _) => match S with
    | .ref i :: S => chk (decide (i = mm_NW)) (nx np L (.int (v (mm_NW + 1) 0) :: S) v)
    | _ => fail
  | (.invokevirtual j, np, _) => match S.drop (mm_np j) with
    | .ref i :: rest => chk (decide (i < mm_NW) && decide ((mm_sh i).1 = 3) && decide ((mm_sh i).2.1 = mm_own j) && mm_wt (rest) && mm_a1 (S.take (mm_np j)) && decide (mm_np j ≤ S.length)) (cl j (.ref i :: (S.take (mm_np j)).reverse) rest np)
    | _ => fail
  | (.invokestatic j, np, _) =>
    if j = 1000 then match S with
      | .int y :: .int x :: S => chk (mm_wt S) (nx np L (.int (if x < y then y else x) :: S) v)
      | _ => fail
    else if j = 1001 then match S with
      | .int y :: .int x :: S => chk (mm_wt S) (nx np L (.int (if y < x then y else x) :: S) v)
      | _ => fail
    else if j = 1003 then match S with
      | .int n :: .int dp :: .ref i2 :: .int sp :: .ref i :: S => chk (decide (i < mm_NW) && decide ((mm_sh i).1 = 0) && decide (i2 < mm_NW) && decide ((mm_sh i2).1 = 0) && mm_wt S)
          (chk (decide (0 ≤ sp.toInt) && decide (0 ≤ dp.toInt) && decide (0 ≤ n.toInt)) (chk (decide (sp.toNatClampNeg + n.toNatClampNeg ≤ (mm_sh i).2.1) && decide (dp.toNatClampNeg + n.toNatClampNeg ≤ (mm_sh i2).2.1)) (nx np L S (mm_cp v i sp.toNatClampNeg i2 dp.toNatClampNeg n.toNatClampNeg))))
      | _ => fail
    else chk (decide (mm_np j ≤ S.length) && mm_wt (S.drop (mm_np j)) && mm_a1 (S.take (mm_np j))) (cl j (S.take (mm_np j)).reverse (S.drop (mm_np j)) np)
  | (.ireturn, _, _) => match S, mm_ret k with
    | [.int x], some ty => chk (decide (narrow ty (.int x) = .int x)) (rt (some (.int x)))
    | _, _ => fail
  | (.lreturn, _, _) => match S with
    | [.long x] => rt (some (.long x))
    | _ => fail
  | (.return_, _, _) => match S with
    | [] => rt none
    | _ => fail
  | (.athrow, _, t) => match S with
    | [] => th (mm_tL.getD t (0, 0, 0, 0, 0, "", false)).1
    | _ => fail
  | _ => fail
abbrev mmR : Type := (Nat × List Value × List Value × mmM) ⊕ (Nat × List Value × List Value × Nat) ⊕ (Option Value) ⊕ Nat
def mm_stp (k pc : Nat) (L S : List Value) (v : mmM) : Option mmR := match mm_op k pc with
  | some op => mm_ex none (fun c a => if c then a else none) (fun c a b => if c then a else b) (fun pc L S v => some (.inl (pc, L, S, v))) (fun j a r np => some (.inr (.inl (j, a, r, np)))) (fun r => some (.inr (.inr (.inl r)))) (fun e => some (.inr (.inr (.inr e)))) k pc op L S v
  | none => none
def mm_en (j : Nat) (args : List Value) : List Value := args ++ List.replicate (mm_maxL j - args.length) (.retAddr 0)
abbrev mmO : Type := Option Value ⊕ Nat
def mm_go : Nat → Nat → Nat → List Value → List Value → mmM → Nat → Option (mmO × mmM)
  | 0, _, _, _, _, _, _ => none
  | n + 1, k, pc, L, S, v, c => match mm_stp k pc L S v with
    | none => none
    | some (.inl (pc, L, S, v)) => mm_go n k pc L S v c
    | some (.inr (.inl (j, args, rest, np))) => if c + mm_mc j ≤ mm_mc k then
        match mm_go n j 0 (mm_en j args) [] v 0 with
        | none => none
        | some (.inl r, v) => mm_go n k np L (r.toList ++ rest) v (c + mm_mc j)
        | some (.inr e, v) => if (mm_hh k).isEmpty then some (.inr e, v) else match mm_hd k e with
          | some x => some (.inl (some (.int x)), v)
          | none => none
      else none
    | some (.inr (.inr (.inl r))) => some (.inl r, v)
    | some (.inr (.inr (.inr e))) => if c + 1 ≤ mm_mc k then some (.inr e, v) else none
