/-! THE MINI MACHINE: a memory of ints over cells of a fixed shape; ops by the tables; what a run answers is a function. -/
abbrev mmM : Type := Nat → Nat → Int32
def mm_up (v : mmM) (i j : Nat) (x : Int32) : mmM := fun a b => if a = i ∧ b = j then x else v a b
def mm_cp (v : mmM) (i sp i2 dp n : Nat) : mmM := fun a b => if a = i2 ∧ dp ≤ b ∧ b < dp + n then v i (sp + (b - dp)) else v a b
def mm_dh (y : UInt64) : Int32 := Int32.ofBitVec (BitVec.ofNat 32 (y.toNat / 4294967296))
def mm_dl (y : UInt64) : Int32 := Int32.ofBitVec (BitVec.ofNat 32 (y.toNat % 4294967296))
def mm_dj (a b : Int32) : UInt64 := UInt64.ofNat (a.toBitVec.toNat * 4294967296 + b.toBitVec.toNat)
theorem mm_dj_eq (y : UInt64) : mm_dj (mm_dh y) (mm_dl y) = y := by
  have h : y.toNat < 18446744073709551616 := y.toNat_lt
  have h1 : (mm_dh y).toBitVec.toNat = y.toNat / 4294967296 := by
    show (BitVec.ofNat 32 (y.toNat / 4294967296)).toNat = _
    rw [BitVec.toNat_ofNat]
    omega
  have h2 : (mm_dl y).toBitVec.toNat = y.toNat % 4294967296 := by
    show (BitVec.ofNat 32 (y.toNat % 4294967296)).toNat = _
    rw [BitVec.toNat_ofNat]
    omega
  unfold mm_dj
  rw [h1, h2, Nat.mul_comm, Nat.div_add_mod]
  exact UInt64.ofNat_toNat
def mm_y (k : Nat) : MethodName := mm_yL.getD k yL_law
def mm_b (k : Nat) : ByteArray := mm_bL.getD k cL_law
def mm_n (k : Nat) : Nat × Nat × Nat × Bool × Nat × Nat × Nat := mm_nL.getD k (7, 8, 1, true, 0, 0, 0)
def mm_own (k : Nat) : Nat := (mm_n k).1
def mm_maxL (k : Nat) : Nat := (mm_n k).2.1
def mm_np (k : Nat) : Nat := (mm_n k).2.2.1
def mm_stt (k : Nat) : Bool := (mm_n k).2.2.2.1
def mm_fr (k : Nat) : Nat := (mm_n k).2.2.2.2.1
def mm_lo (k : Nat) : Nat := (mm_n k).2.2.2.2.2.1
def mm_mc (k : Nat) : Nat := (mm_n k).2.2.2.2.2.2
def mm_ret (k : Nat) : Option FieldType := mm_rL.getD k none
def mm_hh (k : Nat) : List (Nat × Nat × Nat × Nat) := mm_hL.getD k []
def mm_ops (k : Nat) : List (Nat × Instr × Nat × Nat) := mm_oL.getD k []
def mm_op (k pc : Nat) : Option (Instr × Nat × Nat) := (mm_ops k).lookup pc
def mm_sh (i : Nat) : Nat × Nat × Nat × List Nat := mm_sL.getD i (9, 0, 0, [])
def mm_in (j : Int32) (n : Nat) : Bool := decide (0 ≤ j.toInt) && decide (j.toInt < (n : Int))
def mm_wt (S : List Value) : Bool := decide ((S.map fun v => v.category).sum ≤ 8)
def mm_a1 (S : List Value) : Bool := S.all fun v => decide (v.category = 1)
/-- the handlers of the law's little methods: [astore; iconst; ireturn], which number -/
def mm_hd (k e : Nat) : Option Int32 := match (mm_hh k).findIdx? (fun h => decide (mm_cn k h = mm_eN e)) with
  | some i => some (Int32.ofNat (i + 1))
  | none => none
where mm_cn (k : Nat) (h : Nat × Nat × Nat × Nat) : String := match h.2.2.2 with
  | 13 => "java/lang/IllegalArgumentException"
  | 15 => "java/lang/IllegalStateException"
  | 21 => "java/lang/IndexOutOfBoundsException"
  | 23 => "java/lang/UnsupportedOperationException"
  | _ => if k < 500 then "java/util/NoSuchElementException" else ""
