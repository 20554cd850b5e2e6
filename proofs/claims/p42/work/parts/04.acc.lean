/-! THE MINI MACHINE: a memory of ints over cells of a fixed shape; ops by the tables; what a run answers is a function. -/
abbrev mmM : Type := Nat → Nat → Int32
def mm_up (v : mmM) (i j : Nat) (x : Int32) : mmM := fun a b => if a = i ∧ b = j then x else v a b
def mm_cp (v : mmM) (i sp i2 dp n : Nat) : mmM := fun a b => if a = i2 ∧ dp ≤ b ∧ b < dp + n then v i (sp + (b - dp)) else v a b
def mm_y (k : Nat) : MethodName := mm_yL.getD k yL_law
def mm_b (k : Nat) : ByteArray := mm_bL.getD k cL_law
def mm_n (k : Nat) : Nat × Nat × Nat × Bool × Nat × Nat × Nat := mm_nL.getD k (7, 8, 1, true, 0, 0, 0)
def mm_own (k : Nat) : Nat := (mm_n k).1
def mm_maxL (k : Nat) : Nat := (mm_n k).2.1
def mm_np (k : Nat) : Nat := (mm_n k).2.2.1
def mm_stt (k : Nat) : Bool := (mm_n k).2.2.2.1
def mm_fr (k : Nat) : Nat := (mm_n k).2.2.2.2.1
def mm_lo (k : Nat) : Nat := (mm_n k).2.2.2.2.2.1
def mm_mc (k : Nat) : Nat := (mm_n k).2.2.2.2.2.2
def mm_ret (k : Nat) : Option FieldType := mm_rL.getD k none
def mm_hh (k : Nat) : List (Nat × Nat × Nat × Nat) := mm_hL.getD k []
def mm_ops (k : Nat) : List (Nat × Instr × Nat × Nat) := mm_oL.getD k []
def mm_op (k pc : Nat) : Option (Instr × Nat × Nat) := (mm_ops k).lookup pc
def mm_sh (i : Nat) : Nat × Nat × Nat × List Nat := mm_sL.getD i (9, 0, 0, [])
def mm_in (j : Int32) (n : Nat) : Bool := decide (0 ≤ j.toInt) && decide (j.toInt < (n : Int))
def mm_wt (S : List Value) : Bool := decide ((S.map fun v => v.category).sum ≤ 8)
def mm_a1 (S : List Value) : Bool := S.all fun v => decide (v.category = 1)
/-- no long ends in the word ahead of a local -/
def mm_l1 (L : List Value) (a : Nat) : Bool := match a with
  | 0 => true
  | b + 1 => match L[b]? with
    | some x => decide (x.category = 1)
    | none => true
/-- methods that hold no long in their locals -/
def mm_ll (k : Nat) : Bool := !(decide (k = 121) || decide (k = 123))
def mm_lc (k : Nat) (L : List Value) : Prop := mm_ll k = true → ∀ x ∈ L, x.category = 1
theorem mm_l1_of {k a : Nat} {L : List Value} (h : (mm_ll k || mm_l1 L a) = true) (hc : mm_lc k L) : mm_l1 L a = true := by
  rw [Bool.or_eq_true] at h
  rcases h with h0 | h
  · unfold mm_l1
    split
    · rfl
    · split
      · rename_i x hx
        exact decide_eq_true (hc h0 x (List.mem_of_getElem? hx))
      · rfl
  · exact h
def mm_ans (k : Nat) : List Int := mm_aL.getD k []
/-- the handlers of the law's little methods: [astore; a number; ireturn], which number -/
def mm_hd (k e : Nat) : Option Int32 := match (mm_hh k).findIdx? (fun h => decide (mm_cn k h = mm_eN e)) with
  | some i => some (Int32.ofInt ((mm_ans k).getD i 0))
  | none => none
where mm_cn (k : Nat) (h : Nat × Nat × Nat × Nat) : String := match h.2.2.2 with
  | 13 => "java/lang/IllegalArgumentException"
  | 15 => "java/lang/IllegalStateException"
  | 21 => "java/lang/IndexOutOfBoundsException"
  | 23 => "java/lang/UnsupportedOperationException"
  | _ => if k < 500 then "java/util/NoSuchElementException" else ""
