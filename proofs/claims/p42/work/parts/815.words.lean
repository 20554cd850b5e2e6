/-! the words of array classes -/
theorem kw_ac {l : Launch} {s0 : State} {a0 : Array Value} {D : va_G} {cs : Nat → ClassId} {b Ls : Nat} {xs : Nat → Int32} {s : State} {args : Array Value} (B : mm_Bs l s0 a0 D cs b Ls xs) (hW : s0.WarmedH s.vm) {ty : FieldType} (h : Cond.arrayClass ty ∈ lw_tbl) : (Cond.arrayClass ty).before args s = true := by
  have h1 : (Cond.arrayClass ty).before a0 (s0.setVm s.vm) = true := Cond.before_shiftedOver (State.Shifted.of_warmed hW) _ rfl (B.2.1 _ h)
  exact h1
theorem kw_ao {l : Launch} {s0 : State} {a0 : Array Value} {D : va_G} {cs : Nat → ClassId} {b Ls : Nat} {xs : Nat → Int32} {s : State} {args : Array Value} (B : mm_Bs l s0 a0 D cs b Ls xs) (hW : s0.WarmedH s.vm) {ty : FieldType} (h : Cond.arrayOver ty ∈ lw_tbl) : (Cond.arrayOver ty).before args s = true := by
  have h1 : (Cond.arrayOver ty).before a0 (s0.setVm s.vm) = true := Cond.before_shiftedOver (State.Shifted.of_warmed hW) _ rfl (B.2.1 _ h)
  exact h1
