/-! the constructors (by wip/p42/genctor.py) -/
theorem kc_Pa {D : va_G} {cl : List vw_C} {x : Nat × va_E} {X Y : va_W} {H : Heap} (h : va_P D cl ((x :: X) ++ Y) H) : va_P D cl (x :: (X ++ Y)) H := h
theorem kc_Da {A : Nat → Prop} {x : Nat × va_E} {X Y : va_W} (h : va_D A ((x :: X) ++ Y)) : va_D A (x :: (X ++ Y)) := h
theorem dk1_0 : decode (mm_b 8) 0 = .ok (.aload_n 0, 1) := by decide +kernel
theorem dk1_1 : decode (mm_b 8) 1 = .ok (.invokespecial 3, 3) := by decide +kernel
theorem dk1_4 : decode (mm_b 8) 4 = .ok (.aload_n 0, 1) := by decide +kernel
theorem dk1_5 : decode (mm_b 8) 5 = .ok (.iconst 0, 1) := by decide +kernel
theorem dk1_6 : decode (mm_b 8) 6 = .ok (.putfield 9, 3) := by decide +kernel
theorem dk1_9 : decode (mm_b 8) 9 = .ok (.aload_n 0, 1) := by decide +kernel
theorem dk1_10 : decode (mm_b 8) 10 = .ok (.bipush 6, 2) := by decide +kernel
theorem dk1_12 : decode (mm_b 8) 12 = .ok (.newarray .char, 2) := by decide +kernel
theorem dk1_14 : decode (mm_b 8) 14 = .ok (.putfield 15, 3) := by decide +kernel
theorem dk1_17 : decode (mm_b 8) 17 = .ok (.aload_n 0, 1) := by decide +kernel
theorem dk1_18 : decode (mm_b 8) 18 = .ok (.bipush 6, 2) := by decide +kernel
theorem dk1_20 : decode (mm_b 8) 20 = .ok (.bipush 6, 2) := by decide +kernel
theorem dk1_22 : decode (mm_b 8) 22 = .ok (.multianewarray 19 2, 4) := by decide +kernel
theorem dk1_26 : decode (mm_b 8) 26 = .ok (.putfield 21, 3) := by decide +kernel
theorem dk1_29 : decode (mm_b 8) 29 = .ok (.return_, 1) := by decide +kernel
def kW1 (cs : Nat → ClassId) (h0 : Nat) (q : Nat → Nat) : va_W := (h0, .inr (1, [.int 0, .ref (q 0), .ref (q 1)])) :: ((([] : va_W) ++ [(q 0, .inl (cs 1, 6, .inl (fun _ => 0)))]) ++ mulW cs (q 1) 6 6)
set_option maxRecDepth 20000 in
theorem kc1 {l : Launch} {s0 : State} {a0 : Array Value} {D : va_G} {cs : Nat → ClassId} {b Ls : Nat} {xs : Nat → Int32} (B : mm_Bs l s0 a0 D cs b Ls xs) (h0 sz : Nat) : Met l (mm_y 8) [.code (mm_y 8) (mm_b 8) 1 none] ({ frames := 1, cells := 8, slots := 48, locals := 12 }) (kc_Pc s0 D 1 [.int 0, .null, .null] h0 sz) (kc_Qc D (kW1 cs) h0 sz) 8 48 (kA h0 sz) := by
  refine Met.ofW (cc := mm_b 8) (maxL := 1) (ret := none) (by decide +kernel) rfl ?_
  intro p e s m args below meth c s₁ B1 hml hv
  obtain ⟨rfl, hW, hsz, hP⟩ := hv
  have hx := B1.exec
  have hb := B1.bytes
  have hr := B1.returns
  have hown : s.vm.findClass (mm_rn 1) = some m.cls := findClass_of_methodNamed B1.named
  have hlocks := B1.notSynchronized
  have hin : meth.name = "<init>" := (name_of_methodNamed B1.named B1.method).1
  subst hsz
  have hK := mm_K B hW
  have hA : ∀ q : Nat, s.heap.size ≤ q → kA h0 s.heap.size q := fun q h => Or.inr h
  have hD : va_D (kA h0 s.heap.size) [(h0, .inr (1, [.int 0, .null, .null]))] := kz_D1 (Or.inl rfl)
  have hS : va_S (kA h0 s.heap.size) s.heap s.heap [] := va_S.rf
  have hl := lv_entry ([.ref h0]) (n := 1) (Nat.le_of_ble_eq_true rfl)
  rw [lg_entry_eq]
  generalize (lg_sl ([.ref h0]) ++ List.replicate (1 - (lg_sl ([.ref h0])).length) Slot.unset).toArray = ls at hl ⊢
  have hl : lv_has ls 1 [(0, .ref h0)] := hl
  refine lv_aload_n hx hb dk1_0 rfl (lv_at hl 0 rfl) ?_
  refine W.objInit hx hb hown (kw_b B hW (w := .methodLink (mm_rn 1) 3 Jvm.Lib.objectInit) (by decide +kernel)) (kw_b B hW (w := .instanceMethod Jvm.Lib.objectInit) (by decide +kernel)) (kw_b B hW (w := .code Jvm.Lib.objectInit ⟨#[0xb1]⟩ 1 none) (by decide +kernel)) rfl (by rw [hml]; exact hl.1) rfl dk1_1 (Nat.le_of_ble_eq_true rfl) (Nat.le_of_ble_eq_true rfl) ?_
  refine W.eq (g2 := F0 m 4 ls []) rfl ?_
  refine lv_aload_n hx hb dk1_4 rfl (lv_at hl 0 rfl) ?_
  refine lv_iconst (v := 0) hx hb dk1_5 (by decide) ?_
  refine kz_put B hW (ci := 1) (k := 0) (idx := 9) (ty := .int) (v := .int 0) (fs' := [.int 0, .null, .null]) (by decide) (by decide) hx hb hown hP hD hS (by decide +kernel) (by decide +kernel) (by decide +kernel) rfl rfl (Nat.le_of_ble_eq_true rfl) rfl dk1_6 (fun H locs hP hD hS => ?_)
  refine W.widen (k := 0) (n := 0) (Nat.le_of_ble_eq_true rfl) (Nat.le_of_ble_eq_true rfl) ?_
  refine W.eq (g2 := F0 m 9 ls []) rfl ?_
  refine lv_aload_n hx hb dk1_9 rfl (lv_at hl 0 rfl) ?_
  refine lv_bipush (v := 6) hx hb dk1_10 (by decide) ?_
  refine kz_new (atype := .char) (ty := .char) (cT := cs 1) (N' := 6) (t := 1) (a1 := (6, .inl (fun _ => 0))) hx hb (kw_ac B hW (ty := .char) (by decide +kernel)) rfl rfl (fun _ _ => rfl) hK hP hD hS hA (fun _ => rfl) (by decide) rfl (by decide +kernel) (Nat.le_of_ble_eq_true rfl) (Nat.le_of_ble_eq_true rfl) dk1_12 (fun q0 H hP hD hS => ?_)
  have hP := kc_Pa hP
  have hD := kc_Da hD
  refine kz_putF B hW (ci := 1) (k := 1) (idx := 15) (ty := (.array .char)) (v := .ref q0) (fs' := [.int 0, .ref q0, .null]) (by decide) (by decide) hx hb hown hP hD hS (by decide +kernel) (by decide +kernel) hin (by decide +kernel) (by decide +kernel) rfl rfl (Nat.le_of_ble_eq_true rfl) rfl dk1_14 (fun H locs hP hD hS => ?_)
  refine W.widen (k := 1) (n := 6) (Nat.le_of_ble_eq_true rfl) (Nat.le_of_ble_eq_true rfl) ?_
  refine W.eq (g2 := F0 m 17 ls []) rfl ?_
  refine lv_aload_n hx hb dk1_17 rfl (lv_at hl 0 rfl) ?_
  refine lv_bipush (v := 6) hx hb dk1_18 (by decide) ?_
  refine lv_bipush (v := 6) hx hb dk1_20 (by decide) ?_
  refine kz_mul hx hb hown (kw_b B hW (w := .classLink (mm_rn 1) 19 "[[I") (by decide +kernel)) (kw_ao B hW (ty := .array .int) (by decide +kernel)) (kw_ac B hW (ty := .int) (by decide +kernel)) hK hP hD hS hA (n := 6) (k := 6) (N := 6) (M := 6) (by decide) (by decide) rfl rfl (Nat.le_of_ble_eq_true rfl) (Nat.le_of_ble_eq_true rfl) (Nat.le_of_ble_eq_true rfl) (Nat.le_of_ble_eq_true rfl) dk1_22 (fun q1 H hP hD hS => ?_)
  have hP := kc_Pa hP
  have hD := kc_Da hD
  refine kz_putF B hW (ci := 1) (k := 2) (idx := 21) (ty := (.array (.array .int))) (v := .ref q1) (fs' := [.int 0, .ref q0, .ref q1]) (by decide) (by decide) hx hb hown hP hD hS (by decide +kernel) (by decide +kernel) hin (by decide +kernel) (by decide +kernel) rfl rfl (Nat.le_of_ble_eq_true rfl) rfl dk1_26 (fun H locs hP hD hS => ?_)
  refine W.widen (k := 8) (n := 48) (Nat.le_of_ble_eq_true rfl) (Nat.le_of_ble_eq_true rfl) ?_
  refine W.eq (g2 := F0 m 29 ls []) rfl ?_
  refine W.widen (k := 8) (n := 48) (Nat.le_of_ble_eq_true rfl) (Nat.le_of_ble_eq_true rfl) ?_
  exact W.vret hx hb hr (fun t ht hW2 => ⟨⟨(fun i => [q0, q1].getD i 0), rfl, trivial, by rw [ht]; exact hP, hD⟩, hS.F ht⟩) hS.2.2 dk1_29
theorem dk0_0 : decode (mm_b 0) 0 = .ok (.aload_n 0, 1) := by decide +kernel
theorem dk0_1 : decode (mm_b 0) 1 = .ok (.invokespecial 3, 3) := by decide +kernel
theorem dk0_4 : decode (mm_b 0) 4 = .ok (.aload_n 0, 1) := by decide +kernel
theorem dk0_5 : decode (mm_b 0) 5 = .ok (.iconst 0, 1) := by decide +kernel
theorem dk0_6 : decode (mm_b 0) 6 = .ok (.putfield 9, 3) := by decide +kernel
theorem dk0_9 : decode (mm_b 0) 9 = .ok (.aload_n 0, 1) := by decide +kernel
theorem dk0_10 : decode (mm_b 0) 10 = .ok (.bipush 24, 2) := by decide +kernel
theorem dk0_12 : decode (mm_b 0) 12 = .ok (.newarray .int, 2) := by decide +kernel
theorem dk0_14 : decode (mm_b 0) 14 = .ok (.putfield 15, 3) := by decide +kernel
theorem dk0_17 : decode (mm_b 0) 17 = .ok (.aload_n 0, 1) := by decide +kernel
theorem dk0_18 : decode (mm_b 0) 18 = .ok (.bipush 24, 2) := by decide +kernel
theorem dk0_20 : decode (mm_b 0) 20 = .ok (.newarray .int, 2) := by decide +kernel
theorem dk0_22 : decode (mm_b 0) 22 = .ok (.putfield 19, 3) := by decide +kernel
theorem dk0_25 : decode (mm_b 0) 25 = .ok (.aload_n 0, 1) := by decide +kernel
theorem dk0_26 : decode (mm_b 0) 26 = .ok (.bipush 24, 2) := by decide +kernel
theorem dk0_28 : decode (mm_b 0) 28 = .ok (.newarray .int, 2) := by decide +kernel
theorem dk0_30 : decode (mm_b 0) 30 = .ok (.putfield 22, 3) := by decide +kernel
theorem dk0_33 : decode (mm_b 0) 33 = .ok (.aload_n 0, 1) := by decide +kernel
theorem dk0_34 : decode (mm_b 0) 34 = .ok (.bipush 24, 2) := by decide +kernel
theorem dk0_36 : decode (mm_b 0) 36 = .ok (.bipush 40, 2) := by decide +kernel
theorem dk0_38 : decode (mm_b 0) 38 = .ok (.multianewarray 25 2, 4) := by decide +kernel
theorem dk0_42 : decode (mm_b 0) 42 = .ok (.putfield 27, 3) := by decide +kernel
theorem dk0_45 : decode (mm_b 0) 45 = .ok (.aload_n 0, 1) := by decide +kernel
theorem dk0_46 : decode (mm_b 0) 46 = .ok (.bipush 24, 2) := by decide +kernel
theorem dk0_48 : decode (mm_b 0) 48 = .ok (.newarray .int, 2) := by decide +kernel
theorem dk0_50 : decode (mm_b 0) 50 = .ok (.putfield 30, 3) := by decide +kernel
theorem dk0_53 : decode (mm_b 0) 53 = .ok (.aload_n 0, 1) := by decide +kernel
theorem dk0_54 : decode (mm_b 0) 54 = .ok (.bipush 40, 2) := by decide +kernel
theorem dk0_56 : decode (mm_b 0) 56 = .ok (.newarray .int, 2) := by decide +kernel
theorem dk0_58 : decode (mm_b 0) 58 = .ok (.putfield 33, 3) := by decide +kernel
theorem dk0_61 : decode (mm_b 0) 61 = .ok (.aload_n 0, 1) := by decide +kernel
theorem dk0_62 : decode (mm_b 0) 62 = .ok (.bipush 40, 2) := by decide +kernel
theorem dk0_64 : decode (mm_b 0) 64 = .ok (.newarray .int, 2) := by decide +kernel
theorem dk0_66 : decode (mm_b 0) 66 = .ok (.putfield 36, 3) := by decide +kernel
theorem dk0_69 : decode (mm_b 0) 69 = .ok (.return_, 1) := by decide +kernel
def kW0 (cs : Nat → ClassId) (h0 : Nat) (q : Nat → Nat) : va_W := (h0, .inr (0, [.int 0, .ref (q 0), .ref (q 1), .ref (q 2), .ref (q 3), .ref (q 4), .ref (q 5), .ref (q 6)])) :: (((((((([] : va_W) ++ [(q 0, .inl (cs 0, 24, .inl (fun _ => 0)))]) ++ [(q 1, .inl (cs 0, 24, .inl (fun _ => 0)))]) ++ [(q 2, .inl (cs 0, 24, .inl (fun _ => 0)))]) ++ mulW cs (q 3) 24 40) ++ [(q 4, .inl (cs 0, 24, .inl (fun _ => 0)))]) ++ [(q 5, .inl (cs 0, 40, .inl (fun _ => 0)))]) ++ [(q 6, .inl (cs 0, 40, .inl (fun _ => 0)))])
set_option maxRecDepth 20000 in
theorem kc0 {l : Launch} {s0 : State} {a0 : Array Value} {D : va_G} {cs : Nat → ClassId} {b Ls : Nat} {xs : Nat → Int32} (B : mm_Bs l s0 a0 D cs b Ls xs) (h0 sz : Nat) : Met l (mm_y 0) [.code (mm_y 0) (mm_b 0) 1 none] ({ frames := 1, cells := 31, slots := 1160, locals := 12 }) (kc_Pc s0 D 0 [.int 0, .null, .null, .null, .null, .null, .null, .null] h0 sz) (kc_Qc D (kW0 cs) h0 sz) 31 1160 (kA h0 sz) := by
  refine Met.ofW (cc := mm_b 0) (maxL := 1) (ret := none) (by decide +kernel) rfl ?_
  intro p e s m args below meth c s₁ B1 hml hv
  obtain ⟨rfl, hW, hsz, hP⟩ := hv
  have hx := B1.exec
  have hb := B1.bytes
  have hr := B1.returns
  have hown : s.vm.findClass (mm_rn 0) = some m.cls := findClass_of_methodNamed B1.named
  have hlocks := B1.notSynchronized
  have hin : meth.name = "<init>" := (name_of_methodNamed B1.named B1.method).1
  subst hsz
  have hK := mm_K B hW
  have hA : ∀ q : Nat, s.heap.size ≤ q → kA h0 s.heap.size q := fun q h => Or.inr h
  have hD : va_D (kA h0 s.heap.size) [(h0, .inr (0, [.int 0, .null, .null, .null, .null, .null, .null, .null]))] := kz_D1 (Or.inl rfl)
  have hS : va_S (kA h0 s.heap.size) s.heap s.heap [] := va_S.rf
  have hl := lv_entry ([.ref h0]) (n := 1) (Nat.le_of_ble_eq_true rfl)
  rw [lg_entry_eq]
  generalize (lg_sl ([.ref h0]) ++ List.replicate (1 - (lg_sl ([.ref h0])).length) Slot.unset).toArray = ls at hl ⊢
  have hl : lv_has ls 1 [(0, .ref h0)] := hl
  refine lv_aload_n hx hb dk0_0 rfl (lv_at hl 0 rfl) ?_
  refine W.objInit hx hb hown (kw_b B hW (w := .methodLink (mm_rn 0) 3 Jvm.Lib.objectInit) (by decide +kernel)) (kw_b B hW (w := .instanceMethod Jvm.Lib.objectInit) (by decide +kernel)) (kw_b B hW (w := .code Jvm.Lib.objectInit ⟨#[0xb1]⟩ 1 none) (by decide +kernel)) rfl (by rw [hml]; exact hl.1) rfl dk0_1 (Nat.le_of_ble_eq_true rfl) (Nat.le_of_ble_eq_true rfl) ?_
  refine W.eq (g2 := F0 m 4 ls []) rfl ?_
  refine lv_aload_n hx hb dk0_4 rfl (lv_at hl 0 rfl) ?_
  refine lv_iconst (v := 0) hx hb dk0_5 (by decide) ?_
  refine kz_put B hW (ci := 0) (k := 0) (idx := 9) (ty := .int) (v := .int 0) (fs' := [.int 0, .null, .null, .null, .null, .null, .null, .null]) (by decide) (by decide) hx hb hown hP hD hS (by decide +kernel) (by decide +kernel) (by decide +kernel) rfl rfl (Nat.le_of_ble_eq_true rfl) rfl dk0_6 (fun H locs hP hD hS => ?_)
  refine W.widen (k := 0) (n := 0) (Nat.le_of_ble_eq_true rfl) (Nat.le_of_ble_eq_true rfl) ?_
  refine W.eq (g2 := F0 m 9 ls []) rfl ?_
  refine lv_aload_n hx hb dk0_9 rfl (lv_at hl 0 rfl) ?_
  refine lv_bipush (v := 24) hx hb dk0_10 (by decide) ?_
  refine kz_new (atype := .int) (ty := .int) (cT := cs 0) (N' := 24) (t := 0) (a1 := (24, .inl (fun _ => 0))) hx hb (kw_ac B hW (ty := .int) (by decide +kernel)) rfl rfl (fun _ _ => rfl) hK hP hD hS hA (fun _ => rfl) (by decide) rfl (by decide +kernel) (Nat.le_of_ble_eq_true rfl) (Nat.le_of_ble_eq_true rfl) dk0_12 (fun q0 H hP hD hS => ?_)
  have hP := kc_Pa hP
  have hD := kc_Da hD
  refine kz_putF B hW (ci := 0) (k := 1) (idx := 15) (ty := (.array .int)) (v := .ref q0) (fs' := [.int 0, .ref q0, .null, .null, .null, .null, .null, .null]) (by decide) (by decide) hx hb hown hP hD hS (by decide +kernel) (by decide +kernel) hin (by decide +kernel) (by decide +kernel) rfl rfl (Nat.le_of_ble_eq_true rfl) rfl dk0_14 (fun H locs hP hD hS => ?_)
  refine W.widen (k := 1) (n := 24) (Nat.le_of_ble_eq_true rfl) (Nat.le_of_ble_eq_true rfl) ?_
  refine W.eq (g2 := F0 m 17 ls []) rfl ?_
  refine lv_aload_n hx hb dk0_17 rfl (lv_at hl 0 rfl) ?_
  refine lv_bipush (v := 24) hx hb dk0_18 (by decide) ?_
  refine kz_new (atype := .int) (ty := .int) (cT := cs 0) (N' := 24) (t := 0) (a1 := (24, .inl (fun _ => 0))) hx hb (kw_ac B hW (ty := .int) (by decide +kernel)) rfl rfl (fun _ _ => rfl) hK hP hD hS hA (fun _ => rfl) (by decide) rfl (by decide +kernel) (Nat.le_of_ble_eq_true rfl) (Nat.le_of_ble_eq_true rfl) dk0_20 (fun q1 H hP hD hS => ?_)
  have hP := kc_Pa hP
  have hD := kc_Da hD
  refine kz_putF B hW (ci := 0) (k := 2) (idx := 19) (ty := (.array .int)) (v := .ref q1) (fs' := [.int 0, .ref q0, .ref q1, .null, .null, .null, .null, .null]) (by decide) (by decide) hx hb hown hP hD hS (by decide +kernel) (by decide +kernel) hin (by decide +kernel) (by decide +kernel) rfl rfl (Nat.le_of_ble_eq_true rfl) rfl dk0_22 (fun H locs hP hD hS => ?_)
  refine W.widen (k := 2) (n := 48) (Nat.le_of_ble_eq_true rfl) (Nat.le_of_ble_eq_true rfl) ?_
  refine W.eq (g2 := F0 m 25 ls []) rfl ?_
  refine lv_aload_n hx hb dk0_25 rfl (lv_at hl 0 rfl) ?_
  refine lv_bipush (v := 24) hx hb dk0_26 (by decide) ?_
  refine kz_new (atype := .int) (ty := .int) (cT := cs 0) (N' := 24) (t := 0) (a1 := (24, .inl (fun _ => 0))) hx hb (kw_ac B hW (ty := .int) (by decide +kernel)) rfl rfl (fun _ _ => rfl) hK hP hD hS hA (fun _ => rfl) (by decide) rfl (by decide +kernel) (Nat.le_of_ble_eq_true rfl) (Nat.le_of_ble_eq_true rfl) dk0_28 (fun q2 H hP hD hS => ?_)
  have hP := kc_Pa hP
  have hD := kc_Da hD
  refine kz_putF B hW (ci := 0) (k := 3) (idx := 22) (ty := (.array .int)) (v := .ref q2) (fs' := [.int 0, .ref q0, .ref q1, .ref q2, .null, .null, .null, .null]) (by decide) (by decide) hx hb hown hP hD hS (by decide +kernel) (by decide +kernel) hin (by decide +kernel) (by decide +kernel) rfl rfl (Nat.le_of_ble_eq_true rfl) rfl dk0_30 (fun H locs hP hD hS => ?_)
  refine W.widen (k := 3) (n := 72) (Nat.le_of_ble_eq_true rfl) (Nat.le_of_ble_eq_true rfl) ?_
  refine W.eq (g2 := F0 m 33 ls []) rfl ?_
  refine lv_aload_n hx hb dk0_33 rfl (lv_at hl 0 rfl) ?_
  refine lv_bipush (v := 24) hx hb dk0_34 (by decide) ?_
  refine lv_bipush (v := 40) hx hb dk0_36 (by decide) ?_
  refine kz_mul hx hb hown (kw_b B hW (w := .classLink (mm_rn 0) 25 "[[I") (by decide +kernel)) (kw_ao B hW (ty := .array .int) (by decide +kernel)) (kw_ac B hW (ty := .int) (by decide +kernel)) hK hP hD hS hA (n := 24) (k := 40) (N := 24) (M := 40) (by decide) (by decide) rfl rfl (Nat.le_of_ble_eq_true rfl) (Nat.le_of_ble_eq_true rfl) (Nat.le_of_ble_eq_true rfl) (Nat.le_of_ble_eq_true rfl) dk0_38 (fun q3 H hP hD hS => ?_)
  have hP := kc_Pa hP
  have hD := kc_Da hD
  refine kz_putF B hW (ci := 0) (k := 4) (idx := 27) (ty := (.array (.array .int))) (v := .ref q3) (fs' := [.int 0, .ref q0, .ref q1, .ref q2, .ref q3, .null, .null, .null]) (by decide) (by decide) hx hb hown hP hD hS (by decide +kernel) (by decide +kernel) hin (by decide +kernel) (by decide +kernel) rfl rfl (Nat.le_of_ble_eq_true rfl) rfl dk0_42 (fun H locs hP hD hS => ?_)
  refine W.widen (k := 28) (n := 1056) (Nat.le_of_ble_eq_true rfl) (Nat.le_of_ble_eq_true rfl) ?_
  refine W.eq (g2 := F0 m 45 ls []) rfl ?_
  refine lv_aload_n hx hb dk0_45 rfl (lv_at hl 0 rfl) ?_
  refine lv_bipush (v := 24) hx hb dk0_46 (by decide) ?_
  refine kz_new (atype := .int) (ty := .int) (cT := cs 0) (N' := 24) (t := 0) (a1 := (24, .inl (fun _ => 0))) hx hb (kw_ac B hW (ty := .int) (by decide +kernel)) rfl rfl (fun _ _ => rfl) hK hP hD hS hA (fun _ => rfl) (by decide) rfl (by decide +kernel) (Nat.le_of_ble_eq_true rfl) (Nat.le_of_ble_eq_true rfl) dk0_48 (fun q4 H hP hD hS => ?_)
  have hP := kc_Pa hP
  have hD := kc_Da hD
  refine kz_putF B hW (ci := 0) (k := 5) (idx := 30) (ty := (.array .int)) (v := .ref q4) (fs' := [.int 0, .ref q0, .ref q1, .ref q2, .ref q3, .ref q4, .null, .null]) (by decide) (by decide) hx hb hown hP hD hS (by decide +kernel) (by decide +kernel) hin (by decide +kernel) (by decide +kernel) rfl rfl (Nat.le_of_ble_eq_true rfl) rfl dk0_50 (fun H locs hP hD hS => ?_)
  refine W.widen (k := 29) (n := 1080) (Nat.le_of_ble_eq_true rfl) (Nat.le_of_ble_eq_true rfl) ?_
  refine W.eq (g2 := F0 m 53 ls []) rfl ?_
  refine lv_aload_n hx hb dk0_53 rfl (lv_at hl 0 rfl) ?_
  refine lv_bipush (v := 40) hx hb dk0_54 (by decide) ?_
  refine kz_new (atype := .int) (ty := .int) (cT := cs 0) (N' := 40) (t := 0) (a1 := (40, .inl (fun _ => 0))) hx hb (kw_ac B hW (ty := .int) (by decide +kernel)) rfl rfl (fun _ _ => rfl) hK hP hD hS hA (fun _ => rfl) (by decide) rfl (by decide +kernel) (Nat.le_of_ble_eq_true rfl) (Nat.le_of_ble_eq_true rfl) dk0_56 (fun q5 H hP hD hS => ?_)
  have hP := kc_Pa hP
  have hD := kc_Da hD
  refine kz_putF B hW (ci := 0) (k := 6) (idx := 33) (ty := (.array .int)) (v := .ref q5) (fs' := [.int 0, .ref q0, .ref q1, .ref q2, .ref q3, .ref q4, .ref q5, .null]) (by decide) (by decide) hx hb hown hP hD hS (by decide +kernel) (by decide +kernel) hin (by decide +kernel) (by decide +kernel) rfl rfl (Nat.le_of_ble_eq_true rfl) rfl dk0_58 (fun H locs hP hD hS => ?_)
  refine W.widen (k := 30) (n := 1120) (Nat.le_of_ble_eq_true rfl) (Nat.le_of_ble_eq_true rfl) ?_
  refine W.eq (g2 := F0 m 61 ls []) rfl ?_
  refine lv_aload_n hx hb dk0_61 rfl (lv_at hl 0 rfl) ?_
  refine lv_bipush (v := 40) hx hb dk0_62 (by decide) ?_
  refine kz_new (atype := .int) (ty := .int) (cT := cs 0) (N' := 40) (t := 0) (a1 := (40, .inl (fun _ => 0))) hx hb (kw_ac B hW (ty := .int) (by decide +kernel)) rfl rfl (fun _ _ => rfl) hK hP hD hS hA (fun _ => rfl) (by decide) rfl (by decide +kernel) (Nat.le_of_ble_eq_true rfl) (Nat.le_of_ble_eq_true rfl) dk0_64 (fun q6 H hP hD hS => ?_)
  have hP := kc_Pa hP
  have hD := kc_Da hD
  refine kz_putF B hW (ci := 0) (k := 7) (idx := 36) (ty := (.array .int)) (v := .ref q6) (fs' := [.int 0, .ref q0, .ref q1, .ref q2, .ref q3, .ref q4, .ref q5, .ref q6]) (by decide) (by decide) hx hb hown hP hD hS (by decide +kernel) (by decide +kernel) hin (by decide +kernel) (by decide +kernel) rfl rfl (Nat.le_of_ble_eq_true rfl) rfl dk0_66 (fun H locs hP hD hS => ?_)
  refine W.widen (k := 31) (n := 1160) (Nat.le_of_ble_eq_true rfl) (Nat.le_of_ble_eq_true rfl) ?_
  refine W.eq (g2 := F0 m 69 ls []) rfl ?_
  refine W.widen (k := 31) (n := 1160) (Nat.le_of_ble_eq_true rfl) (Nat.le_of_ble_eq_true rfl) ?_
  exact W.vret hx hb hr (fun t ht hW2 => ⟨⟨(fun i => [q0, q1, q2, q3, q4, q5, q6].getD i 0), rfl, trivial, by rw [ht]; exact hP, hD⟩, hS.F ht⟩) hS.2.2 dk0_69
theorem dk4_0 : decode (mm_b 25) 0 = .ok (.aload_n 0, 1) := by decide +kernel
theorem dk4_1 : decode (mm_b 25) 1 = .ok (.invokespecial 3, 3) := by decide +kernel
theorem dk4_4 : decode (mm_b 25) 4 = .ok (.aload_n 0, 1) := by decide +kernel
theorem dk4_5 : decode (mm_b 25) 5 = .ok (.iconst 0, 1) := by decide +kernel
theorem dk4_6 : decode (mm_b 25) 6 = .ok (.putfield 9, 3) := by decide +kernel
theorem dk4_9 : decode (mm_b 25) 9 = .ok (.aload_n 0, 1) := by decide +kernel
theorem dk4_10 : decode (mm_b 25) 10 = .ok (.bipush 20, 2) := by decide +kernel
theorem dk4_12 : decode (mm_b 25) 12 = .ok (.newarray .int, 2) := by decide +kernel
theorem dk4_14 : decode (mm_b 25) 14 = .ok (.putfield 15, 3) := by decide +kernel
theorem dk4_17 : decode (mm_b 25) 17 = .ok (.aload_n 0, 1) := by decide +kernel
theorem dk4_18 : decode (mm_b 25) 18 = .ok (.bipush 20, 2) := by decide +kernel
theorem dk4_20 : decode (mm_b 25) 20 = .ok (.newarray .char, 2) := by decide +kernel
theorem dk4_22 : decode (mm_b 25) 22 = .ok (.putfield 19, 3) := by decide +kernel
theorem dk4_25 : decode (mm_b 25) 25 = .ok (.aload_n 0, 1) := by decide +kernel
theorem dk4_26 : decode (mm_b 25) 26 = .ok (.bipush 20, 2) := by decide +kernel
theorem dk4_28 : decode (mm_b 25) 28 = .ok (.bipush 6, 2) := by decide +kernel
theorem dk4_30 : decode (mm_b 25) 30 = .ok (.multianewarray 23 2, 4) := by decide +kernel
theorem dk4_34 : decode (mm_b 25) 34 = .ok (.putfield 25, 3) := by decide +kernel
theorem dk4_37 : decode (mm_b 25) 37 = .ok (.aload_n 0, 1) := by decide +kernel
theorem dk4_38 : decode (mm_b 25) 38 = .ok (.bipush 20, 2) := by decide +kernel
theorem dk4_40 : decode (mm_b 25) 40 = .ok (.newarray .int, 2) := by decide +kernel
theorem dk4_42 : decode (mm_b 25) 42 = .ok (.putfield 28, 3) := by decide +kernel
theorem dk4_45 : decode (mm_b 25) 45 = .ok (.aload_n 0, 1) := by decide +kernel
theorem dk4_46 : decode (mm_b 25) 46 = .ok (.bipush 20, 2) := by decide +kernel
theorem dk4_48 : decode (mm_b 25) 48 = .ok (.newarray .int, 2) := by decide +kernel
theorem dk4_50 : decode (mm_b 25) 50 = .ok (.putfield 31, 3) := by decide +kernel
theorem dk4_53 : decode (mm_b 25) 53 = .ok (.return_, 1) := by decide +kernel
def kW4 (cs : Nat → ClassId) (h0 : Nat) (q : Nat → Nat) : va_W := (h0, .inr (4, [.int 0, .ref (q 0), .ref (q 1), .ref (q 2), .ref (q 3), .ref (q 4)])) :: (((((([] : va_W) ++ [(q 0, .inl (cs 0, 20, .inl (fun _ => 0)))]) ++ [(q 1, .inl (cs 1, 20, .inl (fun _ => 0)))]) ++ mulW cs (q 2) 20 6) ++ [(q 3, .inl (cs 0, 20, .inl (fun _ => 0)))]) ++ [(q 4, .inl (cs 0, 20, .inl (fun _ => 0)))])
set_option maxRecDepth 20000 in
theorem kc4 {l : Launch} {s0 : State} {a0 : Array Value} {D : va_G} {cs : Nat → ClassId} {b Ls : Nat} {xs : Nat → Int32} (B : mm_Bs l s0 a0 D cs b Ls xs) (h0 sz : Nat) : Met l (mm_y 25) [.code (mm_y 25) (mm_b 25) 1 none] ({ frames := 1, cells := 25, slots := 220, locals := 12 }) (kc_Pc s0 D 4 [.int 0, .null, .null, .null, .null, .null] h0 sz) (kc_Qc D (kW4 cs) h0 sz) 25 220 (kA h0 sz) := by
  refine Met.ofW (cc := mm_b 25) (maxL := 1) (ret := none) (by decide +kernel) rfl ?_
  intro p e s m args below meth c s₁ B1 hml hv
  obtain ⟨rfl, hW, hsz, hP⟩ := hv
  have hx := B1.exec
  have hb := B1.bytes
  have hr := B1.returns
  have hown : s.vm.findClass (mm_rn 4) = some m.cls := findClass_of_methodNamed B1.named
  have hlocks := B1.notSynchronized
  have hin : meth.name = "<init>" := (name_of_methodNamed B1.named B1.method).1
  subst hsz
  have hK := mm_K B hW
  have hA : ∀ q : Nat, s.heap.size ≤ q → kA h0 s.heap.size q := fun q h => Or.inr h
  have hD : va_D (kA h0 s.heap.size) [(h0, .inr (4, [.int 0, .null, .null, .null, .null, .null]))] := kz_D1 (Or.inl rfl)
  have hS : va_S (kA h0 s.heap.size) s.heap s.heap [] := va_S.rf
  have hl := lv_entry ([.ref h0]) (n := 1) (Nat.le_of_ble_eq_true rfl)
  rw [lg_entry_eq]
  generalize (lg_sl ([.ref h0]) ++ List.replicate (1 - (lg_sl ([.ref h0])).length) Slot.unset).toArray = ls at hl ⊢
  have hl : lv_has ls 1 [(0, .ref h0)] := hl
  refine lv_aload_n hx hb dk4_0 rfl (lv_at hl 0 rfl) ?_
  refine W.objInit hx hb hown (kw_b B hW (w := .methodLink (mm_rn 4) 3 Jvm.Lib.objectInit) (by decide +kernel)) (kw_b B hW (w := .instanceMethod Jvm.Lib.objectInit) (by decide +kernel)) (kw_b B hW (w := .code Jvm.Lib.objectInit ⟨#[0xb1]⟩ 1 none) (by decide +kernel)) rfl (by rw [hml]; exact hl.1) rfl dk4_1 (Nat.le_of_ble_eq_true rfl) (Nat.le_of_ble_eq_true rfl) ?_
  refine W.eq (g2 := F0 m 4 ls []) rfl ?_
  refine lv_aload_n hx hb dk4_4 rfl (lv_at hl 0 rfl) ?_
  refine lv_iconst (v := 0) hx hb dk4_5 (by decide) ?_
  refine kz_put B hW (ci := 4) (k := 0) (idx := 9) (ty := .int) (v := .int 0) (fs' := [.int 0, .null, .null, .null, .null, .null]) (by decide) (by decide) hx hb hown hP hD hS (by decide +kernel) (by decide +kernel) (by decide +kernel) rfl rfl (Nat.le_of_ble_eq_true rfl) rfl dk4_6 (fun H locs hP hD hS => ?_)
  refine W.widen (k := 0) (n := 0) (Nat.le_of_ble_eq_true rfl) (Nat.le_of_ble_eq_true rfl) ?_
  refine W.eq (g2 := F0 m 9 ls []) rfl ?_
  refine lv_aload_n hx hb dk4_9 rfl (lv_at hl 0 rfl) ?_
  refine lv_bipush (v := 20) hx hb dk4_10 (by decide) ?_
  refine kz_new (atype := .int) (ty := .int) (cT := cs 0) (N' := 20) (t := 0) (a1 := (20, .inl (fun _ => 0))) hx hb (kw_ac B hW (ty := .int) (by decide +kernel)) rfl rfl (fun _ _ => rfl) hK hP hD hS hA (fun _ => rfl) (by decide) rfl (by decide +kernel) (Nat.le_of_ble_eq_true rfl) (Nat.le_of_ble_eq_true rfl) dk4_12 (fun q0 H hP hD hS => ?_)
  have hP := kc_Pa hP
  have hD := kc_Da hD
  refine kz_putF B hW (ci := 4) (k := 1) (idx := 15) (ty := (.array .int)) (v := .ref q0) (fs' := [.int 0, .ref q0, .null, .null, .null, .null]) (by decide) (by decide) hx hb hown hP hD hS (by decide +kernel) (by decide +kernel) hin (by decide +kernel) (by decide +kernel) rfl rfl (Nat.le_of_ble_eq_true rfl) rfl dk4_14 (fun H locs hP hD hS => ?_)
  refine W.widen (k := 1) (n := 20) (Nat.le_of_ble_eq_true rfl) (Nat.le_of_ble_eq_true rfl) ?_
  refine W.eq (g2 := F0 m 17 ls []) rfl ?_
  refine lv_aload_n hx hb dk4_17 rfl (lv_at hl 0 rfl) ?_
  refine lv_bipush (v := 20) hx hb dk4_18 (by decide) ?_
  refine kz_new (atype := .char) (ty := .char) (cT := cs 1) (N' := 20) (t := 1) (a1 := (20, .inl (fun _ => 0))) hx hb (kw_ac B hW (ty := .char) (by decide +kernel)) rfl rfl (fun _ _ => rfl) hK hP hD hS hA (fun _ => rfl) (by decide) rfl (by decide +kernel) (Nat.le_of_ble_eq_true rfl) (Nat.le_of_ble_eq_true rfl) dk4_20 (fun q1 H hP hD hS => ?_)
  have hP := kc_Pa hP
  have hD := kc_Da hD
  refine kz_putF B hW (ci := 4) (k := 2) (idx := 19) (ty := (.array .char)) (v := .ref q1) (fs' := [.int 0, .ref q0, .ref q1, .null, .null, .null]) (by decide) (by decide) hx hb hown hP hD hS (by decide +kernel) (by decide +kernel) hin (by decide +kernel) (by decide +kernel) rfl rfl (Nat.le_of_ble_eq_true rfl) rfl dk4_22 (fun H locs hP hD hS => ?_)
  refine W.widen (k := 2) (n := 40) (Nat.le_of_ble_eq_true rfl) (Nat.le_of_ble_eq_true rfl) ?_
  refine W.eq (g2 := F0 m 25 ls []) rfl ?_
  refine lv_aload_n hx hb dk4_25 rfl (lv_at hl 0 rfl) ?_
  refine lv_bipush (v := 20) hx hb dk4_26 (by decide) ?_
  refine lv_bipush (v := 6) hx hb dk4_28 (by decide) ?_
  refine kz_mul hx hb hown (kw_b B hW (w := .classLink (mm_rn 4) 23 "[[I") (by decide +kernel)) (kw_ao B hW (ty := .array .int) (by decide +kernel)) (kw_ac B hW (ty := .int) (by decide +kernel)) hK hP hD hS hA (n := 20) (k := 6) (N := 20) (M := 6) (by decide) (by decide) rfl rfl (Nat.le_of_ble_eq_true rfl) (Nat.le_of_ble_eq_true rfl) (Nat.le_of_ble_eq_true rfl) (Nat.le_of_ble_eq_true rfl) dk4_30 (fun q2 H hP hD hS => ?_)
  have hP := kc_Pa hP
  have hD := kc_Da hD
  refine kz_putF B hW (ci := 4) (k := 3) (idx := 25) (ty := (.array (.array .int))) (v := .ref q2) (fs' := [.int 0, .ref q0, .ref q1, .ref q2, .null, .null]) (by decide) (by decide) hx hb hown hP hD hS (by decide +kernel) (by decide +kernel) hin (by decide +kernel) (by decide +kernel) rfl rfl (Nat.le_of_ble_eq_true rfl) rfl dk4_34 (fun H locs hP hD hS => ?_)
  refine W.widen (k := 23) (n := 180) (Nat.le_of_ble_eq_true rfl) (Nat.le_of_ble_eq_true rfl) ?_
  refine W.eq (g2 := F0 m 37 ls []) rfl ?_
  refine lv_aload_n hx hb dk4_37 rfl (lv_at hl 0 rfl) ?_
  refine lv_bipush (v := 20) hx hb dk4_38 (by decide) ?_
  refine kz_new (atype := .int) (ty := .int) (cT := cs 0) (N' := 20) (t := 0) (a1 := (20, .inl (fun _ => 0))) hx hb (kw_ac B hW (ty := .int) (by decide +kernel)) rfl rfl (fun _ _ => rfl) hK hP hD hS hA (fun _ => rfl) (by decide) rfl (by decide +kernel) (Nat.le_of_ble_eq_true rfl) (Nat.le_of_ble_eq_true rfl) dk4_40 (fun q3 H hP hD hS => ?_)
  have hP := kc_Pa hP
  have hD := kc_Da hD
  refine kz_putF B hW (ci := 4) (k := 4) (idx := 28) (ty := (.array .int)) (v := .ref q3) (fs' := [.int 0, .ref q0, .ref q1, .ref q2, .ref q3, .null]) (by decide) (by decide) hx hb hown hP hD hS (by decide +kernel) (by decide +kernel) hin (by decide +kernel) (by decide +kernel) rfl rfl (Nat.le_of_ble_eq_true rfl) rfl dk4_42 (fun H locs hP hD hS => ?_)
  refine W.widen (k := 24) (n := 200) (Nat.le_of_ble_eq_true rfl) (Nat.le_of_ble_eq_true rfl) ?_
  refine W.eq (g2 := F0 m 45 ls []) rfl ?_
  refine lv_aload_n hx hb dk4_45 rfl (lv_at hl 0 rfl) ?_
  refine lv_bipush (v := 20) hx hb dk4_46 (by decide) ?_
  refine kz_new (atype := .int) (ty := .int) (cT := cs 0) (N' := 20) (t := 0) (a1 := (20, .inl (fun _ => 0))) hx hb (kw_ac B hW (ty := .int) (by decide +kernel)) rfl rfl (fun _ _ => rfl) hK hP hD hS hA (fun _ => rfl) (by decide) rfl (by decide +kernel) (Nat.le_of_ble_eq_true rfl) (Nat.le_of_ble_eq_true rfl) dk4_48 (fun q4 H hP hD hS => ?_)
  have hP := kc_Pa hP
  have hD := kc_Da hD
  refine kz_putF B hW (ci := 4) (k := 5) (idx := 31) (ty := (.array .int)) (v := .ref q4) (fs' := [.int 0, .ref q0, .ref q1, .ref q2, .ref q3, .ref q4]) (by decide) (by decide) hx hb hown hP hD hS (by decide +kernel) (by decide +kernel) hin (by decide +kernel) (by decide +kernel) rfl rfl (Nat.le_of_ble_eq_true rfl) rfl dk4_50 (fun H locs hP hD hS => ?_)
  refine W.widen (k := 25) (n := 220) (Nat.le_of_ble_eq_true rfl) (Nat.le_of_ble_eq_true rfl) ?_
  refine W.eq (g2 := F0 m 53 ls []) rfl ?_
  refine W.widen (k := 25) (n := 220) (Nat.le_of_ble_eq_true rfl) (Nat.le_of_ble_eq_true rfl) ?_
  exact W.vret hx hb hr (fun t ht hW2 => ⟨⟨(fun i => [q0, q1, q2, q3, q4].getD i 0), rfl, trivial, by rw [ht]; exact hP, hD⟩, hS.F ht⟩) hS.2.2 dk4_53
theorem dk2_0 : decode (mm_b 12) 0 = .ok (.aload_n 0, 1) := by decide +kernel
theorem dk2_1 : decode (mm_b 12) 1 = .ok (.invokespecial 3, 3) := by decide +kernel
theorem dk2_4 : decode (mm_b 12) 4 = .ok (.aload_n 0, 1) := by decide +kernel
theorem dk2_5 : decode (mm_b 12) 5 = .ok (.iconst 0, 1) := by decide +kernel
theorem dk2_6 : decode (mm_b 12) 6 = .ok (.putfield 9, 3) := by decide +kernel
theorem dk2_9 : decode (mm_b 12) 9 = .ok (.aload_n 0, 1) := by decide +kernel
theorem dk2_10 : decode (mm_b 12) 10 = .ok (.sipush 150, 3) := by decide +kernel
theorem dk2_13 : decode (mm_b 12) 13 = .ok (.newarray .char, 2) := by decide +kernel
theorem dk2_15 : decode (mm_b 12) 15 = .ok (.putfield 15, 3) := by decide +kernel
theorem dk2_18 : decode (mm_b 12) 18 = .ok (.aload_n 0, 1) := by decide +kernel
theorem dk2_19 : decode (mm_b 12) 19 = .ok (.sipush 150, 3) := by decide +kernel
theorem dk2_22 : decode (mm_b 12) 22 = .ok (.newarray .int, 2) := by decide +kernel
theorem dk2_24 : decode (mm_b 12) 24 = .ok (.putfield 19, 3) := by decide +kernel
theorem dk2_27 : decode (mm_b 12) 27 = .ok (.aload_n 0, 1) := by decide +kernel
theorem dk2_28 : decode (mm_b 12) 28 = .ok (.sipush 150, 3) := by decide +kernel
theorem dk2_31 : decode (mm_b 12) 31 = .ok (.newarray .int, 2) := by decide +kernel
theorem dk2_33 : decode (mm_b 12) 33 = .ok (.putfield 23, 3) := by decide +kernel
theorem dk2_36 : decode (mm_b 12) 36 = .ok (.aload_n 0, 1) := by decide +kernel
theorem dk2_37 : decode (mm_b 12) 37 = .ok (.sipush 150, 3) := by decide +kernel
theorem dk2_40 : decode (mm_b 12) 40 = .ok (.newarray .int, 2) := by decide +kernel
theorem dk2_42 : decode (mm_b 12) 42 = .ok (.putfield 26, 3) := by decide +kernel
theorem dk2_45 : decode (mm_b 12) 45 = .ok (.aload_n 0, 1) := by decide +kernel
theorem dk2_46 : decode (mm_b 12) 46 = .ok (.sipush 150, 3) := by decide +kernel
theorem dk2_49 : decode (mm_b 12) 49 = .ok (.newarray .int, 2) := by decide +kernel
theorem dk2_51 : decode (mm_b 12) 51 = .ok (.putfield 29, 3) := by decide +kernel
theorem dk2_54 : decode (mm_b 12) 54 = .ok (.aload_n 0, 1) := by decide +kernel
theorem dk2_55 : decode (mm_b 12) 55 = .ok (.sipush 150, 3) := by decide +kernel
theorem dk2_58 : decode (mm_b 12) 58 = .ok (.newarray .int, 2) := by decide +kernel
theorem dk2_60 : decode (mm_b 12) 60 = .ok (.putfield 32, 3) := by decide +kernel
theorem dk2_63 : decode (mm_b 12) 63 = .ok (.return_, 1) := by decide +kernel
def kW2 (cs : Nat → ClassId) (h0 : Nat) (q : Nat → Nat) : va_W := (h0, .inr (2, [.int 0, .ref (q 0), .ref (q 1), .ref (q 2), .ref (q 3), .ref (q 4), .ref (q 5)])) :: ((((((([] : va_W) ++ [(q 0, .inl (cs 1, 150, .inl (fun _ => 0)))]) ++ [(q 1, .inl (cs 0, 150, .inl (fun _ => 0)))]) ++ [(q 2, .inl (cs 0, 150, .inl (fun _ => 0)))]) ++ [(q 3, .inl (cs 0, 150, .inl (fun _ => 0)))]) ++ [(q 4, .inl (cs 0, 150, .inl (fun _ => 0)))]) ++ [(q 5, .inl (cs 0, 150, .inl (fun _ => 0)))])
set_option maxRecDepth 20000 in
theorem kc2 {l : Launch} {s0 : State} {a0 : Array Value} {D : va_G} {cs : Nat → ClassId} {b Ls : Nat} {xs : Nat → Int32} (B : mm_Bs l s0 a0 D cs b Ls xs) (h0 sz : Nat) : Met l (mm_y 12) [.code (mm_y 12) (mm_b 12) 1 none] ({ frames := 1, cells := 6, slots := 900, locals := 12 }) (kc_Pc s0 D 2 [.int 0, .null, .null, .null, .null, .null, .null] h0 sz) (kc_Qc D (kW2 cs) h0 sz) 6 900 (kA h0 sz) := by
  refine Met.ofW (cc := mm_b 12) (maxL := 1) (ret := none) (by decide +kernel) rfl ?_
  intro p e s m args below meth c s₁ B1 hml hv
  obtain ⟨rfl, hW, hsz, hP⟩ := hv
  have hx := B1.exec
  have hb := B1.bytes
  have hr := B1.returns
  have hown : s.vm.findClass (mm_rn 2) = some m.cls := findClass_of_methodNamed B1.named
  have hlocks := B1.notSynchronized
  have hin : meth.name = "<init>" := (name_of_methodNamed B1.named B1.method).1
  subst hsz
  have hK := mm_K B hW
  have hA : ∀ q : Nat, s.heap.size ≤ q → kA h0 s.heap.size q := fun q h => Or.inr h
  have hD : va_D (kA h0 s.heap.size) [(h0, .inr (2, [.int 0, .null, .null, .null, .null, .null, .null]))] := kz_D1 (Or.inl rfl)
  have hS : va_S (kA h0 s.heap.size) s.heap s.heap [] := va_S.rf
  have hl := lv_entry ([.ref h0]) (n := 1) (Nat.le_of_ble_eq_true rfl)
  rw [lg_entry_eq]
  generalize (lg_sl ([.ref h0]) ++ List.replicate (1 - (lg_sl ([.ref h0])).length) Slot.unset).toArray = ls at hl ⊢
  have hl : lv_has ls 1 [(0, .ref h0)] := hl
  refine lv_aload_n hx hb dk2_0 rfl (lv_at hl 0 rfl) ?_
  refine W.objInit hx hb hown (kw_b B hW (w := .methodLink (mm_rn 2) 3 Jvm.Lib.objectInit) (by decide +kernel)) (kw_b B hW (w := .instanceMethod Jvm.Lib.objectInit) (by decide +kernel)) (kw_b B hW (w := .code Jvm.Lib.objectInit ⟨#[0xb1]⟩ 1 none) (by decide +kernel)) rfl (by rw [hml]; exact hl.1) rfl dk2_1 (Nat.le_of_ble_eq_true rfl) (Nat.le_of_ble_eq_true rfl) ?_
  refine W.eq (g2 := F0 m 4 ls []) rfl ?_
  refine lv_aload_n hx hb dk2_4 rfl (lv_at hl 0 rfl) ?_
  refine lv_iconst (v := 0) hx hb dk2_5 (by decide) ?_
  refine kz_put B hW (ci := 2) (k := 0) (idx := 9) (ty := .int) (v := .int 0) (fs' := [.int 0, .null, .null, .null, .null, .null, .null]) (by decide) (by decide) hx hb hown hP hD hS (by decide +kernel) (by decide +kernel) (by decide +kernel) rfl rfl (Nat.le_of_ble_eq_true rfl) rfl dk2_6 (fun H locs hP hD hS => ?_)
  refine W.widen (k := 0) (n := 0) (Nat.le_of_ble_eq_true rfl) (Nat.le_of_ble_eq_true rfl) ?_
  refine W.eq (g2 := F0 m 9 ls []) rfl ?_
  refine lv_aload_n hx hb dk2_9 rfl (lv_at hl 0 rfl) ?_
  refine lv_sipush (v := 150) hx hb dk2_10 (by decide) ?_
  refine kz_new (atype := .char) (ty := .char) (cT := cs 1) (N' := 150) (t := 1) (a1 := (150, .inl (fun _ => 0))) hx hb (kw_ac B hW (ty := .char) (by decide +kernel)) rfl rfl (fun _ _ => rfl) hK hP hD hS hA (fun _ => rfl) (by decide) rfl (by decide +kernel) (Nat.le_of_ble_eq_true rfl) (Nat.le_of_ble_eq_true rfl) dk2_13 (fun q0 H hP hD hS => ?_)
  have hP := kc_Pa hP
  have hD := kc_Da hD
  refine kz_putF B hW (ci := 2) (k := 1) (idx := 15) (ty := (.array .char)) (v := .ref q0) (fs' := [.int 0, .ref q0, .null, .null, .null, .null, .null]) (by decide) (by decide) hx hb hown hP hD hS (by decide +kernel) (by decide +kernel) hin (by decide +kernel) (by decide +kernel) rfl rfl (Nat.le_of_ble_eq_true rfl) rfl dk2_15 (fun H locs hP hD hS => ?_)
  refine W.widen (k := 1) (n := 150) (Nat.le_of_ble_eq_true rfl) (Nat.le_of_ble_eq_true rfl) ?_
  refine W.eq (g2 := F0 m 18 ls []) rfl ?_
  refine lv_aload_n hx hb dk2_18 rfl (lv_at hl 0 rfl) ?_
  refine lv_sipush (v := 150) hx hb dk2_19 (by decide) ?_
  refine kz_new (atype := .int) (ty := .int) (cT := cs 0) (N' := 150) (t := 0) (a1 := (150, .inl (fun _ => 0))) hx hb (kw_ac B hW (ty := .int) (by decide +kernel)) rfl rfl (fun _ _ => rfl) hK hP hD hS hA (fun _ => rfl) (by decide) rfl (by decide +kernel) (Nat.le_of_ble_eq_true rfl) (Nat.le_of_ble_eq_true rfl) dk2_22 (fun q1 H hP hD hS => ?_)
  have hP := kc_Pa hP
  have hD := kc_Da hD
  refine kz_putF B hW (ci := 2) (k := 2) (idx := 19) (ty := (.array .int)) (v := .ref q1) (fs' := [.int 0, .ref q0, .ref q1, .null, .null, .null, .null]) (by decide) (by decide) hx hb hown hP hD hS (by decide +kernel) (by decide +kernel) hin (by decide +kernel) (by decide +kernel) rfl rfl (Nat.le_of_ble_eq_true rfl) rfl dk2_24 (fun H locs hP hD hS => ?_)
  refine W.widen (k := 2) (n := 300) (Nat.le_of_ble_eq_true rfl) (Nat.le_of_ble_eq_true rfl) ?_
  refine W.eq (g2 := F0 m 27 ls []) rfl ?_
  refine lv_aload_n hx hb dk2_27 rfl (lv_at hl 0 rfl) ?_
  refine lv_sipush (v := 150) hx hb dk2_28 (by decide) ?_
  refine kz_new (atype := .int) (ty := .int) (cT := cs 0) (N' := 150) (t := 0) (a1 := (150, .inl (fun _ => 0))) hx hb (kw_ac B hW (ty := .int) (by decide +kernel)) rfl rfl (fun _ _ => rfl) hK hP hD hS hA (fun _ => rfl) (by decide) rfl (by decide +kernel) (Nat.le_of_ble_eq_true rfl) (Nat.le_of_ble_eq_true rfl) dk2_31 (fun q2 H hP hD hS => ?_)
  have hP := kc_Pa hP
  have hD := kc_Da hD
  refine kz_putF B hW (ci := 2) (k := 3) (idx := 23) (ty := (.array .int)) (v := .ref q2) (fs' := [.int 0, .ref q0, .ref q1, .ref q2, .null, .null, .null]) (by decide) (by decide) hx hb hown hP hD hS (by decide +kernel) (by decide +kernel) hin (by decide +kernel) (by decide +kernel) rfl rfl (Nat.le_of_ble_eq_true rfl) rfl dk2_33 (fun H locs hP hD hS => ?_)
  refine W.widen (k := 3) (n := 450) (Nat.le_of_ble_eq_true rfl) (Nat.le_of_ble_eq_true rfl) ?_
  refine W.eq (g2 := F0 m 36 ls []) rfl ?_
  refine lv_aload_n hx hb dk2_36 rfl (lv_at hl 0 rfl) ?_
  refine lv_sipush (v := 150) hx hb dk2_37 (by decide) ?_
  refine kz_new (atype := .int) (ty := .int) (cT := cs 0) (N' := 150) (t := 0) (a1 := (150, .inl (fun _ => 0))) hx hb (kw_ac B hW (ty := .int) (by decide +kernel)) rfl rfl (fun _ _ => rfl) hK hP hD hS hA (fun _ => rfl) (by decide) rfl (by decide +kernel) (Nat.le_of_ble_eq_true rfl) (Nat.le_of_ble_eq_true rfl) dk2_40 (fun q3 H hP hD hS => ?_)
  have hP := kc_Pa hP
  have hD := kc_Da hD
  refine kz_putF B hW (ci := 2) (k := 4) (idx := 26) (ty := (.array .int)) (v := .ref q3) (fs' := [.int 0, .ref q0, .ref q1, .ref q2, .ref q3, .null, .null]) (by decide) (by decide) hx hb hown hP hD hS (by decide +kernel) (by decide +kernel) hin (by decide +kernel) (by decide +kernel) rfl rfl (Nat.le_of_ble_eq_true rfl) rfl dk2_42 (fun H locs hP hD hS => ?_)
  refine W.widen (k := 4) (n := 600) (Nat.le_of_ble_eq_true rfl) (Nat.le_of_ble_eq_true rfl) ?_
  refine W.eq (g2 := F0 m 45 ls []) rfl ?_
  refine lv_aload_n hx hb dk2_45 rfl (lv_at hl 0 rfl) ?_
  refine lv_sipush (v := 150) hx hb dk2_46 (by decide) ?_
  refine kz_new (atype := .int) (ty := .int) (cT := cs 0) (N' := 150) (t := 0) (a1 := (150, .inl (fun _ => 0))) hx hb (kw_ac B hW (ty := .int) (by decide +kernel)) rfl rfl (fun _ _ => rfl) hK hP hD hS hA (fun _ => rfl) (by decide) rfl (by decide +kernel) (Nat.le_of_ble_eq_true rfl) (Nat.le_of_ble_eq_true rfl) dk2_49 (fun q4 H hP hD hS => ?_)
  have hP := kc_Pa hP
  have hD := kc_Da hD
  refine kz_putF B hW (ci := 2) (k := 5) (idx := 29) (ty := (.array .int)) (v := .ref q4) (fs' := [.int 0, .ref q0, .ref q1, .ref q2, .ref q3, .ref q4, .null]) (by decide) (by decide) hx hb hown hP hD hS (by decide +kernel) (by decide +kernel) hin (by decide +kernel) (by decide +kernel) rfl rfl (Nat.le_of_ble_eq_true rfl) rfl dk2_51 (fun H locs hP hD hS => ?_)
  refine W.widen (k := 5) (n := 750) (Nat.le_of_ble_eq_true rfl) (Nat.le_of_ble_eq_true rfl) ?_
  refine W.eq (g2 := F0 m 54 ls []) rfl ?_
  refine lv_aload_n hx hb dk2_54 rfl (lv_at hl 0 rfl) ?_
  refine lv_sipush (v := 150) hx hb dk2_55 (by decide) ?_
  refine kz_new (atype := .int) (ty := .int) (cT := cs 0) (N' := 150) (t := 0) (a1 := (150, .inl (fun _ => 0))) hx hb (kw_ac B hW (ty := .int) (by decide +kernel)) rfl rfl (fun _ _ => rfl) hK hP hD hS hA (fun _ => rfl) (by decide) rfl (by decide +kernel) (Nat.le_of_ble_eq_true rfl) (Nat.le_of_ble_eq_true rfl) dk2_58 (fun q5 H hP hD hS => ?_)
  have hP := kc_Pa hP
  have hD := kc_Da hD
  refine kz_putF B hW (ci := 2) (k := 6) (idx := 32) (ty := (.array .int)) (v := .ref q5) (fs' := [.int 0, .ref q0, .ref q1, .ref q2, .ref q3, .ref q4, .ref q5]) (by decide) (by decide) hx hb hown hP hD hS (by decide +kernel) (by decide +kernel) hin (by decide +kernel) (by decide +kernel) rfl rfl (Nat.le_of_ble_eq_true rfl) rfl dk2_60 (fun H locs hP hD hS => ?_)
  refine W.widen (k := 6) (n := 900) (Nat.le_of_ble_eq_true rfl) (Nat.le_of_ble_eq_true rfl) ?_
  refine W.eq (g2 := F0 m 63 ls []) rfl ?_
  refine W.widen (k := 6) (n := 900) (Nat.le_of_ble_eq_true rfl) (Nat.le_of_ble_eq_true rfl) ?_
  exact W.vret hx hb hr (fun t ht hW2 => ⟨⟨(fun i => [q0, q1, q2, q3, q4, q5].getD i 0), rfl, trivial, by rw [ht]; exact hP, hD⟩, hS.F ht⟩) hS.2.2 dk2_63
theorem dk3_0 : decode (mm_b 17) 0 = .ok (.aload_n 0, 1) := by decide +kernel
theorem dk3_1 : decode (mm_b 17) 1 = .ok (.invokespecial 3, 3) := by decide +kernel
theorem dk3_4 : decode (mm_b 17) 4 = .ok (.aload_n 0, 1) := by decide +kernel
theorem dk3_5 : decode (mm_b 17) 5 = .ok (.iconst 0, 1) := by decide +kernel
theorem dk3_6 : decode (mm_b 17) 6 = .ok (.putfield 9, 3) := by decide +kernel
theorem dk3_9 : decode (mm_b 17) 9 = .ok (.aload_n 0, 1) := by decide +kernel
theorem dk3_10 : decode (mm_b 17) 10 = .ok (.bipush 60, 2) := by decide +kernel
theorem dk3_12 : decode (mm_b 17) 12 = .ok (.newarray .int, 2) := by decide +kernel
theorem dk3_14 : decode (mm_b 17) 14 = .ok (.putfield 15, 3) := by decide +kernel
theorem dk3_17 : decode (mm_b 17) 17 = .ok (.aload_n 0, 1) := by decide +kernel
theorem dk3_18 : decode (mm_b 17) 18 = .ok (.bipush 60, 2) := by decide +kernel
theorem dk3_20 : decode (mm_b 17) 20 = .ok (.newarray .int, 2) := by decide +kernel
theorem dk3_22 : decode (mm_b 17) 22 = .ok (.putfield 19, 3) := by decide +kernel
theorem dk3_25 : decode (mm_b 17) 25 = .ok (.aload_n 0, 1) := by decide +kernel
theorem dk3_26 : decode (mm_b 17) 26 = .ok (.bipush 60, 2) := by decide +kernel
theorem dk3_28 : decode (mm_b 17) 28 = .ok (.newarray .int, 2) := by decide +kernel
theorem dk3_30 : decode (mm_b 17) 30 = .ok (.putfield 22, 3) := by decide +kernel
theorem dk3_33 : decode (mm_b 17) 33 = .ok (.return_, 1) := by decide +kernel
def kW3 (cs : Nat → ClassId) (h0 : Nat) (q : Nat → Nat) : va_W := (h0, .inr (3, [.int 0, .ref (q 0), .ref (q 1), .ref (q 2)])) :: (((([] : va_W) ++ [(q 0, .inl (cs 0, 60, .inl (fun _ => 0)))]) ++ [(q 1, .inl (cs 0, 60, .inl (fun _ => 0)))]) ++ [(q 2, .inl (cs 0, 60, .inl (fun _ => 0)))])
set_option maxRecDepth 20000 in
theorem kc3 {l : Launch} {s0 : State} {a0 : Array Value} {D : va_G} {cs : Nat → ClassId} {b Ls : Nat} {xs : Nat → Int32} (B : mm_Bs l s0 a0 D cs b Ls xs) (h0 sz : Nat) : Met l (mm_y 17) [.code (mm_y 17) (mm_b 17) 1 none] ({ frames := 1, cells := 3, slots := 180, locals := 12 }) (kc_Pc s0 D 3 [.int 0, .null, .null, .null] h0 sz) (kc_Qc D (kW3 cs) h0 sz) 3 180 (kA h0 sz) := by
  refine Met.ofW (cc := mm_b 17) (maxL := 1) (ret := none) (by decide +kernel) rfl ?_
  intro p e s m args below meth c s₁ B1 hml hv
  obtain ⟨rfl, hW, hsz, hP⟩ := hv
  have hx := B1.exec
  have hb := B1.bytes
  have hr := B1.returns
  have hown : s.vm.findClass (mm_rn 3) = some m.cls := findClass_of_methodNamed B1.named
  have hlocks := B1.notSynchronized
  have hin : meth.name = "<init>" := (name_of_methodNamed B1.named B1.method).1
  subst hsz
  have hK := mm_K B hW
  have hA : ∀ q : Nat, s.heap.size ≤ q → kA h0 s.heap.size q := fun q h => Or.inr h
  have hD : va_D (kA h0 s.heap.size) [(h0, .inr (3, [.int 0, .null, .null, .null]))] := kz_D1 (Or.inl rfl)
  have hS : va_S (kA h0 s.heap.size) s.heap s.heap [] := va_S.rf
  have hl := lv_entry ([.ref h0]) (n := 1) (Nat.le_of_ble_eq_true rfl)
  rw [lg_entry_eq]
  generalize (lg_sl ([.ref h0]) ++ List.replicate (1 - (lg_sl ([.ref h0])).length) Slot.unset).toArray = ls at hl ⊢
  have hl : lv_has ls 1 [(0, .ref h0)] := hl
  refine lv_aload_n hx hb dk3_0 rfl (lv_at hl 0 rfl) ?_
  refine W.objInit hx hb hown (kw_b B hW (w := .methodLink (mm_rn 3) 3 Jvm.Lib.objectInit) (by decide +kernel)) (kw_b B hW (w := .instanceMethod Jvm.Lib.objectInit) (by decide +kernel)) (kw_b B hW (w := .code Jvm.Lib.objectInit ⟨#[0xb1]⟩ 1 none) (by decide +kernel)) rfl (by rw [hml]; exact hl.1) rfl dk3_1 (Nat.le_of_ble_eq_true rfl) (Nat.le_of_ble_eq_true rfl) ?_
  refine W.eq (g2 := F0 m 4 ls []) rfl ?_
  refine lv_aload_n hx hb dk3_4 rfl (lv_at hl 0 rfl) ?_
  refine lv_iconst (v := 0) hx hb dk3_5 (by decide) ?_
  refine kz_put B hW (ci := 3) (k := 0) (idx := 9) (ty := .int) (v := .int 0) (fs' := [.int 0, .null, .null, .null]) (by decide) (by decide) hx hb hown hP hD hS (by decide +kernel) (by decide +kernel) (by decide +kernel) rfl rfl (Nat.le_of_ble_eq_true rfl) rfl dk3_6 (fun H locs hP hD hS => ?_)
  refine W.widen (k := 0) (n := 0) (Nat.le_of_ble_eq_true rfl) (Nat.le_of_ble_eq_true rfl) ?_
  refine W.eq (g2 := F0 m 9 ls []) rfl ?_
  refine lv_aload_n hx hb dk3_9 rfl (lv_at hl 0 rfl) ?_
  refine lv_bipush (v := 60) hx hb dk3_10 (by decide) ?_
  refine kz_new (atype := .int) (ty := .int) (cT := cs 0) (N' := 60) (t := 0) (a1 := (60, .inl (fun _ => 0))) hx hb (kw_ac B hW (ty := .int) (by decide +kernel)) rfl rfl (fun _ _ => rfl) hK hP hD hS hA (fun _ => rfl) (by decide) rfl (by decide +kernel) (Nat.le_of_ble_eq_true rfl) (Nat.le_of_ble_eq_true rfl) dk3_12 (fun q0 H hP hD hS => ?_)
  have hP := kc_Pa hP
  have hD := kc_Da hD
  refine kz_putF B hW (ci := 3) (k := 1) (idx := 15) (ty := (.array .int)) (v := .ref q0) (fs' := [.int 0, .ref q0, .null, .null]) (by decide) (by decide) hx hb hown hP hD hS (by decide +kernel) (by decide +kernel) hin (by decide +kernel) (by decide +kernel) rfl rfl (Nat.le_of_ble_eq_true rfl) rfl dk3_14 (fun H locs hP hD hS => ?_)
  refine W.widen (k := 1) (n := 60) (Nat.le_of_ble_eq_true rfl) (Nat.le_of_ble_eq_true rfl) ?_
  refine W.eq (g2 := F0 m 17 ls []) rfl ?_
  refine lv_aload_n hx hb dk3_17 rfl (lv_at hl 0 rfl) ?_
  refine lv_bipush (v := 60) hx hb dk3_18 (by decide) ?_
  refine kz_new (atype := .int) (ty := .int) (cT := cs 0) (N' := 60) (t := 0) (a1 := (60, .inl (fun _ => 0))) hx hb (kw_ac B hW (ty := .int) (by decide +kernel)) rfl rfl (fun _ _ => rfl) hK hP hD hS hA (fun _ => rfl) (by decide) rfl (by decide +kernel) (Nat.le_of_ble_eq_true rfl) (Nat.le_of_ble_eq_true rfl) dk3_20 (fun q1 H hP hD hS => ?_)
  have hP := kc_Pa hP
  have hD := kc_Da hD
  refine kz_putF B hW (ci := 3) (k := 2) (idx := 19) (ty := (.array .int)) (v := .ref q1) (fs' := [.int 0, .ref q0, .ref q1, .null]) (by decide) (by decide) hx hb hown hP hD hS (by decide +kernel) (by decide +kernel) hin (by decide +kernel) (by decide +kernel) rfl rfl (Nat.le_of_ble_eq_true rfl) rfl dk3_22 (fun H locs hP hD hS => ?_)
  refine W.widen (k := 2) (n := 120) (Nat.le_of_ble_eq_true rfl) (Nat.le_of_ble_eq_true rfl) ?_
  refine W.eq (g2 := F0 m 25 ls []) rfl ?_
  refine lv_aload_n hx hb dk3_25 rfl (lv_at hl 0 rfl) ?_
  refine lv_bipush (v := 60) hx hb dk3_26 (by decide) ?_
  refine kz_new (atype := .int) (ty := .int) (cT := cs 0) (N' := 60) (t := 0) (a1 := (60, .inl (fun _ => 0))) hx hb (kw_ac B hW (ty := .int) (by decide +kernel)) rfl rfl (fun _ _ => rfl) hK hP hD hS hA (fun _ => rfl) (by decide) rfl (by decide +kernel) (Nat.le_of_ble_eq_true rfl) (Nat.le_of_ble_eq_true rfl) dk3_28 (fun q2 H hP hD hS => ?_)
  have hP := kc_Pa hP
  have hD := kc_Da hD
  refine kz_putF B hW (ci := 3) (k := 3) (idx := 22) (ty := (.array .int)) (v := .ref q2) (fs' := [.int 0, .ref q0, .ref q1, .ref q2]) (by decide) (by decide) hx hb hown hP hD hS (by decide +kernel) (by decide +kernel) hin (by decide +kernel) (by decide +kernel) rfl rfl (Nat.le_of_ble_eq_true rfl) rfl dk3_30 (fun H locs hP hD hS => ?_)
  refine W.widen (k := 3) (n := 180) (Nat.le_of_ble_eq_true rfl) (Nat.le_of_ble_eq_true rfl) ?_
  refine W.eq (g2 := F0 m 33 ls []) rfl ?_
  refine W.widen (k := 3) (n := 180) (Nat.le_of_ble_eq_true rfl) (Nat.le_of_ble_eq_true rfl) ?_
  exact W.vret hx hb hr (fun t ht hW2 => ⟨⟨(fun i => [q0, q1, q2].getD i 0), rfl, trivial, by rw [ht]; exact hP, hD⟩, hS.F ht⟩) hS.2.2 dk3_33
theorem dk5_0 : decode (mm_b 32) 0 = .ok (.aload_n 0, 1) := by decide +kernel
theorem dk5_1 : decode (mm_b 32) 1 = .ok (.invokespecial 1, 3) := by decide +kernel
theorem dk5_4 : decode (mm_b 32) 4 = .ok (.aload_n 0, 1) := by decide +kernel
theorem dk5_5 : decode (mm_b 32) 5 = .ok (.new 7, 3) := by decide +kernel
theorem dk5_8 : decode (mm_b 32) 8 = .ok (.dup, 1) := by decide +kernel
theorem dk5_9 : decode (mm_b 32) 9 = .ok (.invokespecial 9, 3) := by decide +kernel
theorem dk5_12 : decode (mm_b 32) 12 = .ok (.putfield 10, 3) := by decide +kernel
theorem dk5_15 : decode (mm_b 32) 15 = .ok (.aload_n 0, 1) := by decide +kernel
theorem dk5_16 : decode (mm_b 32) 16 = .ok (.new 16, 3) := by decide +kernel
theorem dk5_19 : decode (mm_b 32) 19 = .ok (.dup, 1) := by decide +kernel
theorem dk5_20 : decode (mm_b 32) 20 = .ok (.invokespecial 18, 3) := by decide +kernel
theorem dk5_23 : decode (mm_b 32) 23 = .ok (.putfield 19, 3) := by decide +kernel
theorem dk5_26 : decode (mm_b 32) 26 = .ok (.aload_n 0, 1) := by decide +kernel
theorem dk5_27 : decode (mm_b 32) 27 = .ok (.new 23, 3) := by decide +kernel
theorem dk5_30 : decode (mm_b 32) 30 = .ok (.dup, 1) := by decide +kernel
theorem dk5_31 : decode (mm_b 32) 31 = .ok (.invokespecial 25, 3) := by decide +kernel
theorem dk5_34 : decode (mm_b 32) 34 = .ok (.putfield 26, 3) := by decide +kernel
theorem dk5_37 : decode (mm_b 32) 37 = .ok (.aload_n 0, 1) := by decide +kernel
theorem dk5_38 : decode (mm_b 32) 38 = .ok (.new 30, 3) := by decide +kernel
theorem dk5_41 : decode (mm_b 32) 41 = .ok (.dup, 1) := by decide +kernel
theorem dk5_42 : decode (mm_b 32) 42 = .ok (.invokespecial 32, 3) := by decide +kernel
theorem dk5_45 : decode (mm_b 32) 45 = .ok (.putfield 33, 3) := by decide +kernel
theorem dk5_48 : decode (mm_b 32) 48 = .ok (.aload_n 0, 1) := by decide +kernel
theorem dk5_49 : decode (mm_b 32) 49 = .ok (.new 37, 3) := by decide +kernel
theorem dk5_52 : decode (mm_b 32) 52 = .ok (.dup, 1) := by decide +kernel
theorem dk5_53 : decode (mm_b 32) 53 = .ok (.invokespecial 39, 3) := by decide +kernel
theorem dk5_56 : decode (mm_b 32) 56 = .ok (.putfield 40, 3) := by decide +kernel
theorem dk5_59 : decode (mm_b 32) 59 = .ok (.aload_n 0, 1) := by decide +kernel
theorem dk5_60 : decode (mm_b 32) 60 = .ok (.bipush 6, 2) := by decide +kernel
theorem dk5_62 : decode (mm_b 32) 62 = .ok (.newarray .int, 2) := by decide +kernel
theorem dk5_64 : decode (mm_b 32) 64 = .ok (.putfield 44, 3) := by decide +kernel
theorem dk5_67 : decode (mm_b 32) 67 = .ok (.aload_n 0, 1) := by decide +kernel
theorem dk5_68 : decode (mm_b 32) 68 = .ok (.bipush 24, 2) := by decide +kernel
theorem dk5_70 : decode (mm_b 32) 70 = .ok (.newarray .int, 2) := by decide +kernel
theorem dk5_72 : decode (mm_b 32) 72 = .ok (.putfield 48, 3) := by decide +kernel
theorem dk5_75 : decode (mm_b 32) 75 = .ok (.aload_n 0, 1) := by decide +kernel
theorem dk5_76 : decode (mm_b 32) 76 = .ok (.iconst 0, 1) := by decide +kernel
theorem dk5_77 : decode (mm_b 32) 77 = .ok (.putfield 51, 3) := by decide +kernel
theorem dk5_80 : decode (mm_b 32) 80 = .ok (.return_, 1) := by decide +kernel
def kW5 (cs : Nat → ClassId) (h0 : Nat) (q : Nat → Nat → Nat) : va_W := (h0, .inr (5, [.ref (q 0 0), .ref (q 0 1), .ref (q 0 2), .ref (q 0 3), .ref (q 0 4), .ref (q 0 5), .ref (q 0 6), .int 0])) :: (((((((([] : va_W) ++ kW1 cs (q 0 0) (q 1)) ++ kW0 cs (q 0 1) (q 2)) ++ kW4 cs (q 0 2) (q 3)) ++ kW2 cs (q 0 3) (q 4)) ++ kW3 cs (q 0 4) (q 5)) ++ [(q 0 5, .inl (cs 0, 6, .inl (fun _ => 0)))]) ++ [(q 0 6, .inl (cs 0, 24, .inl (fun _ => 0)))])
set_option maxRecDepth 20000 in
theorem kc5 {l : Launch} {s0 : State} {a0 : Array Value} {D : va_G} {cs : Nat → ClassId} {b Ls : Nat} {xs : Nat → Int32} (B : mm_Bs l s0 a0 D cs b Ls xs) (h0 sz : Nat) : Met l (mm_y 32) [.code (mm_y 32) (mm_b 32) 1 none] ({ frames := 2, cells := 80, slots := 2566, locals := 32 }) (kc_Pc s0 D 5 [.null, .null, .null, .null, .null, .null, .null, .int 0] h0 sz) (kc_Qc D (kW5 cs) h0 sz) 80 2566 (kA h0 sz) := by
  refine Met.ofW (cc := mm_b 32) (maxL := 1) (ret := none) (by decide +kernel) rfl ?_
  intro p e s m args below meth c s₁ B1 hml hv
  obtain ⟨rfl, hW, hsz, hP⟩ := hv
  have hx := B1.exec
  have hb := B1.bytes
  have hr := B1.returns
  have hown : s.vm.findClass (mm_rn 5) = some m.cls := findClass_of_methodNamed B1.named
  have hlocks := B1.notSynchronized
  have hin : meth.name = "<init>" := (name_of_methodNamed B1.named B1.method).1
  subst hsz
  have hK := mm_K B hW
  have hA : ∀ q : Nat, s.heap.size ≤ q → kA h0 s.heap.size q := fun q h => Or.inr h
  have hD : va_D (kA h0 s.heap.size) [(h0, .inr (5, [.null, .null, .null, .null, .null, .null, .null, .int 0]))] := kz_D1 (Or.inl rfl)
  have hS : va_S (kA h0 s.heap.size) s.heap s.heap [] := va_S.rf
  have hl := lv_entry ([.ref h0]) (n := 1) (Nat.le_of_ble_eq_true rfl)
  rw [lg_entry_eq]
  generalize (lg_sl ([.ref h0]) ++ List.replicate (1 - (lg_sl ([.ref h0])).length) Slot.unset).toArray = ls at hl ⊢
  have hl : lv_has ls 1 [(0, .ref h0)] := hl
  refine lv_aload_n hx hb dk5_0 rfl (lv_at hl 0 rfl) ?_
  refine W.objInit hx hb hown (kw_b B hW (w := .methodLink (mm_rn 5) 1 Jvm.Lib.objectInit) (by decide +kernel)) (kw_b B hW (w := .instanceMethod Jvm.Lib.objectInit) (by decide +kernel)) (kw_b B hW (w := .code Jvm.Lib.objectInit ⟨#[0xb1]⟩ 1 none) (by decide +kernel)) rfl (by rw [hml]; exact hl.1) rfl dk5_1 (Nat.le_of_ble_eq_true rfl) (Nat.le_of_ble_eq_true rfl) ?_
  refine W.eq (g2 := F0 m 4 ls []) rfl ?_
  refine lv_aload_n hx hb dk5_4 rfl (lv_at hl 0 rfl) ?_
  refine kz_make (S := Nat → Nat) (kW := kW1 cs) (MC := 8) (MS := 48) (fs := [.int 0, .null, .null]) B hW (ci := 1) (by decide) hx hb hown (by decide +kernel) (by decide +kernel) (by decide +kernel) ?_ hP hD hS hA (Nat.le_of_ble_eq_true rfl) (Nat.le_of_ble_eq_true rfl) dk5_5 dk5_8 (fun q H1 hPq => kz_runIN B hW (own := mm_rn 5) (nL := 1) (J := 8) (w := 80) hx hb hml hown (kc1 B q H1.size) rfl rfl (Nat.le_of_ble_eq_true rfl) (Nat.le_of_ble_eq_true rfl) (by decide +kernel) (by decide +kernel) (by decide +kernel) (by decide +kernel) (by decide +kernel) (by decide +kernel) (by decide +kernel) hPq hl.1 ⟨Nat.le_refl _, Nat.le_of_ble_eq_true rfl⟩ dk5_9 (Nat.le_of_ble_eq_true rfl) (Nat.le_of_ble_eq_true rfl)) (fun q0 f0 H locs hP hD hS => ?_)
  · intro j hj
    exact mm_rows (P := fun j => defaultValue (mm_tyf 1 j) = vp_V [.int 0, .null, .null] j) (n := 3) (by decide +kernel) hj
  have hP := kc_Pa hP
  have hD := kc_Da hD
  refine kz_putF B hW (ci := 5) (k := 0) (idx := 10) (ty := (.object "WareHall$Items")) (v := .ref q0) (fs' := [.ref q0, .null, .null, .null, .null, .null, .null, .int 0]) (by decide) (by decide) hx hb hown hP hD hS (by decide +kernel) (by decide +kernel) hin (by decide +kernel) (by decide +kernel) rfl rfl (Nat.le_of_ble_eq_true rfl) rfl dk5_12 (fun H locs hP hD hS => ?_)
  refine W.widen (k := 9) (n := 51) (Nat.le_of_ble_eq_true rfl) (Nat.le_of_ble_eq_true rfl) ?_
  refine W.eq (g2 := F0 m 15 ls []) rfl ?_
  refine lv_aload_n hx hb dk5_15 rfl (lv_at hl 0 rfl) ?_
  refine kz_make (S := Nat → Nat) (kW := kW0 cs) (MC := 31) (MS := 1160) (fs := [.int 0, .null, .null, .null, .null, .null, .null, .null]) B hW (ci := 0) (by decide) hx hb hown (by decide +kernel) (by decide +kernel) (by decide +kernel) ?_ hP hD hS hA (Nat.le_of_ble_eq_true rfl) (Nat.le_of_ble_eq_true rfl) dk5_16 dk5_19 (fun q H1 hPq => kz_runIN B hW (own := mm_rn 5) (nL := 1) (J := 0) (w := 102) hx hb hml hown (kc0 B q H1.size) rfl rfl (Nat.le_of_ble_eq_true rfl) (Nat.le_of_ble_eq_true rfl) (by decide +kernel) (by decide +kernel) (by decide +kernel) (by decide +kernel) (by decide +kernel) (by decide +kernel) (by decide +kernel) hPq hl.1 ⟨Nat.le_refl _, Nat.le_of_ble_eq_true rfl⟩ dk5_20 (Nat.le_of_ble_eq_true rfl) (Nat.le_of_ble_eq_true rfl)) (fun q1 f1 H locs hP hD hS => ?_)
  · intro j hj
    exact mm_rows (P := fun j => defaultValue (mm_tyf 0 j) = vp_V [.int 0, .null, .null, .null, .null, .null, .null, .null] j) (n := 8) (by decide +kernel) hj
  have hP := kc_Pa hP
  have hD := kc_Da hD
  refine kz_putF B hW (ci := 5) (k := 1) (idx := 19) (ty := (.object "WareHall$Goods")) (v := .ref q1) (fs' := [.ref q0, .ref q1, .null, .null, .null, .null, .null, .int 0]) (by decide) (by decide) hx hb hown hP hD hS (by decide +kernel) (by decide +kernel) hin (by decide +kernel) (by decide +kernel) rfl rfl (Nat.le_of_ble_eq_true rfl) rfl dk5_23 (fun H locs hP hD hS => ?_)
  refine W.widen (k := 41) (n := 1219) (Nat.le_of_ble_eq_true rfl) (Nat.le_of_ble_eq_true rfl) ?_
  refine W.eq (g2 := F0 m 26 ls []) rfl ?_
  refine lv_aload_n hx hb dk5_26 rfl (lv_at hl 0 rfl) ?_
  refine kz_make (S := Nat → Nat) (kW := kW4 cs) (MC := 25) (MS := 220) (fs := [.int 0, .null, .null, .null, .null, .null]) B hW (ci := 4) (by decide) hx hb hown (by decide +kernel) (by decide +kernel) (by decide +kernel) ?_ hP hD hS hA (Nat.le_of_ble_eq_true rfl) (Nat.le_of_ble_eq_true rfl) dk5_27 dk5_30 (fun q H1 hPq => kz_runIN B hW (own := mm_rn 5) (nL := 1) (J := 25) (w := 142) hx hb hml hown (kc4 B q H1.size) rfl rfl (Nat.le_of_ble_eq_true rfl) (Nat.le_of_ble_eq_true rfl) (by decide +kernel) (by decide +kernel) (by decide +kernel) (by decide +kernel) (by decide +kernel) (by decide +kernel) (by decide +kernel) hPq hl.1 ⟨Nat.le_refl _, Nat.le_of_ble_eq_true rfl⟩ dk5_31 (Nat.le_of_ble_eq_true rfl) (Nat.le_of_ble_eq_true rfl)) (fun q2 f2 H locs hP hD hS => ?_)
  · intro j hj
    exact mm_rows (P := fun j => defaultValue (mm_tyf 4 j) = vp_V [.int 0, .null, .null, .null, .null, .null] j) (n := 6) (by decide +kernel) hj
  have hP := kc_Pa hP
  have hD := kc_Da hD
  refine kz_putF B hW (ci := 5) (k := 2) (idx := 26) (ty := (.object "WareHall$Promises")) (v := .ref q2) (fs' := [.ref q0, .ref q1, .ref q2, .null, .null, .null, .null, .int 0]) (by decide) (by decide) hx hb hown hP hD hS (by decide +kernel) (by decide +kernel) hin (by decide +kernel) (by decide +kernel) rfl rfl (Nat.le_of_ble_eq_true rfl) rfl dk5_34 (fun H locs hP hD hS => ?_)
  refine W.widen (k := 67) (n := 1445) (Nat.le_of_ble_eq_true rfl) (Nat.le_of_ble_eq_true rfl) ?_
  refine W.eq (g2 := F0 m 37 ls []) rfl ?_
  refine lv_aload_n hx hb dk5_37 rfl (lv_at hl 0 rfl) ?_
  refine kz_make (S := Nat → Nat) (kW := kW2 cs) (MC := 6) (MS := 900) (fs := [.int 0, .null, .null, .null, .null, .null, .null]) B hW (ci := 2) (by decide) hx hb hown (by decide +kernel) (by decide +kernel) (by decide +kernel) ?_ hP hD hS hA (Nat.le_of_ble_eq_true rfl) (Nat.le_of_ble_eq_true rfl) dk5_38 dk5_41 (fun q H1 hPq => kz_runIN B hW (own := mm_rn 5) (nL := 1) (J := 12) (w := 174) hx hb hml hown (kc2 B q H1.size) rfl rfl (Nat.le_of_ble_eq_true rfl) (Nat.le_of_ble_eq_true rfl) (by decide +kernel) (by decide +kernel) (by decide +kernel) (by decide +kernel) (by decide +kernel) (by decide +kernel) (by decide +kernel) hPq hl.1 ⟨Nat.le_refl _, Nat.le_of_ble_eq_true rfl⟩ dk5_42 (Nat.le_of_ble_eq_true rfl) (Nat.le_of_ble_eq_true rfl)) (fun q3 f3 H locs hP hD hS => ?_)
  · intro j hj
    exact mm_rows (P := fun j => defaultValue (mm_tyf 2 j) = vp_V [.int 0, .null, .null, .null, .null, .null, .null] j) (n := 7) (by decide +kernel) hj
  have hP := kc_Pa hP
  have hD := kc_Da hD
  refine kz_putF B hW (ci := 5) (k := 3) (idx := 33) (ty := (.object "WareHall$Journal")) (v := .ref q3) (fs' := [.ref q0, .ref q1, .ref q2, .ref q3, .null, .null, .null, .int 0]) (by decide) (by decide) hx hb hown hP hD hS (by decide +kernel) (by decide +kernel) hin (by decide +kernel) (by decide +kernel) rfl rfl (Nat.le_of_ble_eq_true rfl) rfl dk5_45 (fun H locs hP hD hS => ?_)
  refine W.widen (k := 74) (n := 2352) (Nat.le_of_ble_eq_true rfl) (Nat.le_of_ble_eq_true rfl) ?_
  refine W.eq (g2 := F0 m 48 ls []) rfl ?_
  refine lv_aload_n hx hb dk5_48 rfl (lv_at hl 0 rfl) ?_
  refine kz_make (S := Nat → Nat) (kW := kW3 cs) (MC := 3) (MS := 180) (fs := [.int 0, .null, .null, .null]) B hW (ci := 3) (by decide) hx hb hown (by decide +kernel) (by decide +kernel) (by decide +kernel) ?_ hP hD hS hA (Nat.le_of_ble_eq_true rfl) (Nat.le_of_ble_eq_true rfl) dk5_49 dk5_52 (fun q H1 hPq => kz_runIN B hW (own := mm_rn 5) (nL := 1) (J := 17) (w := 208) hx hb hml hown (kc3 B q H1.size) rfl rfl (Nat.le_of_ble_eq_true rfl) (Nat.le_of_ble_eq_true rfl) (by decide +kernel) (by decide +kernel) (by decide +kernel) (by decide +kernel) (by decide +kernel) (by decide +kernel) (by decide +kernel) hPq hl.1 ⟨Nat.le_refl _, Nat.le_of_ble_eq_true rfl⟩ dk5_53 (Nat.le_of_ble_eq_true rfl) (Nat.le_of_ble_eq_true rfl)) (fun q4 f4 H locs hP hD hS => ?_)
  · intro j hj
    exact mm_rows (P := fun j => defaultValue (mm_tyf 3 j) = vp_V [.int 0, .null, .null, .null] j) (n := 4) (by decide +kernel) hj
  have hP := kc_Pa hP
  have hD := kc_Da hD
  refine kz_putF B hW (ci := 5) (k := 4) (idx := 40) (ty := (.object "WareHall$Lines")) (v := .ref q4) (fs' := [.ref q0, .ref q1, .ref q2, .ref q3, .ref q4, .null, .null, .int 0]) (by decide) (by decide) hx hb hown hP hD hS (by decide +kernel) (by decide +kernel) hin (by decide +kernel) (by decide +kernel) rfl rfl (Nat.le_of_ble_eq_true rfl) rfl dk5_56 (fun H locs hP hD hS => ?_)
  refine W.widen (k := 78) (n := 2536) (Nat.le_of_ble_eq_true rfl) (Nat.le_of_ble_eq_true rfl) ?_
  refine W.eq (g2 := F0 m 59 ls []) rfl ?_
  refine lv_aload_n hx hb dk5_59 rfl (lv_at hl 0 rfl) ?_
  refine lv_bipush (v := 6) hx hb dk5_60 (by decide) ?_
  refine kz_new (atype := .int) (ty := .int) (cT := cs 0) (N' := 6) (t := 0) (a1 := (6, .inl (fun _ => 0))) hx hb (kw_ac B hW (ty := .int) (by decide +kernel)) rfl rfl (fun _ _ => rfl) hK hP hD hS hA (fun _ => rfl) (by decide) rfl (by decide +kernel) (Nat.le_of_ble_eq_true rfl) (Nat.le_of_ble_eq_true rfl) dk5_62 (fun q5 H hP hD hS => ?_)
  have hP := kc_Pa hP
  have hD := kc_Da hD
  refine kz_putF B hW (ci := 5) (k := 5) (idx := 44) (ty := (.array .int)) (v := .ref q5) (fs' := [.ref q0, .ref q1, .ref q2, .ref q3, .ref q4, .ref q5, .null, .int 0]) (by decide) (by decide) hx hb hown hP hD hS (by decide +kernel) (by decide +kernel) hin (by decide +kernel) (by decide +kernel) rfl rfl (Nat.le_of_ble_eq_true rfl) rfl dk5_64 (fun H locs hP hD hS => ?_)
  refine W.widen (k := 79) (n := 2542) (Nat.le_of_ble_eq_true rfl) (Nat.le_of_ble_eq_true rfl) ?_
  refine W.eq (g2 := F0 m 67 ls []) rfl ?_
  refine lv_aload_n hx hb dk5_67 rfl (lv_at hl 0 rfl) ?_
  refine lv_bipush (v := 24) hx hb dk5_68 (by decide) ?_
  refine kz_new (atype := .int) (ty := .int) (cT := cs 0) (N' := 24) (t := 0) (a1 := (24, .inl (fun _ => 0))) hx hb (kw_ac B hW (ty := .int) (by decide +kernel)) rfl rfl (fun _ _ => rfl) hK hP hD hS hA (fun _ => rfl) (by decide) rfl (by decide +kernel) (Nat.le_of_ble_eq_true rfl) (Nat.le_of_ble_eq_true rfl) dk5_70 (fun q6 H hP hD hS => ?_)
  have hP := kc_Pa hP
  have hD := kc_Da hD
  refine kz_putF B hW (ci := 5) (k := 6) (idx := 48) (ty := (.array .int)) (v := .ref q6) (fs' := [.ref q0, .ref q1, .ref q2, .ref q3, .ref q4, .ref q5, .ref q6, .int 0]) (by decide) (by decide) hx hb hown hP hD hS (by decide +kernel) (by decide +kernel) hin (by decide +kernel) (by decide +kernel) rfl rfl (Nat.le_of_ble_eq_true rfl) rfl dk5_72 (fun H locs hP hD hS => ?_)
  refine W.widen (k := 80) (n := 2566) (Nat.le_of_ble_eq_true rfl) (Nat.le_of_ble_eq_true rfl) ?_
  refine W.eq (g2 := F0 m 75 ls []) rfl ?_
  refine lv_aload_n hx hb dk5_75 rfl (lv_at hl 0 rfl) ?_
  refine lv_iconst (v := 0) hx hb dk5_76 (by decide) ?_
  refine kz_put B hW (ci := 5) (k := 7) (idx := 51) (ty := .int) (v := .int 0) (fs' := [.ref q0, .ref q1, .ref q2, .ref q3, .ref q4, .ref q5, .ref q6, .int 0]) (by decide) (by decide) hx hb hown hP hD hS (by decide +kernel) (by decide +kernel) (by decide +kernel) rfl rfl (Nat.le_of_ble_eq_true rfl) rfl dk5_77 (fun H locs hP hD hS => ?_)
  refine W.widen (k := 80) (n := 2566) (Nat.le_of_ble_eq_true rfl) (Nat.le_of_ble_eq_true rfl) ?_
  refine W.eq (g2 := F0 m 80 ls []) rfl ?_
  refine W.widen (k := 80) (n := 2566) (Nat.le_of_ble_eq_true rfl) (Nat.le_of_ble_eq_true rfl) ?_
  exact W.vret hx hb hr (fun t ht hW2 => ⟨⟨(fun i => [(fun j => [q0, q1, q2, q3, q4, q5, q6].getD j 0), f0, f1, f2, f3, f4].getD i (fun _ => 0)), rfl, trivial, by rw [ht]; exact hP, hD⟩, hS.F ht⟩) hS.2.2 dk5_80
