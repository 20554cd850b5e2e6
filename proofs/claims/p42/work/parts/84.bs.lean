/-! what holds of the launch and of the law's start -/
theorem bs_flag {l : Launch} (h : l.flags = flags0) : l.stackTraces = false := by
  unfold Launch.stackTraces
  rw [h]
  decide +kernel
theorem bs_arr {s : State} {args : Array Value} {ty : FieldType} (hra : ∀ (U : State) (cA : ClassId), va_RA U cA ty = (U.vm.findClass ("[" ++ ty.toString) = some cA)) (h : (Cond.arrayClass ty).before args s = true) : ∃ cA : ClassId, ArrOfT s cA ty ∧ va_RA s cA ty := by
  obtain ⟨c, k, comp, h1, h2, h3⟩ := Cond.arrayClass_spec h
  exact ⟨c, fun n z => ⟨fun k h => (by cases h), k, h2, comp, h3⟩, by rw [hra]; exact h1⟩
theorem bs_ovr {s : State} {args : Array Value} {t : FieldType} (h : (Cond.arrayOver (.array t)).before args s = true) : ∃ cA : ClassId, ArrOfT s cA (.array t) ∧ va_RA s cA (.array t) := by
  obtain ⟨comp, c, k, h0, h2, h3, h1⟩ := Cond.arrayOver_specA h
  exact ⟨c, fun n z => ⟨fun k h => (by cases h), k, h2, comp, h3⟩, h1⟩
theorem bs_str {s : State} {args : Array Value} {own tx : String} {k : Nat} (h1 : (Cond.stringRef own k tx).before args s = true) (h2 : (Cond.exactly (.string own k) "java/lang/String").before args s = true) : ∃ sa, vk_R own k tx sa s := by
  obtain ⟨a, c, cell, kk, h3, -⟩ := Cond.exactly_spec h2
  exact ⟨a, h1, h3⟩
theorem bs_strs : mm_tL.all (fun t => decide (Cond.stringRef RX5 t.2.2.2.1 t.2.2.2.2.2.1 ∈ lw_tbl) && decide (Cond.exactly (.string RX5 t.2.2.2.1) "java/lang/String" ∈ flatC (Jvm.Cond.and given_1 narrow_1))) = true := by decide +kernel
theorem bs_nc : (List.range 5).all (fun e => (List.range 5).all (fun e' => decide (e = e') || decide (Jvm.Cond.not (Cond.castable (mm_eN e) (mm_eN e')) ∈ flatC (Jvm.Cond.and given_1 narrow_1)))) = true := by decide +kernel
theorem bs_inst {i : Nat} (h : i < 6) : ∀ w ∈ u_ws (mm_rn i) (mm_T i) (mm_N i), w ∈ lw_tbl := fun w hw => by
  have h1 := List.all_eq_true.mp (mm_ly h) w hw
  simp only [Bool.and_eq_true, decide_eq_true_eq] at h1
  exact h1.1.1
theorem bs_of {p : Program} {s : State} {m : MethodId} {meth : Method} {c : Code} {l : Launch} (hflags : l.flags = flags0) {b L : Nat} {xs : Nat → Int32} (hL : L ≤ 260) (C0 : lw_At p s m meth c b L xs) : ∃ (D : va_G) (cs : Nat → ClassId), mm_Bs l s #[Value.ref b] D cs b L xs := by
  obtain ⟨hx, hb, hr, hml, hown, hts, hX, hbl, hlocks, hgv⟩ := id C0
  have hfl := flat_of_before _ hgv
  have hA : ∀ a : Nat, a < s.heap.size → ¬ (fun q : Nat => s.heap.size ≤ q) a := fun a h => Nat.not_le.mpr h
  have hkn : ∀ i, i < 6 → ∃ (cC : ClassId) (iS : Nat → Nat), u_Kn s (mm_rn i) (mm_T i) (mm_N i) cC iS := fun i hi =>
    u_known (n := mm_N i) hts (bs_inst hi) (hts _ (mm_7 (P := fun i => Cond.instantiable (mm_rn i) (mm_N i) ∈ lw_tbl) (by decide +kernel) (by decide +kernel) (by decide +kernel) (by decide +kernel) (by decide +kernel) (by decide +kernel) hi))
  obtain ⟨dC, hdC⟩ : ∃ dC : Nat → ClassId, ∀ i, i < 6 → ∃ iS : Nat → Nat, u_Kn s (mm_rn i) (mm_T i) (mm_N i) (dC i) iS := by
    have := fun i => (Classical.em (i < 6)).elim (fun h => Or.inl h) (fun h => Or.inr h)
    exact ⟨fun i => if h : i < 6 then (hkn i h).choose else 0, fun i h => by
      show ∃ iS : Nat → Nat, u_Kn s (mm_rn i) (mm_T i) (mm_N i) (if h : i < 6 then (hkn i h).choose else 0) iS
      rw [dif_pos h]
      exact (hkn i h).choose_spec⟩
  obtain ⟨dI, hdI⟩ : ∃ dI : Nat → Nat → Nat, ∀ i, i < 6 → u_Kn s (mm_rn i) (mm_T i) (mm_N i) (dC i) (dI i) := by
    exact ⟨fun i => if h : i < 6 then (hdC i h).choose else fun _ => 0, fun i h => by
      show u_Kn s (mm_rn i) (mm_T i) (mm_N i) (dC i) (if h : i < 6 then (hdC i h).choose else fun _ => 0)
      rw [dif_pos h]
      exact (hdC i h).choose_spec⟩
  obtain ⟨c0, a0, r0⟩ := bs_arr (ty := .int) (fun _ _ => rfl) (hts (.arrayClass .int) (by decide +kernel))
  obtain ⟨c1, a1, r1⟩ := bs_arr (ty := .char) (fun _ _ => rfl) (hts (.arrayClass .char) (by decide +kernel))
  obtain ⟨c2, a2, r2⟩ := bs_ovr (t := .int) (hts (.arrayOver (.array .int)) (by decide +kernel))
  refine ⟨(dC, dI), fun i => if i = 0 then c0 else if i = 1 then c1 else c2, bs_flag hflags, hts, ⟨?_, ?_⟩, ?_, ?_, ?_, ?_, hX, hbl, by omega⟩
  · intro k q hq
    have hk : k < 6 := (List.getElem?_eq_some_iff.mp hq).1
    have := mm_clok hk
    rw [hq] at this
    cases this
    exact hdI k hk
  · intro k q hq
    match k, hq with
    | 0, hq => cases hq; exact ⟨a0, r0⟩
    | 1, hq => cases hq; exact ⟨a1, r1⟩
    | 2, hq => cases hq; exact ⟨a2, r2⟩
    | k + 3, hq => simp [mm_tys] at hq
  · exact vx_Zqof (hts _ (by decide +kernel)) (hts _ (by decide +kernel)) (hfl _ (by decide +kernel)) hA
  · exact vx_Zqof (hts _ (by decide +kernel)) (hts _ (by decide +kernel)) (hfl _ (by decide +kernel)) hA
  · intro t ht
    have h1 := List.all_eq_true.mp bs_strs t ht
    simp only [Bool.and_eq_true, decide_eq_true_eq] at h1
    exact bs_str (hts _ h1.1) (hfl _ h1.2)
  · intro e e' he he' hne
    have h1 := List.all_eq_true.mp (List.all_eq_true.mp bs_nc e (List.mem_range.mpr he)) e' (List.mem_range.mpr he')
    simp only [Bool.or_eq_true, decide_eq_true_eq] at h1
    exact va_Nc.of (hfl _ (h1.resolve_left hne))
