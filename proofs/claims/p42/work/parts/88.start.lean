/-! THE LAW, from its entry through its constructor, and through it -/
theorem dl_0 : decode code 0 = .ok (.new 8, 3) := by decide +kernel
theorem dl_3 : decode code 3 = .ok (.dup, 1) := by decide +kernel
theorem dl_4 : decode code 4 = .ok (.invokespecial 193, 3) := by decide +kernel
theorem dl_7 : decode code 7 = .ok (.astore_n 1, 1) := by decide +kernel
theorem e123 : mm_b 123 = code := rfl
theorem n123 : mm_mc 123 = 600104 ∧ mm_fr 123 ≤ 13 ∧ mm_lo 123 ≤ 480 ∧ mm_maxL 123 = 12 ∧ mm_ret 123 = ret ∧ mm_rn (mm_own 123) = R_law ∧ mm_hh 123 = [] := by decide +kernel
abbrev LZ : List Value := [.ref 81, .ref 0, .retAddr 0, .retAddr 0, .retAddr 0, .retAddr 0, .retAddr 0, .retAddr 0, .retAddr 0, .retAddr 0, .retAddr 0, .retAddr 0]
theorem z_ad {q : Nat} {f : Nat → Nat → Nat} {b : Nat} : zad (zG q f) b 81 = b ∧ zad (zG q f) b 0 = q := by
  have h : zTab.getD 0 (0, 0) = (0, 0) := by decide +kernel
  unfold zad
  rw [h]
  exact ⟨rfl, rfl⟩
theorem z_LR {G : Nat → Nat} {b q : Nat} {ls : Array Slot} (h1 : zad G b 81 = b) (h2 : zad G b 0 = q) (hl : lv_has ls 12 [(1, .ref q), (0, .ref b)]) : mm_LR (zad G b) ls LZ := by
  refine ⟨hl.1, hl.2.1, fun i x hx hn => ?_⟩
  match i, hx with
  | 0, hx =>
    cases hx
    show ls[0]? = some (.val (.ref (zad G b 81)))
    rw [h1]
    exact hl.2.2 (0, .ref b) (by simp)
  | 1, hx =>
    cases hx
    show ls[1]? = some (.val (.ref (zad G b 0)))
    rw [h2]
    exact hl.2.2 (1, .ref q) (by simp)
  | i + 2, hx =>
    have hx : (List.replicate 10 (Value.retAddr 0))[i]? = some x := hx
    have := List.eq_of_mem_replicate (List.mem_of_getElem? hx)
    exact absurd this (hn 0)
theorem loop_start {p : Program} {e : Env} {s : State} {m : MethodId} {below : List Frame} {meth : Method} {c : Code} {l : Launch} {b L : Nat} {xs : Nat → Int32} {D : va_G} {cs : Nat → ClassId} (B : mm_Bs l s #[Value.ref b] D cs b L xs) (hL : L ≤ 260) (hex : ∀ x ∈ c.exceptionTable.toList, False) (C0 : lw_At p s m meth c b L xs) {q : Nat} {f : Nat → Nat → Nat} {H : Heap} {locs : List Loc} {ls : Array Slot}
    (hP : va_P D vwCl (zAll.map (zZ cs (zG q f))) H) (hD : va_D (mm_A s) (zAll.map (zZ cs (zG q f)))) (hS : va_S (mm_A s) s.heap H locs) (hl : lv_has ls 12 [(1, .ref q), (0, .ref b)]) :
    W p l e room_1 s m #[Value.ref b] below meth c H locs 430 (6 * 430) (lw_Z below #[Value.ref b] s) (F0 m 8 ls []) := by
  obtain ⟨hx, hb, hr, hml, hown, hts, hX, hbl, hlocks, hgv⟩ := id C0
  obtain ⟨n1, n2, n3, n4, n5, n6, n7⟩ := n123
  obtain ⟨a1, a2⟩ := z_ad (q := q) (f := f) (b := b)
  have hw := zWorld (s0 := s) (G := zG q f) (b := b) (Ls := L) (xs := xs) hS.1 (fun a ha => hS.2.1 a ha (Nat.not_le.mpr ha)) hP hD
  obtain ⟨n, o, v', hgo, ho⟩ := law_run (w0 := v0 xs L) (Ls := L) (K := fun o _ => o = .inl (some (.int 1))) (by omega) repC0 (by rfl) (fun w' => rfl)
  have ho : o = .inl (some (.int 1)) := ho
  subst ho
  have X : mm_Fx s 123 p room_1 s m meth c := ⟨hx, by rw [e123]; exact hb, by rw [n5]; exact hr, by rw [n4]; exact hml, by rw [n6]; exact hown, hlocks, State.WarmedH.refl s, Nat.le_refl _, fun _ _ => rfl, n2, n3, by rw [n1]; exact Nat.le_of_ble_eq_true rfl, by rw [n1]; exact Nat.le_of_ble_eq_true rfl, by rw [n7]; exact List.eq_nil_iff_forall_not_mem.mpr fun x hx => hex x hx⟩
  refine mm_snd B n 123 8 _ [] (v0 xs L) 430 _ v' hgo p e room_1 s m #[Value.ref b] below meth c _ X ⟨by rw [n4]; rfl, fun h => absurd h (by decide)⟩ (by rw [n1]; decide) ?_ ?_ ?_ H locs ls hw hS (z_LR a1 a2 hl)
  · intro r pc1 H1 locs1 ls1 c1 ho hw1 hS1 hc1 hrt
    cases ho
    have hd : decode code pc1 = .ok (.ireturn, 1) := by
      have := hrt.1
      rw [e123] at this
      exact this
    rw [n1] at hc1
    refine va_forget hS1.2.2 (W.widen (k := 600104) (n := 7301313) hc1 (by omega) ?_)
    exact lw_ret hx hb hr hlocks hd
  · intro t pc1 H1 locs1 ls1 c1 ho
    cases ho
  · intro e1 q9 ce pc1 H1 locs1 ls1 c1 rest ho
    cases ho
set_option maxRecDepth 20000 in
theorem whole_startX {p : Program} {e : Env} {s : State} {m : MethodId} {below : List Frame} {meth : Method} {c : Code} (l : Launch) (hflags : l.flags = flags0) {b L : Nat} {xs : Nat → Int32} (hL : L ≤ 260) (hex : ∀ x ∈ c.exceptionTable.toList, False) (C0 : lw_At p s m meth c b L xs) : W p l e room_1 s m #[Value.ref b] below meth c s.heap [] 0 0 (lw_Z below #[Value.ref b] s) (entryFrame m ([Value.ref b] : List Value).toArray 12) := by
  obtain ⟨hx, hb, hr, hml, hown, hts, hX, hbl, hlocks, hgv⟩ := id C0
  obtain ⟨D, cs, B⟩ := bs_of hflags hL C0
  have hW := State.WarmedH.refl s
  have hK := mm_K B hW
  have hA : ∀ q : Nat, s.heap.size ≤ q → mm_A s q := fun _ h => h
  have hS : va_S (mm_A s) s.heap s.heap [] := va_S.rf
  have hP : va_P D vwCl ([] : va_W) s.heap := fun k q h => by simp at h
  have hD : va_D (mm_A s) ([] : va_W) := ⟨fun i j p q h => by simp at h, fun k q h => by simp at h⟩
  have hl := lv_entry ([.ref b]) (n := 12) (Nat.le_of_ble_eq_true rfl)
  rw [lg_entry_eq]
  generalize (lg_sl ([.ref b]) ++ List.replicate (12 - (lg_sl ([.ref b])).length) Slot.unset).toArray = ls at hl ⊢
  have hl : lv_has ls 12 [(0, .ref b)] := hl
  have hown : s.vm.findClass RL = some m.cls := hown
  refine kz_make (S := Nat → Nat → Nat) (kW := kW5 cs) (MC := 80) (MS := 2566) (fs := [.null, .null, .null, .null, .null, .null, .null, .int 0]) B hW (own := RL) (ci := 5) (by decide) hx hb hown (by decide +kernel) (by decide +kernel) (by decide +kernel) ?_ hP hD hS hA (Nat.le_of_ble_eq_true rfl) (Nat.le_of_ble_eq_true rfl) dl_0 dl_3 (fun q H1 hPq => kz_runI B hW (own := RL) (nL := 12) (J := 32) (bytes := mm_b 32) (maxL := 1) (rm := { frames := 2, cells := 80, slots := 2566, locals := 32 }) hx hb hml hown (kc5 B q H1.size) rfl rfl (Nat.le_of_ble_eq_true rfl) (Nat.le_of_ble_eq_true rfl) (by decide +kernel) (by decide +kernel) (by decide +kernel) (by decide +kernel) (by decide +kernel) (by decide +kernel) (by decide +kernel) hPq hl.1 ⟨Nat.le_refl _, Nat.le_of_ble_eq_true rfl⟩ dl_4 (Nat.le_of_ble_eq_true rfl) (Nat.le_of_ble_eq_true rfl)) (fun q f H locs hP hD hS => ?_)
  · intro j hj
    exact mm_rows (P := fun j => defaultValue (mm_tyf 5 j) = vp_V [.null, .null, .null, .null, .null, .null, .null, .int 0] j) (n := 8) (by decide +kernel) hj
  refine lv_astore_n (lv' := [(1, .ref q), (0, .ref b)]) hx hb dl_7 rfl hl (by decide) rfl (fun ls hl => ?_)
  have ew : (([] : va_W) ++ kW5 cs q f) = zAll.map (zZ cs (zG q f)) := by
    unfold zAll
    rw [ze5 (q := q) (f := f)]
    rfl
  rw [ew] at hP hD
  refine W.widen (k := 430) (n := 6 * 430) (Nat.le_of_ble_eq_true rfl) (Nat.le_of_ble_eq_true rfl) ?_
  exact loop_start B hL hex C0 hP hD hS hl
