/-! THE LAW, from its entry to its loop, and through it -/
theorem dl_0 : decode code 0 = .ok (.new 8, 3) := by decide +kernel
theorem dl_3 : decode code 3 = .ok (.dup, 1) := by decide +kernel
theorem dl_4 : decode code 4 = .ok (.invokespecial 133, 3) := by decide +kernel
theorem dl_7 : decode code 7 = .ok (.astore_n 1, 1) := by decide +kernel
theorem dl_8 : decode code 8 = .ok (.new 134, 3) := by decide +kernel
theorem dl_11 : decode code 11 = .ok (.dup, 1) := by decide +kernel
theorem dl_12 : decode code 12 = .ok (.invokespecial 136, 3) := by decide +kernel
theorem dl_15 : decode code 15 = .ok (.astore_n 2, 1) := by decide +kernel
theorem dl_16 : decode code 16 = .ok (.iconst 1, 1) := by decide +kernel
theorem dl_17 : decode code 17 = .ok (.newarray .long, 2) := by decide +kernel
theorem dl_19 : decode code 19 = .ok (.astore_n 3, 1) := by decide +kernel
theorem dl_20 : decode code 20 = .ok (.iconst 1, 1) := by decide +kernel
theorem dl_21 : decode code 21 = .ok (.newarray .double, 2) := by decide +kernel
theorem dl_23 : decode code 23 = .ok (.astore 4, 2) := by decide +kernel
theorem dl_25 : decode code 25 = .ok (.iconst 0, 1) := by decide +kernel
theorem dl_26 : decode code 26 = .ok (.istore 5, 2) := by decide +kernel
theorem e198 : mm_b 198 = code := rfl
theorem n198 : mm_mc 198 = 601024 ∧ mm_fr 198 = 12 ∧ mm_lo 198 = 428 ∧ mm_maxL 198 = 8 ∧ mm_ret 198 = ret ∧ mm_rn (mm_own 198) = R_law ∧ mm_hh 198 = [] := by decide +kernel
theorem z_ad {q : Nat} {f : Nat → Nat → Nat} {q' : Nat} {g : Nat → Nat} {qo qd b : Nat} : zad (zG q f q' g qo qd) b 244 = b ∧ zad (zG q f q' g qo qd) b 0 = q ∧ zad (zG q f q' g qo qd) b 81 = q' ∧ zad (zG q f q' g qo qd) b 242 = qo ∧ zad (zG q f q' g qo qd) b 243 = qd := by
  have h : zTab.getD 0 (0, 0) = (0, 0) ∧ zTab.getD 81 (0, 0) = (100, 0) ∧ zTab.getD 242 (0, 0) = (130, 0) ∧ zTab.getD 243 (0, 0) = (131, 0) := by decide +kernel
  unfold zad
  rw [h.1, h.2.1, h.2.2.1, h.2.2.2]
  exact ⟨rfl, rfl, rfl, rfl, rfl⟩
theorem z_LR {G : Nat → Nat} {b q q' qo qd : Nat} {ls : Array Slot} (h1 : zad G b 244 = b) (h2 : zad G b 0 = q) (h3 : zad G b 81 = q') (h4 : zad G b 242 = qo) (h5 : zad G b 243 = qd) (hl : lv_has ls 8 [(5, .int 0), (4, .ref qd), (3, .ref qo), (2, .ref q'), (1, .ref q), (0, .ref b)]) : mm_LR (zad G b) ls (LL (nI (5 * 0)) (.retAddr 0) (.retAddr 0)) := by
  refine ⟨hl.1, hl.2.1, fun i x hx => ?_⟩
  match i, hx with
  | 0, hx =>
    cases hx
    exact ⟨rfl, fun _ => by
      show ls[0]? = some (.val (.ref (zad G b 244)))
      rw [h1]
      exact hl.2.2 (0, .ref b) (by simp)⟩
  | 1, hx =>
    cases hx
    exact ⟨rfl, fun _ => by
      show ls[1]? = some (.val (.ref (zad G b 0)))
      rw [h2]
      exact hl.2.2 (1, .ref q) (by simp)⟩
  | 2, hx =>
    cases hx
    exact ⟨rfl, fun _ => by
      show ls[2]? = some (.val (.ref (zad G b 81)))
      rw [h3]
      exact hl.2.2 (2, .ref q') (by simp)⟩
  | 3, hx =>
    cases hx
    exact ⟨rfl, fun _ => by
      show ls[3]? = some (.val (.ref (zad G b 242)))
      rw [h4]
      exact hl.2.2 (3, .ref qo) (by simp)⟩
  | 4, hx =>
    cases hx
    exact ⟨rfl, fun _ => by
      show ls[4]? = some (.val (.ref (zad G b 243)))
      rw [h5]
      exact hl.2.2 (4, .ref qd) (by simp)⟩
  | 5, hx =>
    cases hx
    exact ⟨rfl, fun _ => hl.2.2 (5, .int 0) (by simp)⟩
  | 6, hx =>
    cases hx
    exact ⟨rfl, fun h => absurd rfl (h 0)⟩
  | 7, hx =>
    cases hx
    exact ⟨rfl, fun h => absurd rfl (h 0)⟩
  | i + 8, hx => simp [LL] at hx
theorem loop_start {p : Program} {e : Env} {s : State} {m : MethodId} {below : List Frame} {meth : Method} {c : Code} {l : Launch} {b L : Nat} {xs : Nat → Int32} {D : va_G} {cs : Nat → ClassId} (B : mm_Bs l s #[Value.ref b] D cs b L xs) (hL : L ≤ 2560) (hex : ∀ x ∈ c.exceptionTable.toList, False) (C0 : lw_At p s m meth c b L xs) {q : Nat} {f : Nat → Nat → Nat} {q' : Nat} {g : Nat → Nat} {qo qd : Nat} {H : Heap} {locs : List Loc} {ls : Array Slot}
    (hP : va_P D vwCl (zAll.map (zZ cs (zG q f q' g qo qd))) H) (hD : va_D (mm_A s) (zAll.map (zZ cs (zG q f q' g qo qd)))) (hS : va_S (mm_A s) s.heap H locs) (hl : lv_has ls 8 [(5, .int 0), (4, .ref qd), (3, .ref qo), (2, .ref q'), (1, .ref q), (0, .ref b)]) :
    W p l e room_1 s m #[Value.ref b] below meth c H locs 1650 (6 * 1650) (lw_Z below #[Value.ref b] s) (F0 m 28 ls []) := by
  obtain ⟨hx, hb, hr, hml, hown, hts, hX, hbl, hlocks, hgv⟩ := id C0
  obtain ⟨n1, n2, n3, n4, n5, n6, n7⟩ := n198
  obtain ⟨a1, a2, a3, a4, a5⟩ := z_ad (q := q) (f := f) (q' := q') (g := g) (qo := qo) (qd := qd) (b := b)
  have hw := zWorld (s0 := s) (G := zG q f q' g qo qd) (b := b) (Ls := L) (xs := xs) hS.1 (fun a ha => hS.2.1 a ha (Nat.not_le.mpr ha)) hP hD
  obtain ⟨n, o, v', hgo, ho⟩ := law_run (len := L) (K := fun o _ => o = .inl (some (.int 1))) hL (fun o v h => h) 513 0 (v0 xs L) st0 1650 (.retAddr 0) (.retAddr 0) inv0 repC0 repM0 (by rfl) (by decide) (by decide) (by decide)
  have ho : o = .inl (some (.int 1)) := ho
  subst ho
  have X : mm_Fx s 198 p room_1 s m meth c := ⟨hx, by rw [e198]; exact hb, by rw [n5]; exact hr, by rw [n4]; exact hml, by rw [n6]; exact hown, hlocks, State.WarmedH.refl s, Nat.le_refl _, fun _ _ => rfl, by rw [n2]; exact Nat.le_of_ble_eq_true rfl, by rw [n3]; exact Nat.le_of_ble_eq_true rfl, by rw [n1]; exact Nat.le_of_ble_eq_true rfl, by rw [n1]; exact Nat.le_of_ble_eq_true rfl, by rw [n7]; exact List.eq_nil_iff_forall_not_mem.mpr fun x hx => hex x hx⟩
  refine mm_snd B n 198 28 _ [] (v0 xs L) 1650 _ v' hgo p e room_1 s m #[Value.ref b] below meth c _ X (by rw [n4]; rfl) (by rw [n1]; decide) ?_ ?_ ?_ H locs ls hw hS (z_LR a1 a2 a3 a4 a5 hl)
  · intro r pc1 H1 locs1 ls1 c1 ho hw1 hS1 hc1 hrt
    cases ho
    have hd : decode code pc1 = .ok (.ireturn, 1) := by
      have := hrt.1
      rw [e198] at this
      exact this
    rw [n1] at hc1
    refine va_forget hS1.2.2 (W.widen (k := 601024) (n := 7293034) hc1 (by omega) ?_)
    exact W.base (lw_ret (Drawn.sameBut.refl s.drawn lw_cs) hx hb hr hlocks hd)
  · intro t pc1 H1 locs1 ls1 c1 ho
    cases ho
  · intro e1 q9 ce pc1 H1 locs1 ls1 c1 rest ho
    cases ho
set_option maxRecDepth 20000 in
theorem whole_startX {p : Program} {e : Env} {s : State} {m : MethodId} {below : List Frame} {meth : Method} {c : Code} (l : Launch) (hflags : l.flags = flags0) {b L : Nat} {xs : Nat → Int32} (hL : L ≤ 2560) (hex : ∀ x ∈ c.exceptionTable.toList, False) (C0 : lw_At p s m meth c b L xs) : W p l e room_1 s m #[Value.ref b] below meth c s.heap [] 0 0 (lw_Z below #[Value.ref b] s) (entryFrame m ([Value.ref b] : List Value).toArray 8) := by
  obtain ⟨hx, hb, hr, hml, hown, hts, hX, hbl, hlocks, hgv⟩ := id C0
  obtain ⟨D, cs, B⟩ := bs_of hflags hL C0
  have hW := State.WarmedH.refl s
  have hK := mm_K B hW
  have hA : ∀ q : Nat, s.heap.size ≤ q → mm_A s q := fun _ h => h
  have hS : va_S (mm_A s) s.heap s.heap [] := va_S.rf
  have hP : va_P D vwCl ([] : va_W) s.heap := fun k q h => by simp at h
  have hD : va_D (mm_A s) ([] : va_W) := ⟨fun i j p q h => by simp at h, fun k q h => by simp at h⟩
  have hl := lv_entry ([.ref b]) (n := 8) (Nat.le_of_ble_eq_true rfl)
  rw [lg_entry_eq]
  generalize (lg_sl ([.ref b]) ++ List.replicate (8 - (lg_sl ([.ref b])).length) Slot.unset).toArray = ls at hl ⊢
  have hl : lv_has ls 8 [(0, .ref b)] := hl
  have hown : s.vm.findClass RL = some m.cls := hown
  refine kz_make (S := Nat → Nat → Nat) (kW := kW5 cs) (MC := 80) (MS := 2566) (fs := [.null, .null, .null, .null, .null, .null, .null, .int 0]) B hW (own := RL) (ci := 5) (by decide) hx hb hown (by decide +kernel) (by decide +kernel) (by decide +kernel) ?_ hP hD hS hA (Nat.le_of_ble_eq_true rfl) (Nat.le_of_ble_eq_true rfl) dl_0 dl_3 (fun q H1 hPq => kz_runI B hW (own := RL) (nL := 8) (J := 33) (bytes := mm_b 33) (maxL := 1) (rm := { frames := 2, cells := 80, slots := 2566, locals := 32 }) hx hb hml hown (kc5 B q H1.size) rfl rfl (Nat.le_of_ble_eq_true rfl) (Nat.le_of_ble_eq_true rfl) (by decide +kernel) (by decide +kernel) (by decide +kernel) (by decide +kernel) (by decide +kernel) (by decide +kernel) (by decide +kernel) hPq hl.1 ⟨Nat.le_refl _, Nat.le_of_ble_eq_true rfl⟩ dl_4 (Nat.le_of_ble_eq_true rfl) (Nat.le_of_ble_eq_true rfl)) (fun q f H locs hP hD hS => ?_)
  · intro j hj
    exact mm_rows (P := fun j => defaultValue (mm_tyf 5 j) = vp_V [.null, .null, .null, .null, .null, .null, .null, .int 0] j) (n := 8) (by decide +kernel) hj
  refine lv_astore_n (lv' := [(1, .ref q), (0, .ref b)]) hx hb dl_7 rfl hl (by decide) rfl (fun ls hl => ?_)
  refine kz_make (S := Nat → Nat) (kW := kW6 cs) (MC := 160) (MS := 7098) (fs := [.null, .null, .int 0, .null, .null, .null, .null, .null, .int 0, .null, .null, .null, .null, .null, .null, .null, .null, .int 0, .null, .null, .null, .null, .null, .null, .int 0, .int 0, .int 0, .null, .null, .null, .null, .int 0, .null]) B hW (own := RL) (ci := 6) (by decide) hx hb hown (by decide +kernel) (by decide +kernel) (by decide +kernel) ?_ hP hD hS hA (Nat.le_of_ble_eq_true rfl) (Nat.le_of_ble_eq_true rfl) dl_8 dl_11 (fun q H1 hPq => kz_runI B hW (own := RL) (nL := 8) (J := 99) (bytes := mm_b 99) (maxL := 1) (rm := { frames := 1, cells := 160, slots := 7098, locals := 12 }) hx hb hml hown (kc6 B q H1.size) rfl rfl (Nat.le_of_ble_eq_true rfl) (Nat.le_of_ble_eq_true rfl) (by decide +kernel) (by decide +kernel) (by decide +kernel) (by decide +kernel) (by decide +kernel) (by decide +kernel) (by decide +kernel) hPq hl.1 ⟨Nat.le_refl _, Nat.le_of_ble_eq_true rfl⟩ dl_12 (Nat.le_of_ble_eq_true rfl) (Nat.le_of_ble_eq_true rfl)) (fun q' g H locs hP hD hS => ?_)
  · intro j hj
    exact mm_rows (P := fun j => defaultValue (mm_tyf 6 j) = vp_V [.null, .null, .int 0, .null, .null, .null, .null, .null, .int 0, .null, .null, .null, .null, .null, .null, .null, .null, .int 0, .null, .null, .null, .null, .null, .null, .int 0, .int 0, .int 0, .null, .null, .null, .null, .int 0, .null] j) (n := 33) (by decide +kernel) hj
  refine lv_astore_n (lv' := [(2, .ref q'), (1, .ref q), (0, .ref b)]) hx hb dl_15 rfl hl (by decide) rfl (fun ls hl => ?_)
  refine lv_iconst (v := 1) hx hb dl_16 (by decide) ?_
  refine kz_new (atype := .long) (ty := .long) (cT := cs 4) (N' := 1) (t := 3) (a1 := (1, .inr (.inl (fun _ => 0)))) hx hb (kw_ac B hW (ty := .long) (by decide +kernel)) rfl rfl (fun _ _ => rfl) hK hP hD hS hA (fun _ => rfl) (by decide) rfl (by decide +kernel) (Nat.le_of_ble_eq_true rfl) (Nat.le_of_ble_eq_true rfl) dl_17 (fun qo H hP hD hS => ?_)
  refine lv_astore_n (lv' := [(3, .ref qo), (2, .ref q'), (1, .ref q), (0, .ref b)]) hx hb dl_19 rfl hl (by decide) rfl (fun ls hl => ?_)
  refine lv_iconst (v := 1) hx hb dl_20 (by decide) ?_
  refine kz_new (atype := .double) (ty := .double) (cT := cs 5) (N' := 1) (t := 4) (a1 := (1, .inr (.inr (.inr (.inl (fun _ => 0)))))) hx hb (kw_ac B hW (ty := .double) (by decide +kernel)) rfl rfl (fun _ _ => rfl) hK hP hD hS hA (fun _ => rfl) (by decide) rfl (by decide +kernel) (Nat.le_of_ble_eq_true rfl) (Nat.le_of_ble_eq_true rfl) dl_21 (fun qd H hP hD hS => ?_)
  refine lv_astore (lv' := [(4, .ref qd), (3, .ref qo), (2, .ref q'), (1, .ref q), (0, .ref b)]) hx hb dl_23 hl (by decide) rfl (fun ls hl => ?_)
  refine lv_iconst (v := 0) hx hb dl_25 (by decide) ?_
  refine lv_istore (lv' := [(5, .int 0), (4, .ref qd), (3, .ref qo), (2, .ref q'), (1, .ref q), (0, .ref b)]) hx hb dl_26 hl (by decide) rfl (fun ls hl => ?_)
  have ew : (((([] : va_W) ++ kW5 cs q f) ++ kW6 cs q' g) ++ [(qo, .inl (cs 4, 1, .inr (.inl (fun _ => 0))))]) ++ [(qd, .inl (cs 5, 1, .inr (.inr (.inr (.inl (fun _ => 0))))))] = zAll.map (zZ cs (zG q f q' g qo qd)) := by
    unfold zAll
    rw [ze5 (q' := q') (g := g) (qo := qo) (qd := qd), ze6 (q := q) (f := f) (qo := qo) (qd := qd)]
    simp only [List.map_append, List.nil_append, List.append_assoc]
    rfl
  rw [ew] at hP hD
  refine W.widen (k := 1650) (n := 6 * 1650) (Nat.le_of_ble_eq_true rfl) (Nat.le_of_ble_eq_true rfl) ?_
  exact loop_start B hL hex C0 hP hD hS hl
