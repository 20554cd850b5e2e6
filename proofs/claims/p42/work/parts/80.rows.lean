/-! rows for the constructors: fields of the object at the first place of the world; arrays at its end -/
def kw (w : Cond) : Bool := decide (w ∈ lw_tbl) && w.onTables && w.keepsOver
theorem kw_b {l : Launch} {s0 : State} {a0 : Array Value} {D : va_G} {cs : Nat → ClassId} {b Ls : Nat} {xs : Nat → Int32} {s : State} {args : Array Value} (B : mm_Bs l s0 a0 D cs b Ls xs) (hW : s0.WarmedH s.vm) {w : Cond} (h : kw w = true) : w.before args s = true := by
  unfold kw at h
  simp only [Bool.and_eq_true, decide_eq_true_eq] at h
  exact mm_wk hW h.1.2 h.2 (B.2.1 w h.1.1)
def mulW (cs : Nat → ClassId) (q N M : Nat) : va_W := (q, .inl (cs 2, N, .inr (.inr (.inr (.inr (fun j => some (q + 1 + j))))))) :: (List.range N).map (fun j => (q + 1 + j, .inl (cs 0, M, .inl (fun _ => 0))))
theorem kz_outer (c : ClassId) (N h0 : Nat) : Jvm.Free.Multi.outerC c N h0 N = arrV c N (fun j => va_rf (some (h0 + 1 + j))) := by
  obtain ⟨f1, f2, f3⟩ := Jvm.Free.Multi.outerC_facts c N h0 N
  have hs : (Jvm.Free.Multi.outerC c N h0 N).slots = (arrV c N (fun j => va_rf (some (h0 + 1 + j)))).slots := by
    apply Array.ext_getElem?
    intro j
    by_cases hj : j < N
    · rw [Jvm.Free.Multi.outerC_slot c N h0 N j hj, if_pos hj, arrV_read _ _ hj]
      rfl
    · rw [Array.getElem?_eq_none (by rw [f3]; omega), Array.getElem?_eq_none (by rw [arrV_size]; omega)]
  have mh : ∀ i, (Jvm.Free.Multi.outerC c N h0 i).monitor = (arrV c N (fun j => va_rf (some (h0 + 1 + j)))).monitor ∧ (Jvm.Free.Multi.outerC c N h0 i).hash = (arrV c N (fun j => va_rf (some (h0 + 1 + j)))).hash := by
    intro i
    induction i with
    | zero => exact ⟨rfl, rfl⟩
    | succ i ih => exact ih
  have ext : ∀ (a b : Cell), a.cls = b.cls → a.slots = b.slots → a.monitor = b.monitor → a.hash = b.hash → a.vm = b.vm → a = b := by
    intro a b h1 h2 h3 h4 h5
    cases a
    cases b
    simp only at h1 h2 h3 h4 h5
    subst h1 h2 h3 h4 h5
    rfl
  exact ext _ _ f1 hs (mh N).1 (mh N).2 f2
theorem kz_D {D : va_G} {cl : List vw_C} {A : Nat → Prop} {ws L : va_W} {H : Heap} (hP : va_P D cl ws H) (hD : va_D A ws) (hsz : ∀ (k : Nat) (x : Nat × va_E), L[k]? = some x → H.size ≤ x.1) (hap : ∀ (i j : Nat) (x y : Nat × va_E), L[i]? = some x → L[j]? = some y → x.1 = y.1 → i = j) (hA : ∀ q, H.size ≤ q → A q) : va_D A (ws ++ L) := by
  refine ⟨fun i j x y hi hj e => ?_, fun k x hk => ?_⟩
  · by_cases q1 : i < ws.length
    · rw [List.getElem?_append_left q1] at hi
      have := (hP i x hi).lt
      by_cases q2 : j < ws.length
      · rw [List.getElem?_append_left q2] at hj
        exact hD.1 i j x y hi hj e
      · rw [List.getElem?_append_right (by omega)] at hj
        have := hsz _ _ hj
        omega
    · rw [List.getElem?_append_right (by omega)] at hi
      have := hsz _ _ hi
      by_cases q2 : j < ws.length
      · rw [List.getElem?_append_left q2] at hj
        have := (hP j y hj).lt
        omega
      · rw [List.getElem?_append_right (by omega)] at hj
        have := hap _ _ _ _ hi hj e
        omega
  · by_cases q1 : k < ws.length
    · rw [List.getElem?_append_left q1] at hk
      exact hD.2 k x hk
    · rw [List.getElem?_append_right (by omega)] at hk
      exact hA _ (hsz _ _ hk)
theorem mulW_at {cs : Nat → ClassId} {q N M k : Nat} {x : Nat × va_E} (h : (mulW cs q N M)[k]? = some x) : x.1 = q + k ∧ k ≤ N ∧ ((k = 0 ∧ x.2 = .inl (cs 2, N, .inr (.inr (.inr (.inr (fun j => some (q + 1 + j))))))) ∨ (0 < k ∧ x.2 = .inl (cs 0, M, .inl (fun _ => 0)))) := by
  unfold mulW at h
  cases k with
  | zero =>
    rw [List.getElem?_cons_zero] at h
    cases h
    exact ⟨rfl, Nat.zero_le _, Or.inl ⟨rfl, rfl⟩⟩
  | succ k =>
    rw [List.getElem?_cons_succ, List.getElem?_map] at h
    by_cases hk : k < N
    · rw [List.getElem?_range hk, Option.map_some] at h
      cases h
      refine ⟨?_, by omega, Or.inr ⟨by omega, rfl⟩⟩
      show q + 1 + k = q + (k + 1)
      omega
    · rw [List.getElem?_eq_none (by rw [List.length_range]; omega), Option.map_none] at h
      cases h
section KZ
variable {l : Launch} {s0 : State} {a0 : Array Value} {D : va_G} {cs : Nat → ClassId} {b Ls : Nat} {xs : Nat → Int32}
variable {p : Program} {e : Env} {R : Room} {s : State} {m : MethodId} {args : Array Value} {below : List Frame} {meth : Method} {c : Code} {H H0 : Heap} {locs : List Loc} {cells slots : Nat} {Q : State → Prop} {A : Nat → Prop}
variable {cc : ByteArray} {pc : Nat} {ls : Array Slot} {rest : List Value} {ws : va_W}
theorem kz_new (hx : p.tables.exec = Jvm.exec) (hb : c.code = cc) {atype : ArrayType} {ty : FieldType} {t : Nat} {cT : ClassId} (harr : (Cond.arrayClass (Jvm.Op.newarray.typeOf atype)).before args s = true) (hty : Jvm.Op.newarray.typeOf atype = ty) (ht : (mm_tys cs)[t]? = some (cT, ty)) (hobj : ∀ (U : State) (cA : ClassId), va_RA U cA ty = (U.vm.findClass ("[" ++ ty.toString) = some cA)) (hK : va_K D vwCl (mm_tys cs) s) (hP : va_P D vwCl ws H) (hD : va_D A ws) (hS : va_S A H0 H locs) (hA : ∀ q, H0.size ≤ q → A q)
    {n : Int32} {N' : Nat} {a1 : vp_A} (ha : ∀ cA : ClassId, vp_cell cA a1 = arrV cA N' (fun _ => defaultValue ty)) (hn : ¬ n < 0) (hN : n.toNatClampNeg = N') (hbytes : N' * componentBytes ty ≤ 536870912) (hcells : cells + 1 ≤ R.cells) (hslots : slots + N' ≤ R.slots) (hdg : decode cc pc = .ok (.newarray atype, 2))
    (kk : ∀ (q : Nat) (H1 : Heap), va_P D vwCl (ws ++ [(q, .inl (cT, a1))]) H1 → va_D A (ws ++ [(q, .inl (cT, a1))]) → va_S A H0 H1 locs → W p l e R s m args below meth c H1 locs (cells + 1) (slots + N') Q (F0 m (pc + 2) ls (.ref q :: rest))) : W p l e R s m args below meth c H locs cells slots Q (F0 m pc ls (.int n :: rest)) := by
  refine va_newa hx hb harr hty hK hP hD hS hA ha hn hN hbytes hcells hslots hdg (fun q cA H1 hK1 hP1 hD1 hS1 => ?_)
  have e1 := (hK1.2 (mm_tys cs).length (cA, ty) (by simp)).2
  have e2 := (hK.2 t (cT, ty) ht).2
  rw [hobj] at e1 e2
  have e3 : cA = cT := Option.some.inj (e1.symm.trans e2)
  subst e3
  exact kk q H1 hP1 hD1 hS1
theorem kz_mul (hx : p.tables.exec = Jvm.exec) (hb : c.code = cc) {own : String} {index : Nat} (hown : s.vm.findClass own = some m.cls) (hcl : (Cond.classLink own index "[[I").before args s = true) (hover : (Cond.arrayOver (.array .int)).before args s = true) (harr : (Cond.arrayClass .int).before args s = true) (hK : va_K D vwCl (mm_tys cs) s) (hP : va_P D vwCl ws H) (hD : va_D A ws) (hS : va_S A H0 H locs) (hA : ∀ q, H0.size ≤ q → A q)
    {n k : Int32} {N M : Nat} (hn : ¬ n < 0) (hk : ¬ k < 0) (hN : n.toNatClampNeg = N) (hM : k.toNatClampNeg = M) (hb1 : N * 4 ≤ 536870912) (hb2 : M * 4 ≤ 536870912) (hcells : cells + (1 + N) ≤ R.cells) (hslots : slots + (N + N * M) ≤ R.slots) (hdg : decode cc pc = .ok (.multianewarray index 2, 4))
    (kk : ∀ (q : Nat) (H1 : Heap), va_P D vwCl (ws ++ mulW cs q N M) H1 → va_D A (ws ++ mulW cs q N M) → va_S A H0 H1 locs → W p l e R s m args below meth c H1 locs (cells + (1 + N)) (slots + (N + N * M)) Q (F0 m (pc + 4) ls (.ref q :: rest))) : W p l e R s m args below meth c H locs cells slots Q (F0 m pc ls (.int k :: .int n :: rest)) := by
  subst hN hM
  intro T hT X
  obtain ⟨vm₁, cA, comp, hW1, hfA, hfC, hO, hI, X1, step⟩ := X.multianewarray2F hx (ty := .int) hown hcl hover harr (g := F0 m pc ls (.int k :: .int n :: rest)) rfl (by rw [hb]; exact hdg) rfl hn hk hb1 hb2 (by omega) rfl rfl hcells hslots
  have e2 : s.vm.findClass ("[" ++ (FieldType.array .int).toString) = some (cs 2) := (hK.2 2 (cs 2, .array .int) rfl).2
  have e0 : s.vm.findClass ("[" ++ FieldType.int.toString) = some (cs 0) := (hK.2 0 (cs 0, .int) rfl).2
  have ecA : cA = cs 2 := Option.some.inj (hfA.symm.trans e2)
  have eco : comp = cs 0 := Option.some.inj (hfC.symm.trans e0)
  subst ecA eco
  have hTs : (T.setVm vm₁).heap = H := hT
  obtain ⟨f1, f2, f3, f4⟩ := Jvm.Free.Multi.fill_facts (T.setVm vm₁) (cs 2) (cs 0) n.toNatClampNeg k.toNatClampNeg (defaultValue .int) n.toNatClampNeg
  have f5 : ∀ q, q < H.size → (Jvm.Free.Multi.fill (T.setVm vm₁) (cs 2) (cs 0) n.toNatClampNeg k.toNatClampNeg (defaultValue .int) n.toNatClampNeg).heap[q]? = H[q]? := fun q hq => by
    rw [Jvm.Free.Multi.fill_old _ _ _ _ _ _ (by rw [hTs]; exact hq), hTs]
  have f6 : ∀ j, j < n.toNatClampNeg → (Jvm.Free.Multi.fill (T.setVm vm₁) (cs 2) (cs 0) n.toNatClampNeg k.toNatClampNeg (defaultValue .int) n.toNatClampNeg).heap[H.size + 1 + j]? = some (Jvm.Free.Multi.innerC (cs 0) k.toNatClampNeg (defaultValue .int)) := fun j hj => by
    have := Jvm.Free.Multi.fill_inner (T.setVm vm₁) (cs 2) (cs 0) n.toNatClampNeg k.toNatClampNeg (defaultValue .int) n.toNatClampNeg j hj
    rw [hTs] at this
    exact this
  rw [hTs] at f1 f2
  have X2 : Stand p l e R s m args below meth c (Jvm.Free.Multi.fill (T.setVm vm₁) (cs 2) (cs 0) n.toNatClampNeg k.toNatClampNeg (defaultValue .int) n.toNatClampNeg) locs (cells + (1 + n.toNatClampNeg)) (slots + (n.toNatClampNeg + n.toNatClampNeg * k.toNatClampNeg)) := by
    rw [← Nat.add_assoc, ← Nat.add_assoc]
    exact X1
  generalize Jvm.Free.Multi.fill (T.setVm vm₁) (cs 2) (cs 0) n.toNatClampNeg k.toNatClampNeg (defaultValue .int) n.toNatClampNeg = T1 at f1 f2 f5 f6 X2 step
  have hP1 : va_P D vwCl (ws ++ mulW cs H.size n.toNatClampNeg k.toNatClampNeg) T1.heap := by
    refine va_P.app (hP.kept (fun j x hx => f5 x.1 ((hP j x hx).lt))) (fun j x hx => ?_)
    obtain ⟨a1, a2, a3⟩ := mulW_at hx
    obtain ⟨xa, xe⟩ := x
    simp only at a1 a3
    subst a1
    rcases a3 with ⟨h0, a3⟩ | ⟨h0, a3⟩
    · subst h0 a3
      show T1.heap[H.size + 0]? = some (vp_cell _ _)
      rw [Nat.add_zero, f2, vp_cell_q, kz_outer]
    · subst a3
      show T1.heap[H.size + j]? = some (vp_cell _ _)
      have := f6 (j - 1) (by omega)
      rw [show H.size + 1 + (j - 1) = H.size + j by omega] at this
      rw [this]
      show some ({ cls := cs 0, slots := Array.replicate k.toNatClampNeg (defaultValue .int), vm := .none } : Cell) = _
      rw [arrV_new]
      rfl
  obtain ⟨t, a1, b1⟩ := kk H.size T1.heap hP1 (kz_D hP hD (fun j x hx => by have := (mulW_at hx).1; omega) (fun i j x y hi hj e => by have := (mulW_at hi).1; have := (mulW_at hj).1; omega) (fun q hq => hA q (Nat.le_trans hS.1 hq))) ⟨Nat.le_trans hS.1 (by omega), fun x h1 h2 => (f5 x (Nat.lt_of_lt_of_le h1 hS.1)).trans (hS.2.1 x h1 h2), hS.2.2⟩ T1 rfl X2
  refine ⟨t, step t ?_, b1⟩
  rw [hT]
  exact a1
theorem kz_putF (B : mm_Bs l s0 a0 D cs b Ls xs) (hW : s0.WarmedH s.vm) {ci k idx h0 : Nat} {fs fs' : List Value} {L : va_W} {ty : FieldType} {v : Value} (hci : ci < 6) (hk : k < mm_N ci) (hx : p.tables.exec = Jvm.exec) (hb : c.code = cc) (hown : s.vm.findClass (mm_rn ci) = some m.cls) (hP : va_P D vwCl ((h0, .inr (ci, fs)) :: L) H) (hD : va_D A ((h0, .inr (ci, fs)) :: L)) (hS : va_S A H0 H locs) (hlink : kw (.fieldLink (mm_rn ci) idx (mm_T ci k).1 (mm_T ci k).2.1 (mm_T ci k).2.2.1) = true) (hfin : (mm_T ci k).2.2.2 = true) (hin2 : meth.name = "<init>") (hdecl : (mm_T ci k).1 = mm_rn ci) (hd : parseFieldDescriptor (mm_T ci k).2.2.1 = some ty) (hn : narrow ty v = v) (hfit : fits ty v = true) (hl : k < fs.length) (hfs : fs.set k v = fs')
    (hdg : decode cc pc = .ok (.putfield idx, 3)) (kk : ∀ (H1 : Heap) (locs1 : List Loc), va_P D vwCl ((h0, .inr (ci, fs')) :: L) H1 → va_D A ((h0, .inr (ci, fs')) :: L) → va_S A H0 H1 locs1 → W p l e R s m args below meth c H1 locs1 cells slots Q (F0 m (pc + 3) ls rest)) : W p l e R s m args below meth c H locs cells slots Q (F0 m pc ls (v :: .ref h0 :: rest)) := by
  subst hfs
  exact va_putF (D := D) (ci := ci) (v := v) (ty := ty) (C := mm_rn ci) (T := mm_T ci) (N := mm_N ci) hx hb (mm_lays B hW hci) (fun _ h => h) (mm_tyf ci) (mm_tyok hci) (mm_nmok hci) hown (mm_K B hW) hP hD hS 0 rfl (mm_clok hci) k hk (kw_b B hW hlink) (fun _ h9 => h9) hfin hin2 hdecl hd hn hfit hl hdg kk
theorem kz_put (B : mm_Bs l s0 a0 D cs b Ls xs) (hW : s0.WarmedH s.vm) {ci k idx h0 : Nat} {fs fs' : List Value} {L : va_W} {ty : FieldType} {v : Value} (hci : ci < 6) (hk : k < mm_N ci) (hx : p.tables.exec = Jvm.exec) (hb : c.code = cc) (hown : s.vm.findClass (mm_rn ci) = some m.cls) (hP : va_P D vwCl ((h0, .inr (ci, fs)) :: L) H) (hD : va_D A ((h0, .inr (ci, fs)) :: L)) (hS : va_S A H0 H locs) (hlink : kw (.fieldLink (mm_rn ci) idx (mm_T ci k).1 (mm_T ci k).2.1 (mm_T ci k).2.2.1) = true) (hfin : (mm_T ci k).2.2.2 = false) (hd : parseFieldDescriptor (mm_T ci k).2.2.1 = some ty) (hn : narrow ty v = v) (hfit : fits ty v = true) (hl : k < fs.length) (hfs : fs.set k v = fs')
    (hdg : decode cc pc = .ok (.putfield idx, 3)) (kk : ∀ (H1 : Heap) (locs1 : List Loc), va_P D vwCl ((h0, .inr (ci, fs')) :: L) H1 → va_D A ((h0, .inr (ci, fs')) :: L) → va_S A H0 H1 locs1 → W p l e R s m args below meth c H1 locs1 cells slots Q (F0 m (pc + 3) ls rest)) : W p l e R s m args below meth c H locs cells slots Q (F0 m pc ls (v :: .ref h0 :: rest)) := by
  subst hfs
  exact va_put (D := D) (ci := ci) (v := v) (ty := ty) (C := mm_rn ci) (T := mm_T ci) (N := mm_N ci) hx hb (mm_lays B hW hci) (fun _ h => h) (mm_tyf ci) (mm_tyok hci) (mm_nmok hci) hown (mm_K B hW) hP hD hS 0 rfl (mm_clok hci) k hk (kw_b B hW hlink) (fun _ h9 => h9) hfin hd hn hfit hl hdg kk
end KZ
