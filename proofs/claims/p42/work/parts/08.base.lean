/-! what holds of the launch, of a frame, of the heap; the words of the tables wherever a walk stands -/
def mm_tys (cs : Nat → ClassId) : List (ClassId × FieldType) := [(cs 0, .int), (cs 1, .char), (cs 2, .array .int)]
def mm_Bs (l : Launch) (s0 : State) (a0 : Array Value) (D : va_G) (cs : Nat → ClassId) (b Ls : Nat) (xs : Nat → Int32) : Prop :=
  l.stackTraces = false ∧ (∀ w ∈ lw_tbl, w.before a0 s0 = true) ∧ va_K D vwCl (mm_tys cs) s0 ∧
  vx_Zq Bundle.tN "UNASSIGNED_STACK" Bundle.steD (fun q => s0.heap.size ≤ q) s0 s0.heap ∧ vx_Zq Bundle.tN "SUPPRESSED_SENTINEL" Bundle.listD (fun q => s0.heap.size ≤ q) s0 s0.heap ∧
  (∀ t ∈ mm_tL, ∃ sa, vk_R RX5 t.2.2.2.1 t.2.2.2.2.2.1 sa s0) ∧ (∀ e e', e < 5 → e' < 5 → e ≠ e' → va_Nc (mm_eN e) (mm_eN e') s0) ∧
  va_X b Ls xs s0 s0.heap ∧ b < s0.heap.size ∧ Ls < 2 ^ 31
def mm_HW (s0 : State) (D : va_G) (cs : Nat → ClassId) (ad : Nat → Nat) (b Ls : Nat) (xs : Nat → Int32) (v : mmM) (H : Heap) : Prop :=
  s0.heap.size ≤ H.size ∧ (∀ q, q < s0.heap.size → H[q]? = s0.heap[q]?) ∧ va_P D vwCl (mm_wd cs ad v) H ∧ va_D (fun q => s0.heap.size ≤ q) (mm_wd cs ad v) ∧ ad mm_NW = b ∧ (∀ j, v mm_NW j = xs j) ∧ v (mm_NW + 1) 0 = nI Ls
def mm_Fx (s0 : State) (k : Nat) (p : Program) (R : Room) (s : State) (m : MethodId) (meth : Method) (c : Code) : Prop :=
  p.tables.exec = Jvm.exec ∧ c.code = mm_b k ∧ meth.sig.returnType = mm_ret k ∧ c.maxLocals = mm_maxL k ∧ s.vm.findClass (mm_rn (mm_own k)) = some m.cls ∧ meth.locks = false ∧ s0.WarmedH s.vm ∧ s0.heap.size ≤ s.heap.size ∧ (∀ q, q < s0.heap.size → s.heap[q]? = s0.heap[q]?) ∧ mm_fr k ≤ R.frames ∧ mm_lo k ≤ R.locals ∧ mm_mc k ≤ R.cells ∧ 6 * mm_mc k ≤ R.slots ∧ c.exceptionTable.toList = tableOf (mm_hh k)
abbrev mm_A (s0 : State) : Nat → Prop := fun q => s0.heap.size ≤ q
theorem mm_wk {s0 s : State} {a0 args : Array Value} (hW : s0.WarmedH s.vm) {w : Cond} (h1 : w.onTables = true) (h2 : w.keepsOver = true) (h : w.before a0 s0 = true) : w.before args s = true :=
  va_tabs (u := s0.setVm s.vm) h1 rfl (Cond.before_shiftedOver (State.Shifted.of_warmed hW) w h2 h)
theorem mm_lookup {α : Type} (pc : Nat) : ∀ (l : List (Nat × α)) (q : α), l.lookup pc = some q → (pc, q) ∈ l
  | [], _, h => by cases h
  | (a, x) :: l, q, h => by
    rw [List.lookup_cons] at h
    by_cases e : pc = a
    · subst e
      rw [beq_self_eq_true] at h
      cases h
      exact List.mem_cons_self
    · rw [show (pc == a) = false from beq_eq_false_iff_ne.mpr e] at h
      exact List.mem_cons_of_mem _ (mm_lookup pc l q h)
theorem mm_oL_len : mm_oL.length = 124 := by decide +kernel
theorem mm_op_lt {k pc : Nat} {op : Instr × Nat × Nat} (h : mm_op k pc = some op) : k < 124 := by
  rcases Nat.lt_or_ge k 124 with q | q
  · exact q
  · unfold mm_op mm_ops at h
    rw [List.getD_eq_getElem?_getD, List.getElem?_eq_none (by rw [mm_oL_len]; exact q)] at h
    cases h
theorem mm_opc {k pc : Nat} {op : Instr × Nat × Nat} (h : mm_op k pc = some op) : mm_ck k pc op = true := by
  have h1 := mm_cka k (mm_op_lt h)
  unfold mm_ckk at h1
  rw [Bool.and_eq_true] at h1
  exact List.all_eq_true.mp h1.1 (pc, op) (mm_lookup pc _ _ h)
theorem mm_hkc {k : Nat} (h : k < 124) : mm_hk k = true := by
  have h1 := mm_cka k h
  unfold mm_ckk at h1
  rw [Bool.and_eq_true] at h1
  exact h1.2
theorem mm_dcs {k pc : Nat} {i : Instr} {len : Nat} (h : mm_dc k pc i len = true) : decode (mm_b k) pc = .ok (i, len) := of_decide_eq_true h
theorem mm_ly0 : (u_ws (mm_rn 0) (mm_T 0) (mm_N 0)).all (fun w => decide (w ∈ lw_tbl) && w.onTables && w.keepsOver) = true := by decide +kernel
theorem mm_ly1 : (u_ws (mm_rn 1) (mm_T 1) (mm_N 1)).all (fun w => decide (w ∈ lw_tbl) && w.onTables && w.keepsOver) = true := by decide +kernel
theorem mm_ly2 : (u_ws (mm_rn 2) (mm_T 2) (mm_N 2)).all (fun w => decide (w ∈ lw_tbl) && w.onTables && w.keepsOver) = true := by decide +kernel
theorem mm_ly3 : (u_ws (mm_rn 3) (mm_T 3) (mm_N 3)).all (fun w => decide (w ∈ lw_tbl) && w.onTables && w.keepsOver) = true := by decide +kernel
theorem mm_ly4 : (u_ws (mm_rn 4) (mm_T 4) (mm_N 4)).all (fun w => decide (w ∈ lw_tbl) && w.onTables && w.keepsOver) = true := by decide +kernel
theorem mm_ly5 : (u_ws (mm_rn 5) (mm_T 5) (mm_N 5)).all (fun w => decide (w ∈ lw_tbl) && w.onTables && w.keepsOver) = true := by decide +kernel
theorem mm_7 {P : Nat → Prop} (h0 : P 0) (h1 : P 1) (h2 : P 2) (h3 : P 3) (h4 : P 4) (h5 : P 5) {i : Nat} (h : i < 6) : P i := by
  match i, h with
  | 0, _ => exact h0
  | 1, _ => exact h1
  | 2, _ => exact h2
  | 3, _ => exact h3
  | 4, _ => exact h4
  | 5, _ => exact h5
theorem mm_ly {i : Nat} (h : i < 6) : (u_ws (mm_rn i) (mm_T i) (mm_N i)).all (fun w => decide (w ∈ lw_tbl) && w.onTables && w.keepsOver) = true :=
  mm_7 (P := fun i => (u_ws (mm_rn i) (mm_T i) (mm_N i)).all (fun w => decide (w ∈ lw_tbl) && w.onTables && w.keepsOver) = true) mm_ly0 mm_ly1 mm_ly2 mm_ly3 mm_ly4 mm_ly5 h
theorem mm_tyok {i : Nat} (h : i < 6) : ∀ k, k < mm_N i → parseFieldDescriptor (mm_T i k).2.2.1 = some (mm_tyf i k) :=
  mm_7 (P := fun i => ∀ k, k < mm_N i → parseFieldDescriptor (mm_T i k).2.2.1 = some (mm_tyf i k)) tyX0_ok tyX1_ok tyX2_ok tyX3_ok tyX4_ok tyX5_ok h
theorem mm_nmok {i : Nat} (h : i < 6) : ∀ a, a < mm_N i → ∀ b, b < mm_N i → a ≠ b → (mm_T i a).2.1 ≠ (mm_T i b).2.1 :=
  mm_7 (P := fun i => ∀ a, a < mm_N i → ∀ b, b < mm_N i → a ≠ b → (mm_T i a).2.1 ≠ (mm_T i b).2.1) nmX0 nmX1 nmX2 nmX3 nmX4 nmX5 h
theorem mm_clok {i : Nat} (h : i < 6) : vwCl[i]? = some (mm_rn i, mm_T i, mm_N i) :=
  mm_7 (P := fun i => vwCl[i]? = some (mm_rn i, mm_T i, mm_N i)) rfl rfl rfl rfl rfl rfl h
section MMB
variable {l : Launch} {s0 : State} {a0 : Array Value} {D : va_G} {cs : Nat → ClassId} {b Ls : Nat} {xs : Nat → Int32} {s : State} {args : Array Value}
theorem mm_wB (B : mm_Bs l s0 a0 D cs b Ls xs) (hW : s0.WarmedH s.vm) {i : Nat} {w : Cond} (h : mm_w i w = true) : w.before args s = true := by
  unfold mm_w at h
  simp only [Bool.and_eq_true, decide_eq_true_eq] at h
  exact mm_wk hW h.1.2 h.2 (B.2.1 w (List.mem_of_getElem? h.1.1))
theorem mm_lays (B : mm_Bs l s0 a0 D cs b Ls xs) (hW : s0.WarmedH s.vm) {i : Nat} (h : i < 6) : ∀ w ∈ u_ws (mm_rn i) (mm_T i) (mm_N i), w.before args s = true := by
  intro w hw
  have h1 := List.all_eq_true.mp (mm_ly h) w hw
  simp only [Bool.and_eq_true, decide_eq_true_eq] at h1
  exact mm_wk hW h1.1.2 h1.2 (B.2.1 w h1.1.1)
theorem mm_K (B : mm_Bs l s0 a0 D cs b Ls xs) (hW : s0.WarmedH s.vm) : va_K D vwCl (mm_tys cs) s := va_K.moved hW.alike B.2.2.1
theorem mm_nF (B : mm_Bs l s0 a0 D cs b Ls xs) (hW : s0.WarmedH s.vm) {a : String} {i : Nat} {r n d h : String} {w : Nat} (hw : lw_tbl[w]? = some (.fieldLinkNest a i r n d h)) : (Cond.fieldLinkNest a i r n d h).before args s = true :=
  va_Nw.use rfl (va_Nw.warmF hW (va_Nw.of rfl (B.2.1 _ (List.mem_of_getElem? hw))))
theorem mm_nM (B : mm_Bs l s0 a0 D cs b Ls xs) (hW : s0.WarmedH s.vm) {a : String} {i : Nat} {y : MethodName} {h : String} {w : Nat} (hw : lw_tbl[w]? = some (.methodLinkNest a i y h)) : (Cond.methodLinkNest a i y h).before args s = true :=
  va_Nw.use rfl (va_Nw.warmM hW (va_Nw.of rfl (B.2.1 _ (List.mem_of_getElem? hw))))
end MMB
theorem mm_fk_sp {k a x : Nat} {put : Bool} (h : mm_fk k a x put = true) : a / 100 < 6 ∧ a % 100 < mm_N (a / 100) ∧ (put = true → (mm_T (a / 100) (a % 100)).2.2.2 = false ∧ mm_tyf (a / 100) (a % 100) = .int) ∧
    ∃ w, lw_tbl[w]? = some (.fieldLinkNest (mm_rn (mm_own k)) x (mm_T (a / 100) (a % 100)).1 (mm_T (a / 100) (a % 100)).2.1 (mm_T (a / 100) (a % 100)).2.2.1 "WareHall") ∨ mm_w w (.fieldLink (mm_rn (mm_own k)) x (mm_T (a / 100) (a % 100)).1 (mm_T (a / 100) (a % 100)).2.1 (mm_T (a / 100) (a % 100)).2.2.1) = true := by
  unfold mm_fk at h
  cases hl : mm_fL.lookup (mm_own k, x) with
  | none => rw [hl] at h; cases h
  | some q =>
    obtain ⟨nest, a', w⟩ := q
    rw [hl] at h
    simp only [Bool.and_eq_true, decide_eq_true_eq] at h
    obtain ⟨⟨⟨⟨h1, h2⟩, h3⟩, h4⟩, h5⟩ := h
    refine ⟨h2, h3, fun hp => ?_, w, ?_⟩
    · subst hp
      simpa using h4
    · cases nest with
      | true => exact Or.inl (by simpa using h5)
      | false => exact Or.inr (by simpa using h5)
