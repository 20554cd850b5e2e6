/-! the world of the mini machine in the machine's heap; its locals in the machine's -/
def mm_vm (ad : Nat → Nat) : Value → Value
  | .ref i => .ref (ad i)
  | x => x
theorem mm_vm_cat (ad : Nat → Nat) (x : Value) : (mm_vm ad x).category = x.category := by cases x <;> rfl
theorem mm_vm_cats (ad : Nat → Nat) (S : List Value) : ((S.map (mm_vm ad)).map fun v => v.category) = S.map fun v => v.category := by
  rw [List.map_map]
  exact List.map_congr_left fun x _ => mm_vm_cat ad x
def mm_fv (ad : Nat → Nat) (v : mmM) (i k : Nat) : Nat → Value
  | 0 => .int (v i k)
  | r + 1 => .ref (ad r)
def mm_ent (cs : Nat → ClassId) (ad : Nat → Nat) (v : mmM) (i : Nat) : va_E := match mm_sh i with
  | (0, n, _, _) => .inl (cs 0, n, .inl (fun j => v i j))
  | (1, n, _, _) => .inl (cs 1, n, .inl (fun j => v i j))
  | (2, n, r, _) => .inl (cs 2, n, .inr (.inr (.inr (.inr (fun j => some (ad (r + j)))))))
  | (3, ci, _, fs) => .inr (ci, fs.mapIdx fun k r => mm_fv ad v i k r)
  | (_, n, _, _) => .inl (cs 0, n, .inl (fun j => v i j))
theorem mm_ent0 {cs : Nat → ClassId} {ad : Nat → Nat} {v : mmM} {i : Nat} (h : (mm_sh i).1 = 0) : mm_ent cs ad v i = .inl (cs 0, (mm_sh i).2.1, .inl (fun j => v i j)) := by
  unfold mm_ent; generalize mm_sh i = z at h ⊢; obtain ⟨a, b, c, d⟩ := z; cases h; rfl
theorem mm_ent1 {cs : Nat → ClassId} {ad : Nat → Nat} {v : mmM} {i : Nat} (h : (mm_sh i).1 = 1) : mm_ent cs ad v i = .inl (cs 1, (mm_sh i).2.1, .inl (fun j => v i j)) := by
  unfold mm_ent; generalize mm_sh i = z at h ⊢; obtain ⟨a, b, c, d⟩ := z; cases h; rfl
theorem mm_ent2 {cs : Nat → ClassId} {ad : Nat → Nat} {v : mmM} {i : Nat} (h : (mm_sh i).1 = 2) : mm_ent cs ad v i = .inl (cs 2, (mm_sh i).2.1, .inr (.inr (.inr (.inr (fun j => some (ad ((mm_sh i).2.2.1 + j))))))) := by
  unfold mm_ent; generalize mm_sh i = z at h ⊢; obtain ⟨a, b, c, d⟩ := z; cases h; rfl
theorem mm_ent3 {cs : Nat → ClassId} {ad : Nat → Nat} {v : mmM} {i : Nat} (h : (mm_sh i).1 = 3) : mm_ent cs ad v i = .inr ((mm_sh i).2.1, (mm_sh i).2.2.2.mapIdx fun k r => mm_fv ad v i k r) := by
  unfold mm_ent; generalize mm_sh i = z at h ⊢; obtain ⟨a, b, c, d⟩ := z; cases h; rfl
/-- a cell's entry hangs on its own row of the memory alone -/
theorem mm_ent_at {cs : Nat → ClassId} {ad : Nat → Nat} {v v' : mmM} {i : Nat} (h : v' i = v i) : mm_ent cs ad v' i = mm_ent cs ad v i := by
  have hf : ∀ k r, mm_fv ad v' i k r = mm_fv ad v i k r := by
    intro k r
    cases r with
    | zero => show Value.int (v' i k) = Value.int (v i k); rw [h]
    | succ r => rfl
  unfold mm_ent
  simp only [h, hf]
theorem mm_up_row {v : mmM} {i j : Nat} {x : Int32} {a : Nat} (h : a ≠ i) : mm_up v i j x a = v a := by
  funext b
  simp [mm_up, h]
theorem mm_up_same {v : mmM} {i j : Nat} {x : Int32} : mm_up v i j x i j = x := by simp [mm_up]
theorem mm_up_at {v : mmM} {i j : Nat} {x : Int32} : mm_up v i j x i = upd (v i) j x := by
  funext b
  simp [mm_up, upd]
theorem mm_cp_row {v : mmM} {i sp i2 dp n : Nat} {a : Nat} (h : a ≠ i2) : mm_cp v i sp i2 dp n a = v a := by
  funext b
  simp [mm_cp, h]
theorem mm_cp_at {v : mmM} {i sp i2 dp n : Nat} : mm_cp v i sp i2 dp n i2 = va_cpy (v i) (v i2) sp dp n := by
  funext b
  simp [mm_cp, va_cpy]
theorem mm_rg_get {N i : Nat} {f : Nat → Nat × va_E} (h : i < N) : ((List.range N).map f)[i]? = some (f i) := by
  rw [List.getElem?_map, List.getElem?_range h, Option.map_some]
theorem mm_rg_set {N i : Nat} {f f' : Nat → Nat × va_E} (h : i < N) (ho : ∀ j, j ≠ i → f' j = f j) : ((List.range N).map f).set i (f' i) = (List.range N).map f' := by
  apply List.ext_getElem?
  intro n
  by_cases hn : n = i
  · subst hn
    rw [List.getElem?_set_self (by rw [List.length_map, List.length_range]; exact h), mm_rg_get h]
  · rw [List.getElem?_set_ne (Ne.symm hn), List.getElem?_map, List.getElem?_map]
    by_cases hl : n < N
    · rw [List.getElem?_range hl, Option.map_some, Option.map_some, ho n hn]
    · rw [List.getElem?_eq_none (by rw [List.length_range]; omega), Option.map_none, Option.map_none]
def mm_wd (cs : Nat → ClassId) (ad : Nat → Nat) (v : mmM) : va_W := (List.range mm_NW).map fun i => (ad i, mm_ent cs ad v i)
theorem mm_wd_get {cs : Nat → ClassId} {ad : Nat → Nat} {v : mmM} {i : Nat} (h : i < mm_NW) : (mm_wd cs ad v)[i]? = some (ad i, mm_ent cs ad v i) := mm_rg_get (f := fun i => (ad i, mm_ent cs ad v i)) h
theorem mm_wd_set {cs : Nat → ClassId} {ad : Nat → Nat} {v v' : mmM} {i : Nat} {e : va_E} (h : i < mm_NW) (he : mm_ent cs ad v' i = e) (ho : ∀ j, j ≠ i → v' j = v j) : (mm_wd cs ad v).set i (ad i, e) = mm_wd cs ad v' := by
  subst he
  exact mm_rg_set (f := fun i => (ad i, mm_ent cs ad v i)) (f' := fun i => (ad i, mm_ent cs ad v' i)) h (fun j hj => by rw [mm_ent_at (ho j hj)])
/-- the locals; a long holds two words, the mini machine's second one is empty -/
def mm_LR (ad : Nat → Nat) (ls : Array Slot) (L : List Value) : Prop := ls.size = L.length ∧ lv_wf ls ∧ ∀ (i : Nat) (x : Value), L[i]? = some x → (∀ p, x ≠ .retAddr p) → ls[i]? = some (.val (mm_vm ad x))
theorem mm_LR.at {ad : Nat → Nat} {ls : Array Slot} {L : List Value} (h : mm_LR ad ls L) {i : Nat} {x : Value} (hx : L[i]? = some x) (hn : ∀ p, x ≠ .retAddr p) : ls[i]? = some (.val (mm_vm ad x)) := h.2.2 i x hx hn
theorem mm_l1_at {L : List Value} {a : Nat} (h : mm_l1 L a = true) {j : Nat} {y : Value} (hj : j + 1 = a) (hy : L[j]? = some y) : y.category = 1 := by
  subst hj
  unfold mm_l1 at h
  simp only [hy] at h
  exact of_decide_eq_true h
def mm_lv (ad : Nat → Nat) (L : List Value) : List (Nat × Value) := (List.range L.length).filterMap fun i => match (L[i]? : Option Value) with
  | some (Value.retAddr _) => none
  | some x => some (i, mm_vm ad x)
  | none => none
theorem mm_lv_mem {ad : Nat → Nat} {L : List Value} {i : Nat} {x : Value} (hx : L[i]? = some x) (hn : ∀ p, x ≠ .retAddr p) : (i, mm_vm ad x) ∈ mm_lv ad L := by
  unfold mm_lv
  refine List.mem_filterMap.mpr ⟨i, List.mem_range.mpr (List.getElem?_eq_some_iff.mp hx).1, ?_⟩
  rw [hx]
  cases x with
  | retAddr p => exact absurd rfl (hn p)
  | _ => rfl
theorem mm_lv_of {ad : Nat → Nat} {L : List Value} {q : Nat × Value} (h : q ∈ mm_lv ad L) : ∃ x, L[q.1]? = some x ∧ (∀ p, x ≠ .retAddr p) ∧ q.2 = mm_vm ad x := by
  unfold mm_lv at h
  obtain ⟨i, -, hi⟩ := List.mem_filterMap.mp h
  cases hx : L[i]? with
  | none => rw [hx] at hi; cases hi
  | some x =>
    rw [hx] at hi
    cases x with
    | retAddr p => cases hi
    | _ => cases hi; exact ⟨_, hx, (fun p e => by cases e), rfl⟩
theorem mm_LR.has {ad : Nat → Nat} {ls : Array Slot} {L : List Value} (h : mm_LR ad ls L) : lv_has ls L.length (mm_lv ad L) := by
  refine ⟨h.1, h.2.1, fun q hq => ?_⟩
  obtain ⟨x, h1, h2, h3⟩ := mm_lv_of hq
  rw [h3]
  exact h.at h1 h2
theorem mm_LR.store {ad : Nat → Nat} {ls ls' : Array Slot} {L : List Value} {i : Nat} {x : Value} (h : mm_LR ad ls L) (hi : i < L.length) (h1 : mm_l1 L i = true)
    (hs : lv_has ls' L.length ((i, mm_vm ad x) :: (mm_lv ad L).filter (fun q => !(q.1 == i) && !(q.1 + 1 == i && q.2.category == 2)))) : mm_LR ad ls' (L.set i x) := by
  refine ⟨by rw [List.length_set]; exact hs.1, hs.2.1, fun j y hy hn => ?_⟩
  by_cases hj : j = i
  · subst hj
    rw [List.getElem?_set_self hi] at hy
    cases hy
    exact hs.2.2 (j, mm_vm ad x) List.mem_cons_self
  · rw [List.getElem?_set_ne (Ne.symm hj)] at hy
    refine hs.2.2 (j, mm_vm ad y) (List.mem_cons_of_mem _ (List.mem_filter.mpr ⟨mm_lv_mem hy hn, ?_⟩))
    by_cases hq : j + 1 = i
    · have hc1 : (mm_vm ad y).category = 1 := (mm_vm_cat ad y).trans (mm_l1_at h1 hq hy)
      simp [hj, hc1]
    · simp [hj, hq]
theorem mm_LR.storeL {ad : Nat → Nat} {ls ls' : Array Slot} {L : List Value} {i : Nat} {x : Int64} (h : mm_LR ad ls L) (hi : i + 1 < L.length) (h1 : mm_l1 L i = true)
    (hs : lv_has ls' L.length ((i, Value.long x) :: (mm_lv ad L).filter (fun q => !(q.1 == i) && (!(q.1 == i + 1) && !(q.1 + 1 == i && q.2.category == 2))))) : mm_LR ad ls' ((L.set i (.long x)).set (i + 1) (.retAddr 0)) := by
  refine ⟨by rw [List.length_set, List.length_set]; exact hs.1, hs.2.1, fun j y hy hn => ?_⟩
  by_cases hk : j = i + 1
  · subst hk
    rw [List.getElem?_set_self (by rw [List.length_set]; exact hi)] at hy
    cases hy
    exact absurd rfl (hn 0)
  rw [List.getElem?_set_ne (Ne.symm hk)] at hy
  by_cases hj : j = i
  · subst hj
    rw [List.getElem?_set_self (by omega)] at hy
    cases hy
    exact hs.2.2 (j, Value.long x) List.mem_cons_self
  · rw [List.getElem?_set_ne (Ne.symm hj)] at hy
    refine hs.2.2 (j, mm_vm ad y) (List.mem_cons_of_mem _ (List.mem_filter.mpr ⟨mm_lv_mem hy hn, ?_⟩))
    by_cases hq : j + 1 = i
    · have hc1 : (mm_vm ad y).category = 1 := (mm_vm_cat ad y).trans (mm_l1_at h1 hq hy)
      simp [hj, hk, hc1]
    · simp [hj, hk, hq]
theorem mm_args1 : ∀ (vs : List Value) (i : Nat), (∀ v ∈ vs, v.category = 1) → ∀ (n : Nat) (x : Value), vs[n]? = some x → (i + n, x) ∈ lv_args i vs
  | [], _, _, n, x, hx => by simp at hx
  | v :: vs, i, h, n, x, hx => by
    have hv := h v List.mem_cons_self
    have e : lv_args i (v :: vs) = (i, v) :: lv_args (i + 1) vs := by
      show (i, v) :: lv_args (if v.category = 2 then i + 2 else i + 1) vs = _
      rw [if_neg (by omega)]
    rw [e]
    cases n with
    | zero =>
      rw [List.getElem?_cons_zero] at hx
      cases hx
      exact List.mem_cons_self
    | succ n =>
      rw [List.getElem?_cons_succ] at hx
      have := mm_args1 vs (i + 1) (fun w hw => h w (List.mem_cons_of_mem _ hw)) n x hx
      rw [show i + (n + 1) = i + 1 + n by omega]
      exact List.mem_cons_of_mem _ this
theorem mm_sl1 (vs : List Value) (h : ∀ v ∈ vs, v.category = 1) : lg_sl vs = vs.map Slot.val := by
  unfold lg_sl
  induction vs with
  | nil => rfl
  | cons v vs ih =>
    rw [List.flatMap_cons, ih (fun w hw => h w (List.mem_cons_of_mem _ hw)), if_neg (by have := h v List.mem_cons_self; omega)]
    rfl
theorem mm_LR.entry {ad : Nat → Nat} {args : List Value} {n : Nat} (h1 : ∀ v ∈ args, v.category = 1) (hn : args.length ≤ n) :
    mm_LR ad ((lg_sl (args.map (mm_vm ad)) ++ List.replicate (n - (lg_sl (args.map (mm_vm ad))).length) Slot.unset).toArray) (args ++ List.replicate (n - args.length) (.retAddr 0)) := by
  have hc : ∀ v ∈ args.map (mm_vm ad), v.category = 1 := by
    intro v hv
    obtain ⟨w, hw, rfl⟩ := List.mem_map.mp hv
    exact (mm_vm_cat ad w).trans (h1 w hw)
  have hlen : (lg_sl (args.map (mm_vm ad))).length = args.length := by rw [mm_sl1 _ hc]; simp
  have hl := lv_entry (args.map (mm_vm ad)) (n := n) (by rw [hlen]; exact hn)
  refine ⟨by simp [hlen], hl.2.1, fun i x hx => ?_⟩
  by_cases hi : i < args.length
  · rw [List.getElem?_append_left hi] at hx
    intro _
    have h2 : (args.map (mm_vm ad))[i]? = some (mm_vm ad x) := by rw [List.getElem?_map, hx]; rfl
    have h3 := mm_args1 _ 0 hc i _ h2
    rw [Nat.zero_add] at h3
    exact hl.2.2 _ h3
  · rw [List.getElem?_append_right (by omega)] at hx
    have hm := List.mem_of_getElem? hx
    have := List.eq_of_mem_replicate hm
    subst this
    exact fun hh => absurd rfl (hh 0)
