/-! an op that goes on: as the mini machine does, so the machine -/
/-- from here on, in any heap that holds the memory v: the end Q is reached -/
def mm_G (l : Launch) (s0 : State) (D : va_G) (cs : Nat → ClassId) (ad : Nat → Nat) (b Ls : Nat) (xs : Nat → Int32) (p : Program) (e : Env) (R : Room) (s : State) (m : MethodId) (args : Array Value) (below : List Frame) (meth : Method) (c : Code) (cells slots : Nat) (Q : State → Prop) (v : mmM) (L S : List Value) (pc : Nat) : Prop :=
  ∀ (H : Heap) (locs : List Loc) (ls : Array Slot), mm_HW s0 D cs ad b Ls xs v H → va_S (mm_A s0) s.heap H locs → mm_LR ad ls L → W p l e R s m args below meth c H locs cells slots Q (F0 m pc ls (S.map (mm_vm ad)))
section MMS
variable {l : Launch} {s0 : State} {a0 : Array Value} {D : va_G} {cs : Nat → ClassId} {ad : Nat → Nat} {b Ls : Nat} {xs : Nat → Int32}
variable {p : Program} {e : Env} {R : Room} {s : State} {m : MethodId} {args : Array Value} {below : List Frame} {meth : Method} {c : Code} {H : Heap} {locs : List Loc} {cells slots : Nat} {Q : State → Prop} {k pc : Nat} {ls : Array Slot} {L S : List Value} {v v' : mmM}
theorem mm_HW.of (hw : mm_HW s0 D cs ad b Ls xs v H) (X : mm_Fx s0 k p R s m meth c) {H1 : Heap} {locs1 : List Loc} (hS : va_S (mm_A s0) s.heap H1 locs1) (hP : va_P D vwCl (mm_wd cs ad v') H1) (hD : va_D (mm_A s0) (mm_wd cs ad v')) (h1 : v' mm_NW = v mm_NW) (h2 : v' (mm_NW + 1) = v (mm_NW + 1)) : mm_HW s0 D cs ad b Ls xs v' H1 := by
  obtain ⟨-, -, -, -, w5, w6, w7⟩ := hw
  obtain ⟨-, -, -, -, -, -, -, x8, x9, -⟩ := X
  refine ⟨Nat.le_trans x8 hS.1, fun q hq => ?_, hP, hD, w5, fun j => by rw [h1]; exact w6 j, by rw [h2]; exact w7⟩
  rw [hS.2.1 q (Nat.lt_of_lt_of_le hq x8) (Nat.not_le.mpr hq)]
  exact x9 q hq
/-- a store into a cell -/
theorem mm_put (hw : mm_HW s0 D cs ad b Ls xs v H) (X : mm_Fx s0 k p R s m meth c) {i : Nat} (hi : i < mm_NW) {en : va_E} (he : mm_ent cs ad v' i = en) (ho : ∀ j, j ≠ i → v' j = v j) {H1 : Heap} {locs1 : List Loc} (hP : va_P D vwCl ((mm_wd cs ad v).set i (ad i, en)) H1) (hD : va_D (mm_A s0) ((mm_wd cs ad v).set i (ad i, en))) (hS : va_S (mm_A s0) s.heap H1 locs1) : mm_HW s0 D cs ad b Ls xs v' H1 := by
  rw [mm_wd_set hi he ho] at hP hD
  exact hw.of X hS hP hD (ho _ (by omega)) (ho _ (by omega))
theorem mm_inv {j : Int32} {n : Nat} (h : mm_in j n = true) : vp_in j n := by
  unfold mm_in at h
  simp only [Bool.and_eq_true, decide_eq_true_eq] at h
  exact vp_in_iff.mpr h
theorem mm_ent_obj {i : Nat} {k2 : Nat} {x : Int32} (h3 : (mm_sh i).1 = 3) (hf : (mm_sh i).2.2.2[k2]? = some 0) : mm_ent cs ad (mm_up v i k2 x) i = .inr ((mm_sh i).2.1, ((mm_sh i).2.2.2.mapIdx fun k r => mm_fv ad v i k r).set k2 (.int x)) := by
  rw [mm_ent3 h3]
  congr 2
  generalize (mm_sh i).2.2.2 = fs at hf ⊢
  have hl : k2 < fs.length := (List.getElem?_eq_some_iff.mp hf).1
  apply List.ext_getElem?
  intro n
  by_cases hn : n = k2
  · subst hn
    rw [List.getElem?_set_self (by rw [List.length_mapIdx]; exact hl), List.getElem?_mapIdx, hf, Option.map_some]
    show some (Value.int (mm_up v i n x i n)) = _
    rw [mm_up_same]
  · rw [List.getElem?_set_ne (Ne.symm hn), List.getElem?_mapIdx, List.getElem?_mapIdx]
    cases hq : fs[n]? with
    | none => rw [Option.map_none, Option.map_none]
    | some r =>
      rw [Option.map_some, Option.map_some]
      cases r with
      | zero =>
        show some (Value.int (mm_up v i k2 x i n)) = some (Value.int (v i n))
        rw [show mm_up v i k2 x i n = v i n by simp [mm_up, hn]]
      | succ r => rfl
set_option maxHeartbeats 4000000 in
set_option maxRecDepth 100000 in
theorem mm_sn (B : mm_Bs l s0 a0 D cs b Ls xs) (X : mm_Fx s0 k p R s m meth c) (hc : cells ≤ R.cells) (hs : slots ≤ R.slots) {op : Instr × Nat × Nat} (hop : mm_op k pc = some op) {pc' : Nat} {L' S' : List Value}
    (h : mm_ex none (fun c a => if c then a else none) (fun c a b => if c then a else b) (fun pc L S v => some (.inl (pc, L, S, v))) (fun j a r np => some (.inr (.inl (j, a, r, np)))) (fun r => some (.inr (.inr (.inl r)))) (fun e => some (.inr (.inr (.inr e)))) k pc op L S v = (some (.inl (pc', L', S', v')) : Option mmR))
    (hL : L.length = mm_maxL k ∧ mm_lc k L)
    (kk : mm_G l s0 D cs ad b Ls xs p e R s m args below meth c cells slots Q v' L' S' pc') : mm_G l s0 D cs ad b Ls xs p e R s m args below meth c cells slots Q v L S pc := by
  intro H locs ls hw hS hl
  have hck := mm_opc hop
  have hx := X.1
  have hb := X.2.1
  have hown := X.2.2.2.2.1
  have hW := X.2.2.2.2.2.2.1
  have hK := mm_K B hW
  obtain ⟨i, np, x⟩ := op
  cases i with
  | iload a =>
    simp only [mm_ex] at h
    split at h
    · rename_i x9 h9
      cases h
      simp only [mm_ck, Bool.or_eq_true, Bool.and_eq_true, decide_eq_true_eq] at hck
      have h8 := hl.at h9 (fun _ e => by cases e)
      rcases hck with ⟨⟨⟨-, rfl⟩, h2⟩, h3⟩ | ⟨rfl, h3⟩
      · exact lv_iload_n hx hb (mm_dcs h3) h2 h8 (kk H locs ls hw hS hl)
      · exact lv_iload hx hb (mm_dcs h3) h8 (kk H locs ls hw hS hl)
    · cases h
  | aload a =>
    simp only [mm_ex] at h
    split at h
    · rename_i x9 h9
      cases h
      simp only [mm_ck, Bool.or_eq_true, Bool.and_eq_true, decide_eq_true_eq] at hck
      have h8 := hl.at h9 (fun _ e => by cases e)
      rcases hck with ⟨⟨⟨-, rfl⟩, h2⟩, h3⟩ | ⟨rfl, h3⟩
      · exact lv_aload_n hx hb (mm_dcs h3) h2 h8 (kk H locs ls hw hS hl)
      · exact lv_aload hx hb (mm_dcs h3) h8 (kk H locs ls hw hS hl)
    · cases h
  | lload a =>
    simp only [mm_ex] at h
    split at h
    · rename_i x9 h9
      cases h
      simp only [mm_ck, Bool.or_eq_true, Bool.and_eq_true, decide_eq_true_eq] at hck
      have h8 := hl.at h9 (fun _ e => by cases e)
      rcases hck with ⟨⟨⟨-, rfl⟩, h2⟩, h3⟩ | ⟨rfl, h3⟩
      · exact lv_lload_n hx hb (mm_dcs h3) h2 h8 (kk H locs ls hw hS hl)
      · exact lv_lload hx hb (mm_dcs h3) h8 (kk H locs ls hw hS hl)
    · cases h
  | istore a =>
    simp only [mm_ex] at h
    split at h
    · split at h
      · rename_i x9 S9 h9
        cases h
        rw [Bool.and_eq_true, decide_eq_true_eq] at h9
        simp only [mm_ck, Bool.or_eq_true, Bool.and_eq_true, decide_eq_true_eq] at hck
        rcases hck with ⟨⟨⟨-, rfl⟩, h2⟩, h3⟩ | ⟨rfl, h3⟩
        · exact lv_istore_n hx hb (mm_dcs h3) h2 hl.has h9.1 rfl (fun ls1 h1 => kk H locs ls1 hw hS (hl.store h9.1 (mm_l1_of h9.2 hL.2) h1))
        · exact lv_istore hx hb (mm_dcs h3) hl.has h9.1 rfl (fun ls1 h1 => kk H locs ls1 hw hS (hl.store h9.1 (mm_l1_of h9.2 hL.2) h1))
      · cases h
    · cases h
  | astore a =>
    simp only [mm_ex] at h
    split at h
    · split at h
      · rename_i x9 S9 h9
        cases h
        rw [Bool.and_eq_true, decide_eq_true_eq] at h9
        simp only [mm_ck, Bool.or_eq_true, Bool.and_eq_true, decide_eq_true_eq] at hck
        rcases hck with ⟨⟨⟨-, rfl⟩, h2⟩, h3⟩ | ⟨rfl, h3⟩
        · exact lv_astore_n hx hb (mm_dcs h3) h2 hl.has h9.1 rfl (fun ls1 h1 => kk H locs ls1 hw hS (hl.store h9.1 (mm_l1_of h9.2 hL.2) h1))
        · exact lv_astore hx hb (mm_dcs h3) hl.has h9.1 rfl (fun ls1 h1 => kk H locs ls1 hw hS (hl.store h9.1 (mm_l1_of h9.2 hL.2) h1))
      · cases h
    · cases h
  | lstore a =>
    simp only [mm_ex] at h
    split at h
    · split at h
      · rename_i x9 S9 h9
        cases h
        rw [Bool.and_eq_true, Bool.and_eq_true, decide_eq_true_eq] at h9
        simp only [mm_ck, Bool.or_eq_true, Bool.and_eq_true, decide_eq_true_eq] at hck
        rcases hck with ⟨⟨⟨-, rfl⟩, h2⟩, h3⟩ | ⟨rfl, h3⟩
        · exact lv_lstore_n hx hb (mm_dcs h3) h2 hl.has h9.1.1 rfl (fun ls1 h1 => kk H locs ls1 hw hS (hl.storeL h9.1.1 (mm_l1_of h9.1.2 hL.2) h1))
        · exact lv_lstore hx hb (mm_dcs h3) hl.has h9.1.1 rfl (fun ls1 h1 => kk H locs ls1 hw hS (hl.storeL h9.1.1 (mm_l1_of h9.1.2 hL.2) h1))
      · cases h
    · cases h
  | iinc a n =>
    simp only [mm_ex] at h
    split at h
    · rename_i x9 h9
      split at h
      · rename_i h6
        cases h
        simp only [mm_ck, Bool.and_eq_true, decide_eq_true_eq] at hck
        obtain ⟨rfl, h3⟩ := hck
        have h7 := (List.getElem?_eq_some_iff.mp h9).1
        obtain ⟨k9, hk9⟩ := List.getElem?_of_mem (mm_lv_mem (ad := ad) h9 (fun _ e => by cases e))
        exact lv_iinc hx hb (mm_dcs h3) hl.has hk9 rfl h7 rfl (fun ls1 h1 => kk H locs ls1 hw hS (hl.store h7 (mm_l1_of h6 hL.2) h1))
      · cases h
    · cases h
  | iconst n =>
    simp only [mm_ex] at h
    cases h
    simp only [mm_ck] at hck
    split at hck
    · simp only [Bool.and_eq_true, decide_eq_true_eq] at hck
      obtain ⟨rfl, h3⟩ := hck
      exact lv_iconst hx hb (mm_dcs h3) rfl (kk H locs ls hw hS hl)
    · split at hck
      · simp only [Bool.and_eq_true, decide_eq_true_eq] at hck
        obtain ⟨⟨rfl, h3⟩, h4⟩ := hck
        exact lv_bipush hx hb (mm_dcs h3) h4 (kk H locs ls hw hS hl)
      · split at hck
        · simp only [Bool.and_eq_true, decide_eq_true_eq] at hck
          obtain ⟨⟨rfl, h3⟩, h4⟩ := hck
          exact lv_sipush hx hb (mm_dcs h3) h4 (kk H locs ls hw hS hl)
        · split at hck
          · rw [Bool.and_eq_true] at hck
            obtain ⟨h1, h2⟩ := hck
            split at h2
            · simp only [Bool.and_eq_true, decide_eq_true_eq] at h2
              obtain ⟨rfl, h3⟩ := h2
              exact lv_ldc hx hb hown (mm_wB B hW h1) (mm_dcs h3) (kk H locs ls hw hS hl)
            · simp only [Bool.and_eq_true, decide_eq_true_eq] at h2
              obtain ⟨rfl, h3⟩ := h2
              exact lv_ldcw hx hb hown (mm_wB B hW h1) (mm_dcs h3) (kk H locs ls hw hS hl)
          · cases hck
  | ldc2_w n =>
    simp only [mm_ex] at h
    cases h
    simp only [mm_ck, Bool.and_eq_true, decide_eq_true_eq] at hck
    obtain ⟨⟨rfl, h3⟩, h4⟩ := hck
    split at h4
    · exact lv_ldc2 hx hb hown (mm_wB B hW h4) (mm_dcs h3) (kk H locs ls hw hS hl)
    · cases h4
  | iadd =>
    simp only [mm_ex] at h
    split at h
    · cases h
      simp only [mm_ck, Bool.and_eq_true, decide_eq_true_eq] at hck
      obtain ⟨rfl, h3⟩ := hck
      exact lv_iadd hx hb (mm_dcs h3) (kk H locs ls hw hS hl)
    · cases h
  | isub =>
    simp only [mm_ex] at h
    split at h
    · cases h
      simp only [mm_ck, Bool.and_eq_true, decide_eq_true_eq] at hck
      obtain ⟨rfl, h3⟩ := hck
      exact lv_isub hx hb (mm_dcs h3) (kk H locs ls hw hS hl)
    · cases h
  | imul =>
    simp only [mm_ex] at h
    split at h
    · cases h
      simp only [mm_ck, Bool.and_eq_true, decide_eq_true_eq] at hck
      obtain ⟨rfl, h3⟩ := hck
      exact lv_imul hx hb (mm_dcs h3) (kk H locs ls hw hS hl)
    · cases h
  | idiv =>
    simp only [mm_ex] at h
    split at h
    · split at h
      · rename_i h9
        cases h
        simp only [mm_ck, Bool.and_eq_true, decide_eq_true_eq] at hck
        obtain ⟨rfl, h3⟩ := hck
        exact lv_idiv hx hb (mm_dcs h3) (by simpa using h9) (kk H locs ls hw hS hl)
      · cases h
    · cases h
  | irem =>
    simp only [mm_ex] at h
    split at h
    · split at h
      · rename_i h9
        cases h
        simp only [mm_ck, Bool.and_eq_true, decide_eq_true_eq] at hck
        obtain ⟨rfl, h3⟩ := hck
        exact lv_irem hx hb (mm_dcs h3) (by simpa using h9) (kk H locs ls hw hS hl)
      · cases h
    · cases h
  | ineg =>
    simp only [mm_ex] at h
    split at h
    · cases h
      simp only [mm_ck, Bool.and_eq_true, decide_eq_true_eq] at hck
      obtain ⟨rfl, h3⟩ := hck
      exact lv_ineg hx hb (mm_dcs h3) (kk H locs ls hw hS hl)
    · cases h
  | iand =>
    simp only [mm_ex] at h
    split at h
    · cases h
      simp only [mm_ck, Bool.and_eq_true, decide_eq_true_eq] at hck
      obtain ⟨rfl, h3⟩ := hck
      exact lv_iand hx hb (mm_dcs h3) (kk H locs ls hw hS hl)
    · cases h
  | ishl =>
    simp only [mm_ex] at h
    split at h
    · cases h
      simp only [mm_ck, Bool.and_eq_true, decide_eq_true_eq] at hck
      obtain ⟨rfl, h3⟩ := hck
      exact lv_ishl hx hb (mm_dcs h3) (kk H locs ls hw hS hl)
    · cases h
  | ishr =>
    simp only [mm_ex] at h
    split at h
    · cases h
      simp only [mm_ck, Bool.and_eq_true, decide_eq_true_eq] at hck
      obtain ⟨rfl, h3⟩ := hck
      exact lv_ishr hx hb (mm_dcs h3) (kk H locs ls hw hS hl)
    · cases h
  | i2c =>
    simp only [mm_ex] at h
    split at h
    · cases h
      simp only [mm_ck, Bool.and_eq_true, decide_eq_true_eq] at hck
      obtain ⟨rfl, h3⟩ := hck
      exact lv_i2c hx hb (mm_dcs h3) rfl (kk H locs ls hw hS hl)
    · cases h
  | i2l =>
    simp only [mm_ex] at h
    split at h
    · cases h
      simp only [mm_ck, Bool.and_eq_true, decide_eq_true_eq] at hck
      obtain ⟨rfl, h3⟩ := hck
      exact lv_i2l hx hb (mm_dcs h3) rfl (kk H locs ls hw hS hl)
    · cases h
  | ladd =>
    simp only [mm_ex] at h
    split at h
    · cases h
      simp only [mm_ck, Bool.and_eq_true, decide_eq_true_eq] at hck
      obtain ⟨rfl, h3⟩ := hck
      exact lv_ladd hx hb (mm_dcs h3) (kk H locs ls hw hS hl)
    · cases h
  | lmul =>
    simp only [mm_ex] at h
    split at h
    · cases h
      simp only [mm_ck, Bool.and_eq_true, decide_eq_true_eq] at hck
      obtain ⟨rfl, h3⟩ := hck
      exact lv_lmul hx hb (mm_dcs h3) (kk H locs ls hw hS hl)
    · cases h
  | lcmp =>
    simp only [mm_ex] at h
    split at h
    · cases h
      simp only [mm_ck, Bool.and_eq_true, decide_eq_true_eq] at hck
      obtain ⟨rfl, h3⟩ := hck
      exact W.lcmp hx hb (mm_dcs h3) (kk H locs ls hw hS hl)
    · cases h
  | dup =>
    simp only [mm_ex] at h
    split at h
    · split at h
      · rename_i h9
        cases h
        simp only [mm_ck, Bool.and_eq_true, decide_eq_true_eq] at hck
        obtain ⟨rfl, h3⟩ := hck
        exact lv_dup hx hb (mm_dcs h3) ((mm_vm_cat ad _).trans (of_decide_eq_true h9)) (kk H locs ls hw hS hl)
      · cases h
    · cases h
  | dup2 =>
    simp only [mm_ex] at h
    split at h
    · split at h
      · rename_i h9
        cases h
        simp only [Bool.and_eq_true, decide_eq_true_eq] at h9
        simp only [mm_ck, Bool.and_eq_true, decide_eq_true_eq] at hck
        obtain ⟨rfl, h3⟩ := hck
        exact lv_dup2_11 hx hb (mm_dcs h3) ((mm_vm_cat ad _).trans h9.1) ((mm_vm_cat ad _).trans h9.2) (kk H locs ls hw hS hl)
      · cases h
    · cases h
  | goto off =>
    simp only [mm_ex] at h
    cases h
    simp only [mm_ck] at hck
    exact lv_goto hx hb (mm_dcs hck) (by omega) (kk H locs ls hw hS hl)
  | ifCond cc off =>
    simp only [mm_ex] at h
    split at h
    · simp only [mm_ck, Bool.and_eq_true, decide_eq_true_eq] at hck
      obtain ⟨rfl, h3⟩ := hck
      cases cc with
      | eq =>
        refine lv_if_eq (tgt := x) hx hb (mm_dcs h3) (by omega) (fun q => ?_) (fun q => ?_)
        · simp only [q, decide_true, if_true] at h; cases h; exact kk H locs ls hw hS hl
        · simp only [q, decide_false, Bool.false_eq_true, if_false] at h; cases h; exact kk H locs ls hw hS hl
      | ne =>
        refine lv_if_ne (tgt := x) hx hb (mm_dcs h3) (by omega) (fun q => ?_) (fun q => ?_)
        · simp only [q, decide_false, Bool.false_eq_true, if_false] at h; cases h; exact kk H locs ls hw hS hl
        · simp only [q, decide_true, if_true] at h; cases h; exact kk H locs ls hw hS hl
      | lt =>
        refine lv_if_lt (tgt := x) hx hb (mm_dcs h3) (by omega) (fun q => ?_) (fun q => ?_)
        · simp only [q, decide_true, if_true] at h; cases h; exact kk H locs ls hw hS hl
        · simp only [q, decide_false, Bool.false_eq_true, if_false] at h; cases h; exact kk H locs ls hw hS hl
      | ge =>
        refine lv_if_ge (tgt := x) hx hb (mm_dcs h3) (by omega) (fun q => ?_) (fun q => ?_)
        · simp only [q, decide_true, if_true] at h; cases h; exact kk H locs ls hw hS hl
        · simp only [q, decide_false, Bool.false_eq_true, if_false] at h; cases h; exact kk H locs ls hw hS hl
      | gt =>
        refine lv_if_gt (tgt := x) hx hb (mm_dcs h3) (by omega) (fun q => ?_) (fun q => ?_)
        · simp only [q, decide_true, if_true] at h; cases h; exact kk H locs ls hw hS hl
        · simp only [q, decide_false, Bool.false_eq_true, if_false] at h; cases h; exact kk H locs ls hw hS hl
      | le =>
        refine lv_if_le (tgt := x) hx hb (mm_dcs h3) (by omega) (fun q => ?_) (fun q => ?_)
        · simp only [q, decide_true, if_true] at h; cases h; exact kk H locs ls hw hS hl
        · simp only [q, decide_false, Bool.false_eq_true, if_false] at h; cases h; exact kk H locs ls hw hS hl
    · cases h
  | if_icmp cc off =>
    simp only [mm_ex] at h
    split at h
    · simp only [mm_ck, Bool.and_eq_true, decide_eq_true_eq] at hck
      obtain ⟨rfl, h3⟩ := hck
      cases cc with
      | eq =>
        refine lv_icmp_eq (tgt := x) hx hb (mm_dcs h3) (by omega) (fun q => ?_) (fun q => ?_)
        · simp only [q, decide_true, if_true] at h; cases h; exact kk H locs ls hw hS hl
        · simp only [q, decide_false, Bool.false_eq_true, if_false] at h; cases h; exact kk H locs ls hw hS hl
      | ne =>
        refine lv_icmp_ne (tgt := x) hx hb (mm_dcs h3) (by omega) (fun q => ?_) (fun q => ?_)
        · simp only [q, decide_false, Bool.false_eq_true, if_false] at h; cases h; exact kk H locs ls hw hS hl
        · simp only [q, decide_true, if_true] at h; cases h; exact kk H locs ls hw hS hl
      | lt =>
        refine lv_icmp_lt (tgt := x) hx hb (mm_dcs h3) (by omega) (fun q => ?_) (fun q => ?_)
        · simp only [q, decide_true, if_true] at h; cases h; exact kk H locs ls hw hS hl
        · simp only [q, decide_false, Bool.false_eq_true, if_false] at h; cases h; exact kk H locs ls hw hS hl
      | ge =>
        refine lv_icmp_ge (tgt := x) hx hb (mm_dcs h3) (by omega) (fun q => ?_) (fun q => ?_)
        · simp only [q, decide_true, if_true] at h; cases h; exact kk H locs ls hw hS hl
        · simp only [q, decide_false, Bool.false_eq_true, if_false] at h; cases h; exact kk H locs ls hw hS hl
      | gt =>
        refine lv_icmp_gt (tgt := x) hx hb (mm_dcs h3) (by omega) (fun q => ?_) (fun q => ?_)
        · simp only [q, decide_true, if_true] at h; cases h; exact kk H locs ls hw hS hl
        · simp only [q, decide_false, Bool.false_eq_true, if_false] at h; cases h; exact kk H locs ls hw hS hl
      | le =>
        refine lv_icmp_le (tgt := x) hx hb (mm_dcs h3) (by omega) (fun q => ?_) (fun q => ?_)
        · simp only [q, decide_true, if_true] at h; cases h; exact kk H locs ls hw hS hl
        · simp only [q, decide_false, Bool.false_eq_true, if_false] at h; cases h; exact kk H locs ls hw hS hl
    · cases h
  | tableswitch d lo hi offs =>
    simp only [mm_ex] at h
    split at h
    · simp only [mm_ck] at hck
      split at h
      · rename_i h9
        split at h
        · rename_i h8
          cases h
          have h8 := of_decide_eq_true h8
          simp only [Bool.or_eq_true, decide_eq_true_eq] at h9
          exact lv_tableOut hx hb (mm_dcs hck) h9 (by omega) (kk H locs ls hw hS hl)
        · cases h
      · rename_i h9
        simp only [Bool.or_eq_true, decide_eq_true_eq, not_or] at h9
        split at h
        · rename_i off h7
          split at h
          · rename_i h8
            cases h
            have h8 := of_decide_eq_true h8
            exact lv_tableIn hx hb (mm_dcs hck) h9.1 h9.2 h7 (by omega) (kk H locs ls hw hS hl)
          · cases h
        · cases h
    · cases h
  | getfield a =>
    simp only [mm_ex] at h
    split at h
    · split at h
      · rename_i i9 S9 h9
        simp only [Bool.and_eq_true, decide_eq_true_eq] at h9
        obtain ⟨⟨n1, n2⟩, n3⟩ := h9
        simp only [mm_ck, Bool.and_eq_true, decide_eq_true_eq] at hck
        obtain ⟨⟨rfl, h3⟩, h4⟩ := hck
        obtain ⟨q1, q2, -, w9, q4⟩ := mm_fk_sp h4
        have he := mm_wd_get (cs := cs) (ad := ad) (v := v) n1
        rw [mm_ent3 n2, n3] at he
        have key : ∀ y : Value, ((mm_sh i9).2.2.2.mapIdx fun k r => mm_fv ad v i9 k r)[a % 100]? = some y → W p l e R s m args below meth c H locs cells slots Q (F0 m (pc + 3) ls (y :: S9.map (mm_vm ad))) → W p l e R s m args below meth c H locs cells slots Q (F0 m pc ls ((Value.ref i9 :: S9).map (mm_vm ad))) := by
          intro y hy g
          rcases q4 with q4 | q4
          · exact va_getN (T := mm_T (a / 100)) hx hb (mm_lays B hW q1) (fun _ h => h) hown hK hw.2.2.1 i9 he (mm_clok q1) (a % 100) q2 (mm_nF B hW q4) (fun _ h => h) hy (mm_dcs h3) g
          · exact va_get (T := mm_T (a / 100)) hx hb (mm_lays B hW q1) (fun _ h => h) hown hK hw.2.2.1 i9 he (mm_clok q1) (a % 100) q2 (mm_wB B hW q4) (fun _ h => h) hy (mm_dcs h3) g
        split at h
        · rename_i h7
          cases h
          exact key _ (by rw [List.getElem?_mapIdx, h7]; rfl) (kk H locs ls hw hS hl)
        · rename_i r9 h7
          cases h
          exact key _ (by rw [List.getElem?_mapIdx, h7]; rfl) (kk H locs ls hw hS hl)
        · cases h
      · cases h
    · cases h
  | putfield a =>
    simp only [mm_ex] at h
    split at h
    · split at h
      · rename_i y9 i9 S9 h9
        simp only [Bool.and_eq_true, decide_eq_true_eq] at h9
        obtain ⟨⟨n1, n2⟩, n3⟩ := h9
        simp only [mm_ck, Bool.and_eq_true, decide_eq_true_eq] at hck
        obtain ⟨⟨rfl, h3⟩, h4⟩ := hck
        obtain ⟨q1, q2, q3, w9, q4⟩ := mm_fk_sp h4
        obtain ⟨q5, q6⟩ := q3 rfl
        have he := mm_wd_get (cs := cs) (ad := ad) (v := v) n1
        rw [mm_ent3 n2, n3] at he
        split at h
        · rename_i h7
          cases h
          have hlen : a % 100 < ((mm_sh i9).2.2.2.mapIdx fun k r => mm_fv ad v i9 k r).length := by
            rw [List.length_mapIdx]
            exact (List.getElem?_eq_some_iff.mp h7).1
          have hd0 : parseFieldDescriptor (mm_T (a / 100) (a % 100)).2.2.1 = some .int := by rw [mm_tyok q1 _ q2, q6]
          have hen := mm_ent_obj (cs := cs) (ad := ad) (v := v) (x := y9) n2 h7
          rw [n3] at hen
          rcases q4 with q4 | q4
          · exact va_putN (T := mm_T (a / 100)) (v := .int y9) hx hb (mm_lays B hW q1) (fun _ h => h) (mm_tyf (a / 100)) (mm_tyok q1) (mm_nmok q1) hown hK hw.2.2.1 hw.2.2.2.1 hS i9 he (mm_clok q1) (a % 100) q2 (mm_nF B hW q4) (fun _ h => h) q5 hd0 rfl rfl hlen (mm_dcs h3) (fun H1 locs1 hP1 hD1 hS1 => kk H1 locs1 ls (mm_put hw X n1 hen (fun j hj => mm_up_row hj) hP1 hD1 hS1) hS1 hl)
          · exact va_put (T := mm_T (a / 100)) (v := .int y9) hx hb (mm_lays B hW q1) (fun _ h => h) (mm_tyf (a / 100)) (mm_tyok q1) (mm_nmok q1) hown hK hw.2.2.1 hw.2.2.2.1 hS i9 he (mm_clok q1) (a % 100) q2 (mm_wB B hW q4) (fun _ h => h) q5 hd0 rfl rfl hlen (mm_dcs h3) (fun H1 locs1 hP1 hD1 hS1 => kk H1 locs1 ls (mm_put hw X n1 hen (fun j hj => mm_up_row hj) hP1 hD1 hS1) hS1 hl)
        · cases h
      · cases h
    · cases h
  | iaload =>
    simp only [mm_ex] at h
    split at h
    · simp only [mm_ck, Bool.and_eq_true, decide_eq_true_eq] at hck
      obtain ⟨rfl, h3⟩ := hck
      split at h
      · rename_i j9 i9 S9 hi9
        split at h
        · rename_i h9
          cases h
          subst hi9
          rw [hw.2.2.2.2.2.2, nI_clamp B.2.2.2.2.2.2.2.2.2] at h9
          have e1 : mm_vm ad (Value.ref mm_NW) = Value.ref b := by show Value.ref (ad mm_NW) = _; rw [hw.2.2.2.2.1]
          have g := kk H locs ls hw hS hl
          simp only [List.map_cons] at g ⊢
          rw [e1]
          have e2 : mm_vm ad (Value.int (v mm_NW j9.toNatClampNeg)) = Value.int (xs j9.toNatClampNeg) := by show Value.int _ = _; rw [hw.2.2.2.2.2.1]
          rw [e2] at g
          have hXs : va_X b Ls xs s s.heap := (va_X.moved hW.alike B.2.2.2.2.2.2.2.1).kept (X.2.2.2.2.2.2.2.2.1 b B.2.2.2.2.2.2.2.2.1)
          exact va_sld hx hb hXs (Nat.lt_of_lt_of_le B.2.2.2.2.2.2.2.2.1 X.2.2.2.2.2.2.2.1) (Nat.not_le.mpr B.2.2.2.2.2.2.2.2.1) hS (mm_inv h9) (mm_dcs h3) g
        · cases h
      · split at h
        · rename_i h9
          simp only [Bool.and_eq_true, decide_eq_true_eq] at h9
          split at h
          · rename_i h8
            cases h
            have he := mm_wd_get (cs := cs) (ad := ad) (v := v) h9.1
            rw [mm_ent0 h9.2] at he
            exact va_iald hx hb hK hw.2.2.1 _ 0 he rfl (mm_inv h8) (mm_dcs h3) (kk H locs ls hw hS hl)
          · cases h
        · cases h
    · cases h
  | caload =>
    simp only [mm_ex] at h
    split at h
    · simp only [mm_ck, Bool.and_eq_true, decide_eq_true_eq] at hck
      obtain ⟨rfl, h3⟩ := hck
      split at h
      · rename_i h9
        simp only [Bool.and_eq_true, decide_eq_true_eq] at h9
        split at h
        · rename_i h8
          cases h
          have he := mm_wd_get (cs := cs) (ad := ad) (v := v) h9.1
          rw [mm_ent1 h9.2] at he
          exact va_cald hx hb hK hw.2.2.1 _ 1 he rfl (mm_inv h8) (mm_dcs h3) (kk H locs ls hw hS hl)
        · cases h
      · cases h
    · cases h
  | iastore =>
    simp only [mm_ex] at h
    split at h
    · simp only [mm_ck, Bool.and_eq_true, decide_eq_true_eq] at hck
      obtain ⟨rfl, h3⟩ := hck
      split at h
      · rename_i y9 j9 i9 S9 h9
        simp only [Bool.and_eq_true, decide_eq_true_eq] at h9
        split at h
        · rename_i h8
          cases h
          have he := mm_wd_get (cs := cs) (ad := ad) (v := v) h9.1
          rw [mm_ent0 h9.2] at he
          have hen : mm_ent cs ad (mm_up v i9 j9.toNatClampNeg y9) i9 = .inl (cs 0, (mm_sh i9).2.1, .inl (upd (v i9) j9.toNatClampNeg y9)) := by rw [mm_ent0 h9.2, ← mm_up_at]
          exact va_iast hx hb hK hw.2.2.1 hw.2.2.2.1 hS _ 0 he rfl (mm_inv h8) (mm_dcs h3) (fun H1 locs1 hP1 hD1 hS1 => kk H1 locs1 ls (mm_put hw X h9.1 hen (fun j hj => mm_up_row hj) hP1 hD1 hS1) hS1 hl)
        · cases h
      · cases h
    · cases h
  | castore =>
    simp only [mm_ex] at h
    split at h
    · simp only [mm_ck, Bool.and_eq_true, decide_eq_true_eq] at hck
      obtain ⟨rfl, h3⟩ := hck
      split at h
      · rename_i y9 j9 i9 S9 h9
        simp only [Bool.and_eq_true, decide_eq_true_eq] at h9
        split at h
        · rename_i h8
          split at h
          · rename_i h7
            cases h
            have h7 := of_decide_eq_true h7
            have he := mm_wd_get (cs := cs) (ad := ad) (v := v) h9.1
            rw [mm_ent1 h9.2] at he
            have hen : mm_ent cs ad (mm_up v i9 j9.toNatClampNeg y9) i9 = .inl (cs 1, (mm_sh i9).2.1, .inl (upd (v i9) j9.toNatClampNeg (vp_nar .char y9))) := by rw [mm_ent1 h9.2, h7, ← mm_up_at]
            exact va_cast hx hb hK hw.2.2.1 hw.2.2.2.1 hS _ 1 he rfl (mm_inv h8) (mm_dcs h3) (fun H1 locs1 hP1 hD1 hS1 => kk H1 locs1 ls (mm_put hw X h9.1 hen (fun j hj => mm_up_row hj) hP1 hD1 hS1) hS1 hl)
          · cases h
        · cases h
      · cases h
    · cases h
  | aaload =>
    simp only [mm_ex] at h
    split at h
    · simp only [mm_ck, Bool.and_eq_true, decide_eq_true_eq] at hck
      obtain ⟨rfl, h3⟩ := hck
      split at h
      · rename_i j9 i9 S9 h9
        simp only [Bool.and_eq_true, decide_eq_true_eq] at h9
        split at h
        · rename_i h8
          cases h
          have h8 := mm_inv h8
          have he := mm_wd_get (cs := cs) (ad := ad) (v := v) h9.1
          rw [mm_ent2 h9.2] at he
          have hlt : j9.toNatClampNeg < (mm_sh i9).2.1 := Nat.not_le.mp fun q => h8 (Or.inr q)
          exact W.aald (v := .ref (ad ((mm_sh i9).2.2.1 + j9.toNatClampNeg))) (ty := .array .int) hx hb (hw.2.2.1 i9 _ he) ((hK.2 2 (cs 2, .array .int) rfl).1 (mm_sh i9).2.1 (fun j => va_rf (some (ad ((mm_sh i9).2.2.1 + j))))) rfl (fun q => by cases q) (by show ¬ (j9 < 0 ∨ (arrV _ _ _).slots.size ≤ _); rw [arrV_size]; exact h8) (by show (arrV _ _ _).slots[_]? = _; rw [arrV_read _ _ hlt]; rfl) rfl rfl (mm_dcs h3) (kk H locs ls hw hS hl)
        · cases h
      · cases h
    · cases h
  | arraylength =>
    simp only [mm_ex] at h
    split at h
    · simp only [mm_ck, Bool.and_eq_true, decide_eq_true_eq] at hck
      obtain ⟨rfl, h3⟩ := hck
      split at h
      · rename_i i9 S9 h9
        cases h
        have h9 := of_decide_eq_true h9
        subst h9
        have e1 : mm_vm ad (Value.ref mm_NW) = Value.ref b := by show Value.ref (ad mm_NW) = _; rw [hw.2.2.2.2.1]
        have g := kk H locs ls hw hS hl
        simp only [List.map_cons] at g ⊢
        rw [e1]
        have e2 : mm_vm ad (Value.int (v (mm_NW + 1) 0)) = Value.int (Int32.ofNat Ls) := by show Value.int _ = _; rw [hw.2.2.2.2.2.2]; rfl
        rw [e2] at g
        have hXs : va_X b Ls xs s s.heap := (va_X.moved hW.alike B.2.2.2.2.2.2.2.1).kept (X.2.2.2.2.2.2.2.2.1 b B.2.2.2.2.2.2.2.2.1)
        exact va_slen hx hb hXs (Nat.lt_of_lt_of_le B.2.2.2.2.2.2.2.2.1 X.2.2.2.2.2.2.2.1) (Nat.not_le.mpr B.2.2.2.2.2.2.2.2.1) hS (mm_dcs h3) g
      · cases h
    · cases h
  | invokestatic j =>
    simp only [mm_ex] at h
    have wts : ∀ {T : List Value}, mm_wt T = true → ((T.map (mm_vm ad)).map fun v => v.category).sum ≤ 8 := by
      intro T hT
      rw [mm_vm_cats]
      exact of_decide_eq_true hT
    simp only [mm_ck, Bool.and_eq_true, decide_eq_true_eq] at hck
    obtain ⟨⟨rfl, h3⟩, h4⟩ := hck
    have hml : c.maxLocals = ls.size := by rw [X.2.2.2.1, hl.1, hL.1]
    by_cases hj : 1000 ≤ j
    · rw [if_pos hj] at h4
      unfold mm_bk at h4
      simp only [Bool.and_eq_true, decide_eq_true_eq] at h4
      obtain ⟨⟨r1, r2⟩, h4⟩ := h4
      have f1 : 1 ≤ R.frames := Nat.le_trans r1 X.2.2.2.2.2.2.2.2.2.1
      have f2 : 21 ≤ R.locals := Nat.le_trans r2 X.2.2.2.2.2.2.2.2.2.2.1
      split at h4
      · rename_i w9 hlk
        simp only [Bool.and_eq_true, decide_eq_true_eq] at h4
        obtain ⟨-, h4⟩ := h4
        by_cases j0 : j = 1000
        · subst j0
          simp only [if_true, Bool.and_eq_true] at h4 h
          obtain ⟨⟨⟨g1, g2⟩, g3⟩, g4⟩ := h4
          split at h
          · split at h
            · rename_i h9
              cases h
              exact va_mmax hx hb hml hown (mm_wB B hW g1) (mm_wB B hW g2) (mm_wB B hW g3) (mm_wB B hW g4) f1 (by have := wts h9; omega) hc hs (mm_dcs h3) (kk H locs ls hw hS hl)
            · cases h
          · cases h
        · rw [if_neg j0] at h4 h
          by_cases j1 : j = 1001
          · subst j1
            simp only [if_true, Bool.and_eq_true] at h4 h
            obtain ⟨⟨⟨g1, g2⟩, g3⟩, g4⟩ := h4
            split at h
            · split at h
              · rename_i h9
                cases h
                exact va_mmin hx hb hml hown (mm_wB B hW g1) (mm_wB B hW g2) (mm_wB B hW g3) (mm_wB B hW g4) f1 (by have := wts h9; omega) hc hs (mm_dcs h3) (kk H locs ls hw hS hl)
              · cases h
            · cases h
          · rw [if_neg j1] at h4 h
            by_cases j2 : j = 1002
            · subst j2
              simp at h4
            · rw [if_neg j2] at h4
              by_cases j3 : j = 1003
              · subst j3
                simp only [if_true] at h
                simp only [Bool.and_eq_true, decide_eq_true_eq] at h4
                obtain ⟨⟨⟨⟨g1, g2⟩, g3⟩, g4⟩, g5⟩ := h4
                split at h
                · split at h
                  · split at h
                    · split at h
                      · rename_i n9 d9 i2 sp9 i9 S9 h9 h8 h7
                        cases h
                        simp only [Bool.and_eq_true, decide_eq_true_eq] at h9 h8 h7
                        obtain ⟨⟨⟨⟨b1, b2⟩, b3⟩, b4⟩, b5⟩ := h9
                        obtain ⟨⟨c1, c2⟩, c3⟩ := h8
                        have neg : ∀ {z : Int32}, 0 ≤ z.toInt → ¬ z < 0 := by
                          intro z hz hz2
                          rw [Int32.lt_iff_toInt_lt] at hz2
                          have : (0 : Int32).toInt = 0 := rfl
                          omega
                        have he0 := mm_wd_get (cs := cs) (ad := ad) (v := v) b1
                        rw [mm_ent0 b2] at he0
                        have he1 := mm_wd_get (cs := cs) (ad := ad) (v := v) b3
                        rw [mm_ent0 b4] at he1
                        have hen : mm_ent cs ad (mm_cp v i9 sp9.toNatClampNeg i2 d9.toNatClampNeg n9.toNatClampNeg) i2 = .inl (cs 0, (mm_sh i2).2.1, .inl (va_cpy (v i9) (v i2) sp9.toNatClampNeg d9.toNatClampNeg n9.toNatClampNeg)) := by rw [mm_ent0 b4, ← mm_cp_at]
                        exact va_copyi hx hb hml hown (mm_wB B hW g1) (mm_wB B hW g4) (mm_wB B hW g2) (mm_wB B hW g3) hK hw.2.2.1 hw.2.2.2.1 hS i9 i2 0 0 he0 he1 rfl rfl rfl (neg c1) (neg c2) (neg c3) h7.1 h7.2 (fun _ _ => rfl) f1 (by have := wts b5; have := X.2.2.2.2.2.2.2.2.2.2.1; omega) (mm_dcs h3) (fun H1 locs1 hP1 hD1 hS1 => kk H1 locs1 ls (mm_put hw X b3 hen (fun j hj => mm_cp_row hj) hP1 hD1 hS1) hS1 hl)
                      · cases h
                    · cases h
                  · cases h
                · cases h
              · rw [if_neg j3] at h
                split at h <;> cases h
      · cases h4
    · rw [if_neg (by omega), if_neg (by omega), if_neg (by omega)] at h
      split at h <;> cases h
  | invokevirtual j =>
    simp only [mm_ex] at h
    split at h
    · split at h <;> cases h
    · cases h
  | ireturn =>
    simp only [mm_ex] at h
    split at h
    · split at h <;> cases h
    · cases h
  | lreturn =>
    simp only [mm_ex] at h
    split at h <;> cases h
  | return_ =>
    simp only [mm_ex] at h
    split at h <;> cases h
  | athrow =>
    simp only [mm_ex] at h
    split at h <;> cases h
  | _ => simp only [mm_ex] at h; cases h
end MMS
