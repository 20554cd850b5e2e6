/-! calls, answers, throws: the mini machine's run is the machine's -/
def mm_rm1 (j : Nat) : Room := { frames := mm_fr j, cells := mm_mc j, slots := 6 * mm_mc j, locals := mm_lo j }
def mm_Pc (s0 : State) (D : va_G) (cs : Nat → ClassId) (ad : Nat → Nat) (b Ls : Nat) (xs : Nat → Int32) (ar : List Value) (v : mmM) : Array Value → State → Prop := va_Pc (ar.map (mm_vm ad)) (fun U => s0.WarmedH U.vm ∧ mm_HW s0 D cs ad b Ls xs v U.heap)
def mm_Qo (s0 : State) (D : va_G) (cs : Nat → ClassId) (ad : Nat → Nat) (b Ls : Nat) (xs : Nat → Int32) (o : mmO) (v : mmM) : Array Value → State → Outcome → State → Prop := fun _ st oc t => ∃ r : Option Value, o = .inl r ∧ oc = .returned (r.map (mm_vm ad)) ∧ mm_HW s0 D cs ad b Ls xs v t.heap ∧ va_F (mm_A s0) st t
def mm_Xo (s0 : State) (D : va_G) (cs : Nat → ClassId) (ad : Nat → Nat) (b Ls : Nat) (xs : Nat → Int32) (o : mmO) (v : mmM) : String → State → State → Prop := fun E st t => ∃ e : Nat, o = .inr e ∧ e < 5 ∧ E = mm_eN e ∧ mm_HW s0 D cs ad b Ls xs v t.heap ∧ va_F (mm_A s0) st t
def mm_rx : ByteArray := ⟨#[0x2a, 0x2b, 0xb7, 0x00, 0x0d, 0xb1]⟩
def mm_wsE (e : Nat) : List Cond := if e = 4 then (mm_owX RX5 (mm_eI 4).2 (mm_eN 4) 13 mm_rx "java/lang/RuntimeException" ["java/lang/Exception"]).filter vx_no else vx_atS RX5 (mm_eI e).2 (mm_eN e) mm_names
/-- an exception of the class's -/
def mm_ekk (e : Nat) : Bool := decide (Bundle.fit (mm_eN e) = true) && mm_names.all (fun n => decide (Bundle.fit n = true)) &&
  decide (Cond.classLink RX5 (mm_eI e).1 (mm_eN e) ∈ lw_tbl) && decide (Cond.initialized (mm_eN e) ∈ lw_tbl) && decide (Cond.castable (mm_eN e) (mm_eN e) ∈ lw_tbl) && (mm_wsE e).all (fun w => decide (w ∈ lw_tbl) && w.onTables && w.keepsOver && vx_ot w)
theorem mm_eka {e : Nat} (h : e < 5) : mm_ekk e = true := by
  have h0 : mm_ekk 0 = true := by decide +kernel
  have h1 : mm_ekk 1 = true := by decide +kernel
  have h2 : mm_ekk 2 = true := by decide +kernel
  have h3 : mm_ekk 3 = true := by decide +kernel
  have h4 : mm_ekk 4 = true := by decide +kernel
  match e, h with
  | 0, _ => exact h0
  | 1, _ => exact h1
  | 2, _ => exact h2
  | 3, _ => exact h3
  | 4, _ => exact h4
theorem mm_tL_lt : mm_tL.all (fun t => decide (t.1 < 5)) = true := by decide +kernel
section MMC
variable {l : Launch} {s0 : State} {a0 : Array Value} {D : va_G} {cs : Nat → ClassId} {ad : Nat → Nat} {b Ls : Nat} {xs : Nat → Int32}
variable {p : Program} {e : Env} {R : Room} {s : State} {m : MethodId} {args : Array Value} {below : List Frame} {meth : Method} {c : Code} {H : Heap} {locs : List Loc} {cells slots : Nat} {Q : State → Prop} {k pc : Nat} {ls : Array Slot} {L S : List Value} {v v' : mmM}
theorem mm_HW.kept {H1 : Heap} (hw : mm_HW s0 D cs ad b Ls xs v H) (hz : H.size ≤ H1.size) (hq : ∀ q : Nat, q < H.size → H1[q]? = H[q]?) : mm_HW s0 D cs ad b Ls xs v H1 := by
  obtain ⟨w1, w2, w3, w4, w5⟩ := hw
  exact ⟨Nat.le_trans w1 hz, fun q h => (hq q (Nat.lt_of_lt_of_le h w1)).trans (w2 q h), w3.kept fun k q h => hq q.1 (w3 k q h).lt, w4, w5⟩
theorem mm_blind {ar : List Value} : FrameBlind (mm_Pc s0 D cs ad b Ls xs ar v) := by
  intro a U g mk h
  obtain ⟨h1, h2, h3⟩ := h
  exact ⟨h1, h2, h3⟩
/-- behind a call -/
theorem mm_call {o : mmO} {aa : Array Value} {mc ms : Nat} {rest st0 : List Value} (hr : vx_Run p l e R s m args below meth c H locs cells slots mc ms (F0 m pc ls st0) rest (mm_Qo s0 D cs ad b Ls xs o v' aa) (mm_Xo s0 D cs ad b Ls xs o v') (mm_A s0)) (hS : va_S (mm_A s0) s.heap H locs)
    (kk : ∀ (r : Option Value) (H1 : Heap) (locs1 : List Loc), o = .inl r → mm_HW s0 D cs ad b Ls xs v' H1 → va_S (mm_A s0) s.heap H1 locs1 → W p l e R s m args below meth c H1 locs1 (cells + mc) (slots + ms) Q (F0 m (pc + 3) ls ((r.map (mm_vm ad)).toList ++ rest)))
    (kx : ∀ (e1 : Nat) (q : Addr) (ce : Cell) (H1 : Heap) (locs1 : List Loc), o = .inr e1 → e1 < 5 → mm_HW s0 D cs ad b Ls xs v' H1 → va_S (mm_A s0) s.heap H1 locs1 → H1[q]? = some ce → ce.vm = .none → s.vm.findClass (mm_eN e1) = some ce.cls → vx_W p l e R s m args below meth c H1 locs1 (cells + mc) (slots + ms) Q (F0 m pc ls rest) q) :
    W p l e R s m args below meth c H locs cells slots Q (F0 m pc ls st0) := by
  intro T hT X
  rcases hr T hT X with ⟨v9, st₀, t, T', L, h0, X', hL, e1, e2, ⟨r, ho, hv, hw, hF⟩, st⟩ | ⟨q, st₀, t, T', L, E, ce, h0, X', hL, e1, e2, ⟨e9, ho, he, hE, hw, hF⟩, hce, hcv, hcl, st⟩
  · cases hv
    obtain ⟨k1, k2, k3⟩ := vx_keep h0 e1 hS (fun _ _ h => h) (fun _ h => h) hL hF
    obtain ⟨t2, a1, b1⟩ := kk r T'.heap (locs ++ L) ho (by rw [e1]; exact hw) k3 T' rfl X'
    exact ⟨t2, st t2 a1, b1⟩
  · obtain ⟨k1, k2, k3⟩ := vx_keep h0 e1 hS (fun _ _ h => h) (fun _ h => h) hL hF
    obtain ⟨t2, a1, b1⟩ := kx e9 q ce T'.heap (locs ++ L) ho he (by rw [e1]; exact hw) k3 (by rw [e1]; exact hce) hcv (by rw [← hE]; exact hcl) T' rfl X'
    exact ⟨t2, st.trans a1, b1⟩
/-- what mm_fm says -/
theorem mm_fm_sp {j : Nat} (h : mm_fm j = true) : plainName (mm_y j).cls = true ∧ ((mm_y j).cls ≠ "java/lang/invoke/MethodHandle" ∧ (mm_y j).cls ≠ "java/lang/invoke/VarHandle") ∧ (mm_y j).cls = mm_rn (mm_own j) ∧ (parseMethodDescriptor (mm_y j).desc).map (fun d => d.parameters.length) = some (mm_np j) ∧ mm_np j + (if mm_stt j then 0 else 1) ≤ mm_maxL j ∧
    mm_w (mm_ix j).1 (mm_cw j) = true ∧ goodWord (mm_cw j) = true ∧ (mm_stt j = true → mm_w (mm_ix j).2.1 (.static (mm_y j)) = true) ∧ (mm_stt j = false → mm_w (mm_ix j).2.1 (.instanceMethod (mm_y j)) = true ∧ mm_w (mm_ix j).2.2.1 (.selects (mm_rn (mm_own j)) (mm_y j) (mm_y j)) = true ∧ mm_own j < 6) ∧ mm_w (mm_ix j).2.2.2 (.initialized (mm_rn (mm_own j))) = true := by
  unfold mm_fm at h
  simp only [Bool.and_eq_true, decide_eq_true_eq] at h
  obtain ⟨⟨⟨⟨⟨⟨⟨⟨⟨⟨h1, h2⟩, h3⟩, h4⟩, -⟩, h5⟩, h6⟩, h7⟩, h8⟩, h9⟩, h10⟩ := h
  refine ⟨h1, ⟨h2, h3⟩, h4, h5, h6, h7, h8, fun q => ?_, fun q => ?_, h10⟩
  · rw [q] at h9
    simpa using h9
  · rw [q] at h9
    simp only [Bool.false_eq_true, if_false, Bool.and_eq_true, decide_eq_true_eq] at h9
    exact ⟨h9.1.1, h9.1.2, h9.2⟩
theorem mm_hlen {j n : Nat} {y : MethodName} (h : (parseMethodDescriptor y.desc).map (fun d => d.parameters.length) = some n) : ∀ sig, parseMethodDescriptor y.desc = some sig → n = sig.parameters.length := by
  intro sig hs
  rw [hs] at h
  exact (Option.some.inj h).symm
/-- a call of the mini machine is a call of the machine -/
theorem mm_run (B : mm_Bs l s0 a0 D cs b Ls xs) (X : mm_Fx s0 k p R s m meth c) {op : Instr × Nat × Nat} (hop : mm_op k pc = some op) {j np : Nat} {ar rest : List Value}
    (h : mm_ex none (fun c a => if c then a else none) (fun c a b => if c then a else b) (fun pc L S v => some (.inl (pc, L, S, v))) (fun j a r np => some (.inr (.inl (j, a, r, np)))) (fun r => some (.inr (.inr (.inl r)))) (fun e => some (.inr (.inr (.inr e)))) k pc op L S v = (some (.inr (.inl (j, ar, rest, np))) : Option mmR))
    (hw : mm_HW s0 D cs ad b Ls xs v H) (hl : mm_LR ad ls L) (hL : L.length = mm_maxL k) {o : mmO} (hM : vx_Met l (mm_y j) [mm_cw j] (mm_rm1 j) (mm_Pc s0 D cs ad b Ls xs ar v) (mm_Qo s0 D cs ad b Ls xs o v') (mm_Xo s0 D cs ad b Ls xs o v') (mm_mc j) (6 * mm_mc j) (mm_A s0)) (hc : cells + mm_mc j ≤ R.cells) (hs : slots + 6 * mm_mc j ≤ R.slots) :
    np = pc + 3 ∧ mm_cv k pc = true ∧ mm_fm j = true ∧ ar.length ≤ mm_maxL j ∧ (∀ x ∈ ar, x.category = 1) ∧ ∃ aa, vx_Run p l e R s m args below meth c H locs cells slots (mm_mc j) (6 * mm_mc j) (F0 m pc ls (S.map (mm_vm ad))) (rest.map (mm_vm ad)) (mm_Qo s0 D cs ad b Ls xs o v' aa) (mm_Xo s0 D cs ad b Ls xs o v') (mm_A s0) := by
  have hck := mm_opc hop
  obtain ⟨x1, x2, x3, x4, x5, x6, x7, x8, x9, x10, x11, x12, x13, x14⟩ := X
  have hK := mm_K B x7
  have hsize : ls.size = mm_maxL k := by rw [hl.1, hL]
  have wts : ∀ {T : List Value}, mm_wt T = true → ((T.map (mm_vm ad)).map fun v => v.category).sum ≤ 8 := by
    intro T hT
    rw [mm_vm_cats]
    exact of_decide_eq_true hT
  have hws : ∀ w ∈ [mm_cw j], mm_w (mm_ix j).1 (mm_cw j) = true → ∀ (a' : Array Value) (U : State), s.WarmedH U.vm → w.before a' U = true := by
    intro w hw1 hw2 a' U hU
    have : w = mm_cw j := by simpa using hw1
    subst this
    exact mm_wB B (State.WarmedH.trans x7 hU) hw2
  have hPS : ∀ (U : State), U.heap = H → s.WarmedH U.vm → mm_Pc s0 D cs ad b Ls xs ar v (ar.map (mm_vm ad)).toArray U := fun U h1 h2 => ⟨rfl, State.WarmedH.trans x7 h2, by rw [h1]; exact hw⟩
  have FX : CallFix p m c (mm_b k) (mm_maxL k) s args [] (mm_rn (mm_own k)) := ⟨x1, x2, x4, x5, fun w h => absurd h List.not_mem_nil⟩
  obtain ⟨i, np0, x⟩ := op
  cases i with
  | invokevirtual j0 =>
    simp only [mm_ex] at h
    split at h
    · rename_i i9 rest9 hdrop
      split at h
      · rename_i h9
        cases h
        simp only [Bool.and_eq_true, decide_eq_true_eq] at h9
        obtain ⟨⟨⟨⟨⟨n1, n2⟩, n3⟩, n4⟩, n5⟩, n6⟩ := h9
        simp only [mm_ck, Bool.and_eq_true, decide_eq_true_eq, Bool.not_eq_true'] at hck
        obtain ⟨⟨⟨⟨⟨⟨⟨rfl, h3⟩, h4⟩, h5⟩, h6⟩, h7⟩, h8⟩, h9⟩ := hck
        obtain ⟨f1, f2, f3, f4, f5, f6, f7, -, f9, f10⟩ := mm_fm_sp h6
        obtain ⟨f11, f12, f13⟩ := f9 h7
        unfold mm_rm at h5
        simp only [Bool.and_eq_true, decide_eq_true_eq] at h5
        have he := mm_wd_get (cs := cs) (ad := ad) (v := v) n1
        rw [mm_ent3 n2, n3] at he
        have hcw : mm_cw j = .code (mm_y j) (mm_b j) (mm_maxL j) (mm_ret j) := by unfold mm_cw; rw [if_pos h8]
        have hrecv := va_recv hK hw.2.2.1 (mm_clok f13) he
        have hcat : ∀ x ∈ Value.ref i9 :: (S.take (mm_np j)).reverse, x.category = 1 := by
          intro x hx
          rcases List.mem_cons.mp hx with rfl | hx
          · rfl
          · exact of_decide_eq_true (List.all_eq_true.mp n5 x (List.mem_reverse.mp hx))
        have htl : (S.take (mm_np j)).length = mm_np j := by rw [List.length_take]; omega
        have hlen9 : (Value.ref i9 :: (S.take (mm_np j)).reverse).length ≤ mm_maxL j := by
          rw [List.length_cons, List.length_reverse, htl]
          rw [h7] at f5
          simpa using f5
        have hsplit : S = S.take (mm_np j) ++ (Value.ref i9 :: rest) := by rw [← hdrop, List.take_append_drop]
        have hstk : S.map (mm_vm ad) = ((S.take (mm_np j)).reverse.map (mm_vm ad)).reverse ++ .ref (ad i9) :: rest.map (mm_vm ad) := by
          conv => lhs; rw [hsplit]
          rw [List.map_append, List.map_reverse, List.reverse_reverse]
          rfl
        refine ⟨rfl, h9, h6, hlen9, hcat, (Value.ref (ad i9) :: (S.take (mm_np j)).reverse.map (mm_vm ad)).toArray, ?_⟩
        have hpv : PreV s H (mm_rn (mm_own j)) (ad i9) (mm_Pc s0 D cs ad b Ls xs (Value.ref i9 :: (S.take (mm_np j)).reverse) v) ((S.take (mm_np j)).reverse.map (mm_vm ad)) := ⟨mm_blind, hrecv, hPS⟩
        have hAs : ((S.take (mm_np j)).reverse.map (mm_vm ad)).length = mm_np j := by rw [List.length_map, List.length_reverse, htl]
        have hcin : Cond.code (mm_y j) (mm_b j) (mm_maxL j) (mm_ret j) ∈ [mm_cw j] := by rw [hcw]; exact List.mem_cons_self
        have hini : (Cond.initialized (mm_y j).cls).before args s = true := by rw [f3]; exact mm_wB B x7 f10
        have hcode : (Cond.code (mm_y j) (mm_b j) (mm_maxL j) (mm_ret j)).before args s = true := by rw [← hcw]; exact mm_wB B x7 f6
        unfold mm_lk at h4
        split at h4
        · rename_i j' w hlk
          simp only [Bool.and_eq_true, decide_eq_true_eq] at h4
          obtain ⟨⟨-, h4⟩, -⟩ := h4
          exact vx_runVN (bytes := mm_b j) (maxL := mm_maxL j) (ret := mm_ret j) (As := (S.take (mm_np j)).reverse.map (mm_vm ad)) FX hM ⟨⟨⟨rfl, rfl, Nat.le_trans h5.1 x10, Nat.le_trans h5.2 x11, fun w hw1 => hws w hw1 f6, hcin⟩, hcode, hini, f2, mm_hlen (j := j) f4, mm_nM B x7 h4⟩, mm_wB B x7 f11, mm_wB B x7 f12⟩ hpv rfl hAs hsize hstk (lv_room (wts n4)) (mm_dcs h3) ⟨hc, hs⟩
        · rename_i j' w hlk
          simp only [Bool.and_eq_true, decide_eq_true_eq] at h4
          exact vx_runV (bytes := mm_b j) (maxL := mm_maxL j) (ret := mm_ret j) (As := (S.take (mm_np j)).reverse.map (mm_vm ad)) FX hM ⟨⟨rfl, rfl, Nat.le_trans h5.1 x10, Nat.le_trans h5.2 x11, fun w hw1 => hws w hw1 f6, hcin, hcode, hini, f2, mm_hlen (j := j) f4, mm_wB B x7 h4.2⟩, mm_wB B x7 f11, mm_wB B x7 f12⟩ hpv rfl hAs hsize hstk (lv_room (wts n4)) (mm_dcs h3) ⟨hc, hs⟩
        · cases h4
      · cases h
    · cases h
  | invokestatic j0 =>
    simp only [mm_ex] at h
    by_cases j1 : j0 = 1000
    · rw [if_pos j1] at h
      split at h
      · split at h <;> cases h
      · cases h
    rw [if_neg j1] at h
    by_cases j2 : j0 = 1001
    · rw [if_pos j2] at h
      split at h
      · split at h <;> cases h
      · cases h
    rw [if_neg j2] at h
    by_cases j4 : j0 = 1003
    · rw [if_pos j4] at h
      split at h
      · split at h
        · split at h
          · split at h <;> cases h
          · cases h
        · cases h
      · cases h
    rw [if_neg j4] at h
    split at h
    · rename_i h9
      cases h
      simp only [Bool.and_eq_true, decide_eq_true_eq] at h9
      obtain ⟨⟨n6, n4⟩, n5⟩ := h9
      simp only [mm_ck, Bool.and_eq_true, decide_eq_true_eq] at hck
      obtain ⟨⟨rfl, h3⟩, h4⟩ := hck
      by_cases hj : 1000 ≤ j
      · rw [if_pos hj] at h4
        unfold mm_bk at h4
        simp only [Bool.and_eq_true, decide_eq_true_eq] at h4
        obtain ⟨-, h4⟩ := h4
        exfalso
        have hq : mm_lL.all (fun q => decide (q.2.2.1 < 1004 ∧ q.2.2.1 ≠ 1002)) = true := by decide +kernel
        split at h4
        · rename_i w9 hlk
          simp only [Bool.and_eq_true, decide_eq_true_eq] at h4
          have hmem : ∀ (l : List ((Nat × Nat) × (Bool × Nat × Nat))) (q : Nat × Nat) (z : Bool × Nat × Nat), l.lookup q = some z → (q, z) ∈ l := by
            intro l
            induction l with
            | nil => intro q z h; cases h
            | cons a l ih =>
              intro q z h
              obtain ⟨a1, a2⟩ := a
              rw [List.lookup_cons] at h
              by_cases e9 : q = a1
              · subst e9
                rw [beq_self_eq_true] at h
                cases h
                exact List.mem_cons_self
              · rw [show (q == a1) = false from beq_eq_false_iff_ne.mpr e9] at h
                exact List.mem_cons_of_mem _ (ih q z h)
          have h8 := of_decide_eq_true (List.all_eq_true.mp hq _ (hmem _ _ _ hlk))
          simp only at h8
          have h7 := h4.1
          omega
        · cases h4
      rw [if_neg hj] at h4
      simp only [Bool.and_eq_true] at h4
      obtain ⟨⟨⟨⟨h4, h5⟩, h6⟩, h7⟩, h9⟩ := h4
      obtain ⟨f1, f2, f3, f4, f5, f6, f7, f8, -, f10⟩ := mm_fm_sp h6
      have f8 := f8 h7
      unfold mm_rm at h5
      simp only [Bool.and_eq_true, decide_eq_true_eq] at h5
      have htl : (S.take (mm_np j)).length = mm_np j := by rw [List.length_take]; omega
      have hcat : ∀ x ∈ (S.take (mm_np j)).reverse, x.category = 1 := by
        intro x hx
        exact of_decide_eq_true (List.all_eq_true.mp n5 x (List.mem_reverse.mp hx))
      have hlen9 : ((S.take (mm_np j)).reverse).length ≤ mm_maxL j := by
        rw [List.length_reverse, htl]
        rw [h7] at f5
        simpa using f5
      have hstk : S.map (mm_vm ad) = ((S.take (mm_np j)).reverse.map (mm_vm ad)).reverse ++ (S.drop (mm_np j)).map (mm_vm ad) := by
        rw [List.map_reverse, List.reverse_reverse, ← List.map_append, List.take_append_drop]
      refine ⟨rfl, h9, h6, hlen9, hcat, ((S.take (mm_np j)).reverse.map (mm_vm ad)).toArray, ?_⟩
      have hps : PreS s H (mm_Pc s0 D cs ad b Ls xs (S.take (mm_np j)).reverse v) ((S.take (mm_np j)).reverse.map (mm_vm ad)) := ⟨mm_blind, hPS⟩
      have hAs : ((S.take (mm_np j)).reverse.map (mm_vm ad)).length = mm_np j := by rw [List.length_map, List.length_reverse, htl]
      have hini : (Cond.initialized (mm_y j).cls).before args s = true := by rw [f3]; exact mm_wB B x7 f10
      unfold mm_lk at h4
      split at h4
      · rename_i j' w hlk
        simp only [Bool.and_eq_true, decide_eq_true_eq] at h4
        obtain ⟨⟨-, h4⟩, hem⟩ := h4
        have hcw : mm_cw j = .code (mm_y j) (mm_b j) (mm_maxL j) (mm_ret j) := by unfold mm_cw; rw [if_pos hem]
        have hcin : Cond.code (mm_y j) (mm_b j) (mm_maxL j) (mm_ret j) ∈ [mm_cw j] := by rw [hcw]; exact List.mem_cons_self
        have hcode : (Cond.code (mm_y j) (mm_b j) (mm_maxL j) (mm_ret j)).before args s = true := by rw [← hcw]; exact mm_wB B x7 f6
        exact vx_runSN (bytes := mm_b j) (maxL := mm_maxL j) (ret := mm_ret j) (As := (S.take (mm_np j)).reverse.map (mm_vm ad)) FX hM ⟨⟨⟨rfl, rfl, Nat.le_trans h5.1 x10, Nat.le_trans h5.2 x11, fun w hw1 => hws w hw1 f6, hcin⟩, hcode, hini, f2, mm_hlen (j := j) f4, mm_nM B x7 h4⟩, mm_wB B x7 f8, trivial⟩ hps rfl hAs hsize hstk (lv_room (wts n4)) (mm_dcs h3) ⟨hc, hs⟩
      · rename_i j' w hlk
        simp only [Bool.and_eq_true, decide_eq_true_eq] at h4
        by_cases hem : (mm_hh j).isEmpty = true
        · have hcw : mm_cw j = .code (mm_y j) (mm_b j) (mm_maxL j) (mm_ret j) := by unfold mm_cw; rw [if_pos hem]
          have hcin : Cond.code (mm_y j) (mm_b j) (mm_maxL j) (mm_ret j) ∈ [mm_cw j] := by rw [hcw]; exact List.mem_cons_self
          have hcode : (Cond.code (mm_y j) (mm_b j) (mm_maxL j) (mm_ret j)).before args s = true := by rw [← hcw]; exact mm_wB B x7 f6
          exact vx_runS (bytes := mm_b j) (maxL := mm_maxL j) (ret := mm_ret j) (As := (S.take (mm_np j)).reverse.map (mm_vm ad)) FX hM ⟨⟨rfl, rfl, Nat.le_trans h5.1 x10, Nat.le_trans h5.2 x11, fun w hw1 => hws w hw1 f6, hcin, hcode, hini, f2, mm_hlen (j := j) f4, mm_wB B x7 h4.2⟩, mm_wB B x7 f8⟩ hps rfl hAs hsize hstk (lv_room (wts n4)) (mm_dcs h3) ⟨hc, hs⟩
        · have hcw : mm_cw j = .codeWith (mm_y j) (mm_b j) (mm_maxL j) (mm_ret j) (mm_hh j) := by unfold mm_cw; rw [if_neg hem]
          have hcin : Cond.codeWith (mm_y j) (mm_b j) (mm_maxL j) (mm_ret j) (mm_hh j) ∈ [mm_cw j] := by rw [hcw]; exact List.mem_cons_self
          have hcode : (Cond.codeWith (mm_y j) (mm_b j) (mm_maxL j) (mm_ret j) (mm_hh j)).before args s = true := by rw [← hcw]; exact mm_wB B x7 f6
          exact vx_runSX (hh := mm_hh j) (bytes := mm_b j) (maxL := mm_maxL j) (ret := mm_ret j) (As := (S.take (mm_np j)).reverse.map (mm_vm ad)) FX hM ⟨⟨rfl, rfl, Nat.le_trans h5.1 x10, Nat.le_trans h5.2 x11, fun w hw1 => hws w hw1 f6, hcin⟩, hcode, hini, f2, mm_hlen (j := j) f4, mm_wB B x7 h4.2, mm_wB B x7 f8⟩ hps rfl hAs hsize hstk (lv_room (wts n4)) (mm_dcs h3) ⟨hc, hs⟩
      · cases h4
    · cases h
  | _ =>
    exfalso
    simp only [mm_ex] at h
    (repeat' split at h) <;> cases h
end MMC
