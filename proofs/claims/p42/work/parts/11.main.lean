/-! THE MINI MACHINE IS THE MACHINE: a run that ends gives a contract -/
def mm_rtk (k pc : Nat) : Option Value → Prop
  | some (.int x) => decode (mm_b k) pc = .ok (.ireturn, 1) ∧ ∃ ty, mm_ret k = some ty ∧ narrow ty (.int x) = .int x
  | some (.long _) => decode (mm_b k) pc = .ok (.lreturn, 1) ∧ mm_ret k = some .long
  | none => decode (mm_b k) pc = .ok (.return_, 1) ∧ mm_ret k = none
  | _ => False
def mm_SP (l : Launch) (s0 : State) (D : va_G) (cs : Nat → ClassId) (ad : Nat → Nat) (b Ls : Nat) (xs : Nat → Int32) (n : Nat) : Prop :=
  ∀ (k pc : Nat) (L S : List Value) (v : mmM) (c : Nat) (o : mmO) (v' : mmM), mm_go n k pc L S v c = some (o, v') →
  ∀ (p : Program) (e : Env) (R : Room) (s : State) (m : MethodId) (args : Array Value) (below : List Frame) (meth : Method) (cd : Code) (Q : State → Prop), mm_Fx s0 k p R s m meth cd → (L.length = mm_maxL k ∧ mm_lc k L) → c ≤ mm_mc k →
  (∀ (r : Option Value) (pc1 : Nat) (H : Heap) (locs : List Loc) (ls : Array Slot) (c1 : Nat), o = .inl r → mm_HW s0 D cs ad b Ls xs v' H → va_S (mm_A s0) s.heap H locs → c1 ≤ mm_mc k → mm_rtk k pc1 r → W p l e R s m args below meth cd H locs c1 (6 * c1) Q (F0 m pc1 ls (r.map (mm_vm ad)).toList)) →
  (∀ (t pc1 : Nat) (H : Heap) (locs : List Loc) (ls : Array Slot) (c1 : Nat), o = .inr (mm_tL.getD t (0, 0, 0, 0, 0, "", false)).1 → mm_tk k pc1 t = true → mm_HW s0 D cs ad b Ls xs v' H → va_S (mm_A s0) s.heap H locs → ls.size = mm_maxL k → c1 + 1 ≤ mm_mc k → W p l e R s m args below meth cd H locs c1 (6 * c1) Q (F0 m pc1 ls [])) →
  (∀ (e1 : Nat) (q : Addr) (ce : Cell) (pc1 : Nat) (H : Heap) (locs : List Loc) (ls : Array Slot) (c1 : Nat) (rest : List Value), o = .inr e1 → e1 < 5 → mm_hh k = [] → mm_HW s0 D cs ad b Ls xs v' H → va_S (mm_A s0) s.heap H locs → H[q]? = some ce → ce.vm = .none → s.vm.findClass (mm_eN e1) = some ce.cls → c1 ≤ mm_mc k → vx_W p l e R s m args below meth cd H locs c1 (6 * c1) Q (F0 m pc1 ls rest) q) →
  mm_G l s0 D cs ad b Ls xs p e R s m args below meth cd c (6 * c) Q v L S pc
section MMM
variable {l : Launch} {s0 : State} {a0 : Array Value} {D : va_G} {cs : Nat → ClassId} {ad : Nat → Nat} {b Ls : Nat} {xs : Nat → Int32}
variable {p : Program} {e : Env} {R : Room} {s : State} {m : MethodId} {args : Array Value} {below : List Frame} {meth : Method} {c : Code} {H : Heap} {locs : List Loc} {cells slots : Nat} {Q : State → Prop} {k pc : Nat} {ls : Array Slot} {L S : List Value} {v v' : mmM}
theorem mm_noTab (X : mm_Fx s0 k p R s m meth c) (h : mm_hh k = []) : ∀ x ∈ c.exceptionTable.toList, False := by
  intro x hx
  have := X.2.2.2.2.2.2.2.2.2.2.2.2.2
  rw [h] at this
  rw [this] at hx
  exact absurd hx List.not_mem_nil
/-- a throw of the class's own -/
theorem mm_thr (B : mm_Bs l s0 a0 D cs b Ls xs) (X : mm_Fx s0 k p R s m meth c) {t c1 : Nat} {o : mmO} (ht : mm_tk k pc t = true) (ho : o = .inr (mm_tL.getD t (0, 0, 0, 0, 0, "", false)).1) (hw : mm_HW s0 D cs ad b Ls xs v' H) (hS : va_S (mm_A s0) s.heap H locs) (hls : ls.size = mm_maxL k) (hc : c1 + 1 ≤ mm_mc k) :
    W p l e R s m args below meth c H locs c1 (6 * c1) (vx_MQ below (mm_Qo s0 D cs ad b Ls xs o v') (mm_Xo s0 D cs ad b Ls xs o v') args s (mm_mc k) (6 * mm_mc k) (mm_A s0)) (F0 m pc ls []) := by
  obtain ⟨x1, x2, x3, x4, x5, x6, x7, x8, x9, x10, x11, x12, x13, x14⟩ := id X
  unfold mm_tk at ht
  cases hq : mm_tL[t]? with
  | none => rw [hq] at ht; cases ht
  | some q =>
    obtain ⟨e1, own, ik, is, ic, tx, wd⟩ := q
    rw [hq] at ht
    simp only [Bool.and_eq_true, decide_eq_true_eq] at ht
    obtain ⟨⟨⟨⟨⟨⟨⟨⟨⟨⟨t1, t2⟩, t3⟩, t4⟩, t5⟩, t6⟩, t7⟩, t8⟩, t9⟩, t10⟩, t11⟩ := ht
    have hem : mm_hh k = [] := by simpa using t8
    have hget : (mm_tL.getD t (0, 0, 0, 0, 0, "", false)).1 = e1 := by rw [List.getD_eq_getElem?_getD, hq]; rfl
    rw [hget] at ho
    obtain ⟨sa, hsa⟩ := B.2.2.2.2.2.1 _ (List.mem_of_getElem? hq)
    have hsb : vk_R RX5 is tx sa s := vk_R.warm x7 hsa
    have hek := mm_eka t1
    unfold mm_ekk at hek
    simp only [Bool.and_eq_true, decide_eq_true_eq] at hek
    obtain ⟨⟨⟨⟨⟨g1, g2⟩, g3⟩, g4⟩, g5⟩, g6⟩ := hek
    have hik : ik = (mm_eI e1).1 := congrArg Prod.fst t4
    have hic : ic = (mm_eI e1).2 := congrArg Prod.snd t4
    subst hik; subst hic
    have hown : s.vm.findClass RX5 = some m.cls := by rw [t3] at x5; exact x5
    have hnm : ∀ n ∈ mm_names, Bundle.fit n = true := fun n hn => of_decide_eq_true (List.all_eq_true.mp g2 n hn)
    have k1 : (Cond.classLink RX5 (mm_eI e1).1 (mm_eN e1)).before args s = true := mm_wk x7 rfl rfl (B.2.1 _ g3)
    have k2 : (Cond.initialized (mm_eN e1)).before args s = true := mm_wk x7 rfl rfl (B.2.1 _ g4)
    have k3 : ∀ w ∈ mm_wsE e1, w.before args s = true := by
      intro w hw1
      have h1 := List.all_eq_true.mp g6 w hw1
      simp only [Bool.and_eq_true, decide_eq_true_eq] at h1
      exact mm_wk x7 h1.1.1.2 h1.1.2 (B.2.1 w h1.1.1.1)
    have k4 : ∀ w ∈ Cond.classLink RX5 (mm_eI e1).1 (mm_eN e1) :: Cond.initialized (mm_eN e1) :: mm_wsE e1, vx_ot w = true := by
      intro w hw1
      rcases List.mem_cons.mp hw1 with rfl | hw1
      · rfl
      · rcases List.mem_cons.mp hw1 with rfl | hw1
        · rfl
        · have h1 := List.all_eq_true.mp g6 w hw1
          simp only [Bool.and_eq_true, decide_eq_true_eq] at h1
          exact h1.2
    have hq9 : ∀ a : Nat, a < s0.heap.size → ¬ mm_A s0 a → s.heap[a]? = s0.heap[a]? := fun a h _ => x9 a h
    have hU : vx_Zq Bundle.tN "UNASSIGNED_STACK" Bundle.steD (mm_A s0) s s.heap := (vx_Zq.moved x7.alike B.2.2.2.1).kept hq9
    have hN : vx_Zq Bundle.tN "SUPPRESSED_SENTINEL" Bundle.listD (mm_A s0) s s.heap := (vx_Zq.moved x7.alike B.2.2.2.2.1).kept hq9
    have hsz : ls.size = c.maxLocals := by rw [hls, x4]
    have hx : ∀ t : State, s.vm.Alike t.vm → H.size ≤ t.heap.size → (∀ q : Nat, q < H.size → t.heap[q]? = H[q]?) → mm_Xo s0 D cs ad b Ls xs o v' (mm_eN e1) s t := by
      intro t _ h1 h2
      exact ⟨e1, ho, t1, rfl, hw.kept h1 h2, Nat.le_trans hS.1 h1, fun q q1 q2 => (h2 q (Nat.lt_of_lt_of_le q1 hS.1)).trans (hS.2.1 q q1 q2)⟩
    have r1 : 5 < R.frames := Nat.lt_of_lt_of_le t6 x10
    have r2 : 82 ≤ R.locals := Nat.le_trans t7 x11
    have r3 : c1 + 1 ≤ R.cells := Nat.le_trans hc x12
    have r4 : 6 * c1 + 6 ≤ R.slots := by omega
    have y0 : decode mm_rx 0 = .ok (.aload_n 0, 1) := by decide +kernel
    have y1 : decode mm_rx 1 = .ok (.aload_n 1, 1) := by decide +kernel
    have y2 : decode mm_rx 2 = .ok (.invokespecial 13, 3) := by decide +kernel
    have y5 : decode mm_rx 5 = .ok (.return_, 1) := by decide +kernel
    by_cases e4 : e1 = 4
    · subst e4
      have k3' : ∀ w ∈ (mm_owX RX5 (mm_eI 4).2 (mm_eN 4) 13 mm_rx "java/lang/RuntimeException" ["java/lang/Exception"]).filter vx_no, w.before args s = true := k3
      cases wd with
      | false =>
        simp only [Bool.false_eq_true, if_false, Bool.and_eq_true] at t11
        exact mm_throwX (A := mm_A s0) x1 x2 B.1 y0 y1 y2 y5 hown g1 hnm k1 k2 hsb k3' k4 hU hN hS hsz (mm_dcs t9) (mm_dcs t10) (mm_dcs t11.1.1) (mm_dcs t11.1.2) (mm_dcs t11.2) (fun x hx => (mm_noTab X hem x hx).elim) r1 r2 r3 r4 x6 hx hS.2.2 hc (by omega)
      | true =>
        simp only [if_true, Bool.and_eq_true] at t11
        exact mm_throwXW (A := mm_A s0) x1 x2 B.1 y0 y1 y2 y5 hown g1 hnm k1 k2 hsb k3' k4 hU hN hS hsz (mm_dcs t9) (mm_dcs t10) (mm_dcs t11.1.1) (mm_dcs t11.1.2) (mm_dcs t11.2) (fun x hx => (mm_noTab X hem x hx).elim) r1 r2 r3 r4 x6 hx hS.2.2 hc (by omega)
    · have ew : mm_wsE e1 = vx_atS RX5 (mm_eI e1).2 (mm_eN e1) mm_names := by unfold mm_wsE; rw [if_neg e4]
      rw [ew] at k3 k4
      cases wd with
      | false =>
        simp only [Bool.false_eq_true, if_false, Bool.and_eq_true] at t11
        exact vx_throwS (A := mm_A s0) x1 x2 B.1 hown g1 hnm k1 k2 hsb k3 k4 hU hN hS hsz (mm_dcs t9) (mm_dcs t10) (mm_dcs t11.1.1) (mm_dcs t11.1.2) (mm_dcs t11.2) (fun x hx => (mm_noTab X hem x hx).elim) r1 r2 r3 r4 x6 hx hS.2.2 hc (by omega)
      | true =>
        simp only [if_true, Bool.and_eq_true] at t11
        exact vx_throwSW (A := mm_A s0) x1 x2 B.1 hown g1 hnm k1 k2 hsb k3 k4 hU hN hS hsz (mm_dcs t9) (mm_dcs t10) (mm_dcs t11.1.1) (mm_dcs t11.1.2) (mm_dcs t11.2) (fun x hx => (mm_noTab X hem x hx).elim) r1 r2 r3 r4 x6 hx hS.2.2 hc (by omega)
theorem mm_cn_eN {h : Nat × Nat × Nat × Nat} (hk : k < 124) : ∃ e2, e2 < 5 ∧ mm_hd.mm_cn k h = mm_eN e2 := by
  unfold mm_hd.mm_cn
  split
  · exact ⟨0, by decide, rfl⟩
  · exact ⟨1, by decide, rfl⟩
  · exact ⟨2, by decide, rfl⟩
  · exact ⟨3, by decide, rfl⟩
  · rw [if_pos (by omega)]
    exact ⟨4, by decide, rfl⟩
/-- a handler of the law's little methods -/
theorem mm_catch (B : mm_Bs l s0 a0 D cs b Ls xs) (X : mm_Fx s0 k p R s m meth c) (hk : k < 124) (hcv : mm_cv k pc = true) {e1 : Nat} {x : Int32} (hd : mm_hd k e1 = some x) (he : e1 < 5) {q : Addr} {ce : Cell} {rest : List Value} (hl : mm_LR ad ls L) (hL : L.length = mm_maxL k)
    (hcell : H[q]? = some ce) (hv : ce.vm = .none) (hcl : s.vm.findClass (mm_eN e1) = some ce.cls)
    (kk : ∀ (pc2 : Nat) (ls2 : Array Slot), decode (mm_b k) pc2 = .ok (.ireturn, 1) → (∃ ty, mm_ret k = some ty ∧ narrow ty (.int x) = .int x) → W p l e R s m args below meth c H locs cells slots Q (F0 m pc2 ls2 [.int x])) :
    vx_W p l e R s m args below meth c H locs cells slots Q (F0 m pc ls rest) q := by
  obtain ⟨x1, x2, x3, x4, x5, x6, x7, x8, x9, x10, x11, x12, x13, x14⟩ := id X
  unfold mm_hd at hd
  cases hf : (mm_hh k).findIdx? (fun h => decide (mm_hd.mm_cn k h = mm_eN e1)) with
  | none => rw [hf] at hd; cases hd
  | some i =>
    rw [hf] at hd
    cases hd
    obtain ⟨hi, h1, h2⟩ := List.findIdx?_eq_some_iff_getElem.mp hf
    have h1 := of_decide_eq_true h1
    have hz : ((mm_hh k)[i], i) ∈ (mm_hh k).zipIdx := by
      refine List.mem_of_getElem? (i := i) ?_
      rw [List.getElem?_zipIdx, List.getElem?_eq_getElem hi]
      simp
    have hkc := List.all_eq_true.mp (mm_hkc hk) _ hz
    simp only [Bool.and_eq_true, decide_eq_true_eq] at hkc
    obtain ⟨⟨⟨⟨c1, c2⟩, c3⟩, c8⟩, c4⟩ := hkc
    have hty : ∃ ty, mm_ret k = some ty ∧ narrow ty (.int (Int32.ofInt ((mm_ans k).getD i 0))) = .int (Int32.ofInt ((mm_ans k).getD i 0)) := by
      split at c8
      · rename_i ty hr9
        exact ⟨ty, hr9, of_decide_eq_true c8⟩
      · cases c8
    have hend : ∀ (pc2 : Nat) (ls2 : Array Slot), mm_hn k pc2 ((mm_ans k).getD i 0) = true → W p l e R s m args below meth c H locs cells slots Q (F0 m pc2 ls2 []) := by
      intro pc2 ls2 hn
      unfold mm_hn at hn
      simp only [Bool.or_eq_true, Bool.and_eq_true, decide_eq_true_eq] at hn
      rcases hn with ⟨⟨n1, n2⟩, n3⟩ | ⟨⟨n1, n2⟩, n3⟩
      · exact lv_sipush x1 x2 (mm_dcs n1) n2 (kk _ ls2 (mm_dcs n3) hty)
      · exact lv_bipush x1 x2 (mm_dcs n1) n2 (kk _ ls2 (mm_dcs n3) hty)
    have hown : s.vm.findClass RL = some m.cls := by rw [c3] at x5; exact x5
    have hsplit : c.exceptionTable.toList = tableOf ((mm_hh k).take i) ++ (⟨(mm_hh k)[i].1, (mm_hh k)[i].2.1, (mm_hh k)[i].2.2.1, (mm_hh k)[i].2.2.2⟩ : ExceptionTableEntry) :: tableOf ((mm_hh k).drop (i + 1)) := by
      rw [x14]
      conv => lhs; rw [← List.take_append_drop i (mm_hh k), List.drop_eq_getElem_cons hi]
      unfold tableOf
      rw [List.map_append, List.map_cons]
    have hcov := List.all_eq_true.mp hcv _ (List.getElem_mem hi)
    simp only [Bool.and_eq_true, decide_eq_true_eq] at hcov
    have hkk := mm_eka he
    unfold mm_ekk at hkk
    simp only [Bool.and_eq_true, decide_eq_true_eq] at hkk
    refine vx_catch (own := RL) (name := mm_eN e1) hown _ _ _ hsplit (fun z hz => ?_) ?_ c1 (mm_wk x7 rfl rfl (B.2.1 _ (h1 ▸ c2))) (mm_wk x7 rfl rfl (B.2.1 _ hkk.1.2)) hcell hv hcl ?_
    · right
      unfold tableOf at hz
      obtain ⟨h9, hm9, rfl⟩ := List.mem_map.mp hz
      obtain ⟨i9, hi9, e9⟩ := List.mem_take_iff_getElem.mp hm9
      have hi9' : i9 < i := by omega
      have hne := h2 i9 hi9'
      have hz9 : ((mm_hh k)[i9], i9) ∈ (mm_hh k).zipIdx := by
        refine List.mem_of_getElem? (i := i9) ?_
        rw [List.getElem?_zipIdx, List.getElem?_eq_getElem (by omega)]
        simp
      have hkc9 := List.all_eq_true.mp (mm_hkc hk) _ hz9
      simp only [Bool.and_eq_true, decide_eq_true_eq] at hkc9
      obtain ⟨⟨⟨⟨d1, d2⟩, -⟩, -⟩, -⟩ := hkc9
      obtain ⟨e2, he2, hn2⟩ := mm_cn_eN (k := k) (h := (mm_hh k)[i9]) hk
      subst e9
      refine ⟨d1, mm_eN e2, mm_wk x7 rfl rfl (B.2.1 _ (hn2 ▸ d2)), va_Nc.moved x7.alike (B.2.2.2.2.2.2.1 e1 e2 he he2 (fun q => ?_))⟩
      subst q
      exact hne (by simpa using hn2)
    · simp [covers, hcov.1, hcov.2]
    · show W p l e R s m args below meth c H locs cells slots Q (F0 m (mm_hh k)[i].2.2.1 ls [.ref q])
      split at c4
      · rename_i a hdec
        simp only [Bool.and_eq_true, decide_eq_true_eq] at c4
        obtain ⟨c5, c6⟩ := c4
        exact lv_astore_n x1 x2 hdec rfl hl.has (by rw [hL]; exact c5) rfl (fun ls1 _ => hend _ ls1 c6)
      · rename_i a hdec
        simp only [Bool.and_eq_true, decide_eq_true_eq] at c4
        obtain ⟨c5, c6⟩ := c4
        exact lv_astore x1 x2 hdec hl.has (by rw [hL]; exact c5) rfl (fun ls1 _ => hend _ ls1 c6)
      · cases c4
end MMM
