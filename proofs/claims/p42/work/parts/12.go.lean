section MMT
variable {l : Launch} {s0 : State} {a0 : Array Value} {D : va_G} {cs : Nat → ClassId} {ad : Nat → Nat} {b Ls : Nat} {xs : Nat → Int32}
theorem mm_rt_end {p : Program} {e : Env} {R : Room} {s : State} {m : MethodId} {args : Array Value} {below : List Frame} {meth : Method} {c : Code} {k pc1 c1 : Nat} {o : mmO} {v' : mmM} {r : Option Value} {H : Heap} {locs : List Loc} {ls : Array Slot} (X : mm_Fx s0 k p R s m meth c) (ho : o = .inl r) (hw : mm_HW s0 D cs ad b Ls xs v' H) (hS : va_S (mm_A s0) s.heap H locs) (hc : c1 ≤ mm_mc k) (hr : mm_rtk k pc1 r) :
    W p l e R s m args below meth c H locs c1 (6 * c1) (vx_MQ below (mm_Qo s0 D cs ad b Ls xs o v') (mm_Xo s0 D cs ad b Ls xs o v') args s (mm_mc k) (6 * mm_mc k) (mm_A s0)) (F0 m pc1 ls (r.map (mm_vm ad)).toList) := by
  obtain ⟨x1, x2, x3, x4, x5, x6, -⟩ := id X
  refine vx_ret (W.widen (k := mm_mc k) (n := 6 * mm_mc k) hc (by omega) ?_)
  have hq : ∀ t : State, t.heap = H → s.WarmedH t.vm → mm_Qo s0 D cs ad b Ls xs o v' args s (.returned (r.map (mm_vm ad))) t := fun t ht _ => ⟨r, ho, rfl, by rw [ht]; exact hw, hS.F ht⟩
  match r, hr, hq with
  | none, hr, hq => exact W.vret x1 x2 (x3.trans hr.2) hq hS.2.2 hr.1 x6
  | some (.int x), hr, hq =>
    obtain ⟨h1, ty, h2, h3⟩ := hr
    exact W.zret x1 x2 (x3.trans h2) h3 hq hS.2.2 h1 x6
  | some (.long x), hr, hq => exact W.lret x1 x2 (x3.trans hr.2) hq hS.2.2 hr.1 x6
theorem mm_met (B : mm_Bs l s0 a0 D cs b Ls xs) {n : Nat} (P : mm_SP l s0 D cs ad b Ls xs n) {j : Nat} {ar : List Value} {v v' : mmM} {o : mmO} (hf : mm_fm j = true) (hgo : mm_go n j 0 (mm_en j ar) [] v 0 = some (o, v')) (hle : ar.length ≤ mm_maxL j) (hcat : ∀ x ∈ ar, x.category = 1) :
    vx_Met l (mm_y j) [mm_cw j] (mm_rm1 j) (mm_Pc s0 D cs ad b Ls xs ar v) (mm_Qo s0 D cs ad b Ls xs o v') (mm_Xo s0 D cs ad b Ls xs o v') (mm_mc j) (6 * mm_mc j) (mm_A s0) := by
  obtain ⟨f1, f2, f3, f4, f5, f6, f7, f8, f9, f10⟩ := mm_fm_sp hf
  have hlen : (mm_en j ar).length = mm_maxL j ∧ mm_lc j (mm_en j ar) := by
    refine ⟨?_, fun _ x hx => ?_⟩
    · unfold mm_en
      rw [List.length_append, List.length_replicate]
      omega
    · unfold mm_en at hx
      rcases List.mem_append.mp hx with hx | hx
      · exact hcat x hx
      · rw [List.eq_of_mem_replicate hx]
        rfl
  by_cases hem : (mm_hh j).isEmpty = true
  · have hnil : mm_hh j = [] := by simpa using hem
    refine vx_ofW (cc := mm_b j) (maxL := mm_maxL j) (ret := mm_ret j) f1 (ws' := []) (by unfold mm_cw; rw [if_pos hem]) ?_
    intro p e s m args below meth c s₁ B' hml hex hv
    obtain ⟨rfl, hW, hw⟩ := hv
    have X : mm_Fx s0 j p (mm_rm1 j) s m meth c := ⟨B'.exec, B'.bytes, B'.returns, hml, by rw [← f3]; exact findClass_of_methodNamed B'.named, B'.notSynchronized, hW, hw.1, hw.2.1, Nat.le_refl _, Nat.le_refl _, Nat.le_refl _, Nat.le_refl _, by
      rw [hnil]
      exact List.eq_nil_iff_forall_not_mem.mpr fun x hx => hex x hx⟩
    rw [lg_entry_eq]
    exact P j 0 (mm_en j ar) [] v 0 o v' hgo p e (mm_rm1 j) s m _ below meth c _ X hlen (Nat.zero_le _)
      (fun r pc1 H locs ls c1 ho hw1 hS1 hc1 hr1 => mm_rt_end X ho hw1 hS1 hc1 hr1)
      (fun t pc1 H locs ls c1 ho ht hw1 hS1 hls hc1 => mm_thr B X ht ho hw1 hS1 hls hc1)
      (fun e1 q ce pc1 H locs ls c1 rest ho he hn hw1 hS1 hce hcv hcl hc1 => vx_out (fun x hx => (mm_noTab X hn x hx).elim) X.2.2.2.2.2.1 hce hcv hcl (fun t ht _ => ⟨e1, ho, he, rfl, by rw [ht]; exact hw1, hS1.F ht⟩) hS1.2.2 hc1 (by omega))
      s.heap [] _ hw va_S.rf (mm_LR.entry hcat hle)
  · have hne : mm_hh j ≠ [] := fun q => hem (by rw [q]; rfl)
    have hcw : mm_cw j = .codeWith (mm_y j) (mm_b j) (mm_maxL j) (mm_ret j) (mm_hh j) := by unfold mm_cw; rw [if_neg hem]
    refine vx_ofWH (cc := mm_b j) (maxL := mm_maxL j) (ret := mm_ret j) (hh := mm_hh j) f1 (ws' := []) (by rw [hcw]) ?_
    intro p e s m args below meth c s₁ B' hml hv
    obtain ⟨rfl, hW, hw⟩ := hv
    have X : mm_Fx s0 j p (mm_rm1 j) s m meth c := ⟨B'.exec, B'.bytes, B'.returns, hml, by rw [← f3]; exact findClass_of_methodNamed B'.named, B'.notSynchronized, hW, hw.1, hw.2.1, Nat.le_refl _, Nat.le_refl _, Nat.le_refl _, Nat.le_refl _, vx_table (x := mm_y j) B' (bytes := mm_b j) (maxL' := mm_maxL j) (ret' := mm_ret j) (by
      rw [← hcw]
      exact mm_wB B hW f6)⟩
    rw [lg_entry_eq]
    exact P j 0 (mm_en j ar) [] v 0 o v' hgo p e (mm_rm1 j) s m _ below meth c _ X hlen (Nat.zero_le _)
      (fun r pc1 H locs ls c1 ho hw1 hS1 hc1 hr1 => mm_rt_end X ho hw1 hS1 hc1 hr1)
      (fun t pc1 H locs ls c1 ho ht hw1 hS1 hls hc1 => mm_thr B X ht ho hw1 hS1 hls hc1)
      (fun e1 q ce pc1 H locs ls c1 rest ho he hn hw1 hS1 hce hcv hcl hc1 => absurd hn hne)
      s.heap [] _ hw va_S.rf (mm_LR.entry hcat hle)
/-- answers and throws of the mini machine -/
theorem mm_ex_rt {k pc : Nat} {op : Instr × Nat × Nat} {L S : List Value} {v : mmM} {r : Option Value} (hop : mm_op k pc = some op)
    (h : mm_ex none (fun c a => if c then a else none) (fun c a b => if c then a else b) (fun pc L S v => some (.inl (pc, L, S, v))) (fun j a r np => some (.inr (.inl (j, a, r, np)))) (fun r => some (.inr (.inr (.inl r)))) (fun e => some (.inr (.inr (.inr e)))) k pc op L S v = (some (.inr (.inr (.inl r))) : Option mmR)) : mm_rtk k pc r ∧ S = r.toList ∧ ∀ ad, S.map (mm_vm ad) = (r.map (mm_vm ad)).toList := by
  have hck := mm_opc hop
  obtain ⟨i, np, x⟩ := op
  cases i with
  | ireturn =>
    simp only [mm_ex] at h
    split at h
    · rename_i hr9
      split at h
      · rename_i h9
        cases h
        simp only [mm_ck, Bool.and_eq_true, decide_eq_true_eq] at hck
        exact ⟨⟨mm_dcs hck.2, _, hr9, of_decide_eq_true h9⟩, rfl, fun _ => rfl⟩
      · cases h
    · cases h
  | lreturn =>
    simp only [mm_ex] at h
    split at h
    · cases h
      simp only [mm_ck, Bool.and_eq_true, decide_eq_true_eq] at hck
      exact ⟨⟨mm_dcs hck.1, hck.2⟩, rfl, fun _ => rfl⟩
    · cases h
  | return_ =>
    simp only [mm_ex] at h
    split at h
    · cases h
      simp only [mm_ck, Bool.and_eq_true, decide_eq_true_eq] at hck
      exact ⟨⟨mm_dcs hck.1, hck.2⟩, rfl, fun _ => rfl⟩
    · cases h
  | _ =>
    exfalso
    simp only [mm_ex] at h
    (repeat' split at h) <;> cases h
theorem mm_ex_th {k pc : Nat} {op : Instr × Nat × Nat} {L S : List Value} {v : mmM} {e1 : Nat} (hop : mm_op k pc = some op)
    (h : mm_ex none (fun c a => if c then a else none) (fun c a b => if c then a else b) (fun pc L S v => some (.inl (pc, L, S, v))) (fun j a r np => some (.inr (.inl (j, a, r, np)))) (fun r => some (.inr (.inr (.inl r)))) (fun e => some (.inr (.inr (.inr e)))) k pc op L S v = (some (.inr (.inr (.inr e1))) : Option mmR)) : S = [] ∧ ∃ t, mm_tk k pc t = true ∧ e1 = (mm_tL.getD t (0, 0, 0, 0, 0, "", false)).1 := by
  have hck := mm_opc hop
  obtain ⟨i, np, x⟩ := op
  cases i with
  | athrow =>
    simp only [mm_ex] at h
    split at h
    · cases h
      simp only [mm_ck] at hck
      exact ⟨rfl, x, hck, rfl⟩
    · cases h
  | _ =>
    exfalso
    simp only [mm_ex] at h
    (repeat' split at h) <;> cases h
theorem mm_ex_len {k pc : Nat} {op : Instr × Nat × Nat} {L S : List Value} {v : mmM} {pc1 : Nat} {L1 S1 : List Value} {v1 : mmM}
    (h : mm_ex none (fun c a => if c then a else none) (fun c a b => if c then a else b) (fun pc L S v => some (.inl (pc, L, S, v))) (fun j a r np => some (.inr (.inl (j, a, r, np)))) (fun r => some (.inr (.inr (.inl r)))) (fun e => some (.inr (.inr (.inr e)))) k pc op L S v = (some (.inl (pc1, L1, S1, v1)) : Option mmR)) : L1.length = L.length := by
  obtain ⟨i, np, x⟩ := op
  cases i <;> simp only [mm_ex] at h <;> (repeat' split at h) <;> first | (cases h; done) | (cases h; rfl) | (cases h; exact List.length_set) | (cases h; rw [List.length_set, List.length_set])
theorem mm_lc_set {k a : Nat} {L : List Value} {x : Value} (h : mm_lc k L) (hx : x.category = 1) : mm_lc k (L.set a x) := by
  intro hk y hy
  rcases List.mem_or_eq_of_mem_set hy with h1 | h1
  · exact h hk y h1
  · rw [h1]; exact hx
theorem mm_ex_lc {k pc : Nat} {op : Instr × Nat × Nat} {L S : List Value} {v : mmM} {pc1 : Nat} {L1 S1 : List Value} {v1 : mmM} (hc : mm_lc k L)
    (h : mm_ex none (fun c a => if c then a else none) (fun c a b => if c then a else b) (fun pc L S v => some (.inl (pc, L, S, v))) (fun j a r np => some (.inr (.inl (j, a, r, np)))) (fun r => some (.inr (.inr (.inl r)))) (fun e => some (.inr (.inr (.inr e)))) k pc op L S v = (some (.inl (pc1, L1, S1, v1)) : Option mmR)) : mm_lc k L1 := by
  obtain ⟨i, np, x⟩ := op
  cases i with
  | lstore a =>
    simp only [mm_ex] at h
    split at h
    · split at h
      · rename_i h9
        cases h
        rw [Bool.and_eq_true] at h9
        intro hk
        rw [hk] at h9
        exact absurd h9.2 (by decide)
      · cases h
    · cases h
  | _ => simp only [mm_ex] at h <;> (repeat' split at h) <;> first | (cases h; done) | (cases h; exact hc) | (cases h; exact mm_lc_set hc rfl)
theorem mm_ex_cl {k pc : Nat} {op : Instr × Nat × Nat} {L S : List Value} {v : mmM} {j np : Nat} {ar rest : List Value} (hop : mm_op k pc = some op)
    (h : mm_ex none (fun c a => if c then a else none) (fun c a b => if c then a else b) (fun pc L S v => some (.inl (pc, L, S, v))) (fun j a r np => some (.inr (.inl (j, a, r, np)))) (fun r => some (.inr (.inr (.inl r)))) (fun e => some (.inr (.inr (.inr e)))) k pc op L S v = (some (.inr (.inl (j, ar, rest, np))) : Option mmR)) : mm_fm j = true ∧ ar.length ≤ mm_maxL j ∧ ∀ x ∈ ar, x.category = 1 := by
  have hck := mm_opc hop
  obtain ⟨i, np0, x⟩ := op
  cases i with
  | invokevirtual j0 =>
    simp only [mm_ex] at h
    split at h
    · rename_i i9 rest9 hdrop
      split at h
      · rename_i h9
        cases h
        simp only [Bool.and_eq_true, decide_eq_true_eq] at h9
        obtain ⟨⟨⟨⟨⟨n1, n2⟩, n3⟩, n4⟩, n5⟩, n6⟩ := h9
        simp only [mm_ck, Bool.and_eq_true, decide_eq_true_eq, Bool.not_eq_true'] at hck
        obtain ⟨⟨⟨⟨⟨⟨⟨rfl, h3⟩, h4⟩, h5⟩, h6⟩, h7⟩, h8⟩, h9⟩ := hck
        obtain ⟨f1, f2, f3, f4, f5, -⟩ := mm_fm_sp h6
        have htl : (S.take (mm_np j)).length = mm_np j := by rw [List.length_take]; omega
        refine ⟨h6, ?_, fun x hx => ?_⟩
        · rw [List.length_cons, List.length_reverse, htl]
          rw [h7] at f5
          simpa using f5
        · rcases List.mem_cons.mp hx with rfl | hx
          · rfl
          · exact of_decide_eq_true (List.all_eq_true.mp n5 x (List.mem_reverse.mp hx))
      · cases h
    · cases h
  | invokestatic j0 =>
    simp only [mm_ex] at h
    by_cases hj : 1000 ≤ j0
    · exfalso
      simp only [mm_ck, Bool.and_eq_true, decide_eq_true_eq] at hck
      have hck := hck.2
      rw [if_pos hj] at hck
      unfold mm_bk at hck
      have hq : mm_lL.all (fun q => decide (q.2.2.1 < 1004 ∧ q.2.2.1 ≠ 1002)) = true := by decide +kernel
      simp only [Bool.and_eq_true, decide_eq_true_eq] at hck
      obtain ⟨-, h4⟩ := hck
      have hmem : ∀ (l : List ((Nat × Nat) × (Bool × Nat × Nat))) (q : Nat × Nat) (z : Bool × Nat × Nat), l.lookup q = some z → (q, z) ∈ l := by
        intro l
        induction l with
        | nil => intro q z h; cases h
        | cons a l ih =>
          intro q z h
          obtain ⟨a1, a2⟩ := a
          rw [List.lookup_cons] at h
          by_cases e9 : q = a1
          · subst e9
            rw [beq_self_eq_true] at h
            cases h
            exact List.mem_cons_self
          · rw [show (q == a1) = false from beq_eq_false_iff_ne.mpr e9] at h
            exact List.mem_cons_of_mem _ (ih q z h)
      split at h4
      · rename_i w9 hlk
        simp only [Bool.and_eq_true, decide_eq_true_eq] at h4
        have h8 := of_decide_eq_true (List.all_eq_true.mp hq _ (hmem _ _ _ hlk))
        simp only at h8
        have h7 := h4.1
        have hcase : j0 = 1000 ∨ j0 = 1001 ∨ j0 = 1003 := by omega
        rcases hcase with q | q | q <;> subst q <;> simp only [if_true, if_false, Nat.reduceEqDiff] at h <;> (repeat' split at h) <;> cases h
      · cases h4
    · rw [if_neg (by omega), if_neg (by omega), if_neg (by omega)] at h
      split at h
      · rename_i h9
        cases h
        simp only [Bool.and_eq_true, decide_eq_true_eq] at h9
        obtain ⟨⟨n6, n4⟩, n5⟩ := h9
        simp only [mm_ck, Bool.and_eq_true, decide_eq_true_eq] at hck
        obtain ⟨⟨rfl, h3⟩, h4⟩ := hck
        rw [if_neg hj] at h4
        simp only [Bool.and_eq_true] at h4
        obtain ⟨⟨⟨⟨h4, h5⟩, h6⟩, h7⟩, h9⟩ := h4
        obtain ⟨f1, f2, f3, f4, f5, -⟩ := mm_fm_sp h6
        have htl : (S.take (mm_np j)).length = mm_np j := by rw [List.length_take]; omega
        refine ⟨h6, ?_, fun x hx => of_decide_eq_true (List.all_eq_true.mp n5 x (List.mem_reverse.mp hx))⟩
        rw [List.length_reverse, htl]
        rw [h7] at f5
        simpa using f5
      · cases h
  | _ =>
    exfalso
    simp only [mm_ex] at h
    (repeat' split at h) <;> cases h
/-- EVERY RUN of the mini machine -/
theorem mm_snd (B : mm_Bs l s0 a0 D cs b Ls xs) : ∀ n, mm_SP l s0 D cs ad b Ls xs n := by
  intro n
  induction n with
  | zero =>
    intro k pc L S v c o v' hgo
    cases hgo
  | succ n P =>
    intro k pc L S v c o v' hgo p e R s m args below meth cd Q X hL hc hfin hthr hpro
    unfold mm_go at hgo
    cases hop : mm_op k pc with
    | none =>
      have : mm_stp k pc L S v = none := by unfold mm_stp; rw [hop]
      rw [this] at hgo
      cases hgo
    | some op =>
      have hk := mm_op_lt hop
      obtain ⟨x1, x2, x3, x4, x5, x6, x7, x8, x9, x10, x11, x12, x13, x14⟩ := id X
      cases hst : mm_stp k pc L S v with
      | none => rw [hst] at hgo; cases hgo
      | some r =>
        rw [hst] at hgo
        unfold mm_stp at hst
        rw [hop] at hst
        simp only at hst
        match r, hst, hgo with
        | .inl (pc1, L1, S1, v1), hst, hgo =>
          simp only at hgo
          have hL1 : L1.length = mm_maxL k ∧ mm_lc k L1 := ⟨(mm_ex_len hst).trans hL.1, mm_ex_lc hL.2 hst⟩
          refine mm_sn B X (Nat.le_trans hc x12) (Nat.le_trans (Nat.mul_le_mul_left 6 hc) x13) hop hst hL ?_
          intro H locs ls hw hS hl
          exact P k pc1 L1 S1 v1 c o v' hgo p e R s m args below meth cd Q X hL1 hc hfin hthr hpro H locs ls hw hS hl
        | .inr (.inl (j, ar, rest, np)), hst, hgo =>
          simp only at hgo
          split at hgo
          · rename_i hcj
            intro H locs ls hw hS hl
            cases hj : mm_go n j 0 (mm_en j ar) [] v 0 with
            | none => rw [hj] at hgo; cases hgo
            | some q =>
              obtain ⟨o1, v1⟩ := q
              rw [hj] at hgo
              obtain ⟨q1, q2, q3⟩ := mm_ex_cl hop hst
              have hM := mm_met B P q1 hj q2 q3
              have d1 : c + mm_mc j ≤ R.cells := Nat.le_trans hcj x12
              have d2 : 6 * c + 6 * mm_mc j ≤ R.slots := by omega
              obtain ⟨rfl, hcv, -, -, -, aa, hrun⟩ := mm_run (cells := c) (slots := 6 * c) (e := e) (args := args) (below := below) B X hop hst hw hl hL.1 hM d1 d2
              refine mm_call hrun hS (fun r H1 locs1 ho hw1 hS1 => ?_) (fun e1 q9 ce H1 locs1 ho he hw1 hS1 hce hcv9 hcl => ?_)
              · subst ho
                simp only at hgo
                have e6 : 6 * c + 6 * mm_mc j = 6 * (c + mm_mc j) := by omega
                rw [e6]
                have g := P k (pc + 3) L (r.toList ++ rest) v1 (c + mm_mc j) o v' hgo p e R s m args below meth cd Q X hL hcj hfin hthr hpro H1 locs1 ls hw1 hS1 hl
                have es : (r.toList ++ rest).map (mm_vm ad) = (r.map (mm_vm ad)).toList ++ rest.map (mm_vm ad) := by
                  rw [List.map_append]
                  cases r <;> rfl
                rw [es] at g
                exact g
              · subst ho
                simp only at hgo
                have e6 : 6 * c + 6 * mm_mc j = 6 * (c + mm_mc j) := by omega
                rw [e6]
                by_cases hem : (mm_hh k).isEmpty = true
                · rw [if_pos hem] at hgo
                  cases hgo
                  exact hpro e1 q9 ce pc H1 locs1 ls (c + mm_mc j) _ rfl he (by simpa using hem) hw1 hS1 hce hcv9 hcl hcj
                · rw [if_neg hem] at hgo
                  cases hd : mm_hd k e1 with
                  | none => rw [hd] at hgo; cases hgo
                  | some x =>
                    rw [hd] at hgo
                    cases hgo
                    exact mm_catch B X hk hcv hd he hl hL.1 hce hcv9 hcl (fun pc2 ls2 hdec hty => hfin (some (.int x)) pc2 H1 locs1 ls2 (c + mm_mc j) rfl hw1 hS1 hcj ⟨hdec, hty⟩)
          · cases hgo
        | .inr (.inr (.inl r)), hst, hgo =>
          simp only at hgo
          cases hgo
          obtain ⟨h1, h2, h3⟩ := mm_ex_rt hop hst
          intro H locs ls hw hS hl
          rw [h3 ad]
          exact hfin r pc H locs ls c rfl hw hS hc h1
        | .inr (.inr (.inr e1)), hst, hgo =>
          simp only at hgo
          split at hgo
          · rename_i hc1
            cases hgo
            obtain ⟨h1, t, h2, h3⟩ := mm_ex_th hop hst
            subst h1
            intro H locs ls hw hS hl
            exact hthr t pc H locs ls c (by rw [h3]) h2 hw hS (hl.1.trans hL.1) hc1
          · cases hgo
end MMT
