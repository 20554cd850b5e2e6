/-! a promise is picked: both -/
theorem rw_up {v : mmM} {i j k : Nat} {x : Int32} {r : Nat → Int32} (h : i ≠ k) : mm_up (mm_rw v k r) i j x = mm_rw (mm_up v i j x) k r := by
  funext a
  by_cases e : a = k
  · subst e
    rw [rw_at, mm_up_row (Ne.symm h), rw_at]
  · rw [rw_ne e]
    by_cases e2 : a = i
    · subst e2
      rw [mm_up_at, mm_up_at, rw_ne e]
    · rw [mm_up_row e2, mm_up_row e2, rw_ne e]
theorem rw_dCh {v : mmM} {l b : Nat} {d : Int32} {r : Nat → Int32} (hl : l < 24) : dCh (mm_rw v 121 r) l b d = mm_rw (dCh v l b d) 121 r := by
  unfold dCh
  rw [rw_ne (by omega), rw_ne (by decide), rw_up (by omega), rw_up (by decide)]
theorem rw_dWr {v : mmM} {m : Nat} {kd l f t q : Int32} {r : Nat → Int32} : dWr (mm_rw v 121 r) m kd l f t q = mm_rw (dWr v m kd l f t q) 121 r := by
  unfold dWr
  rw [rw_ne (by decide), rw_up (by decide), rw_up (by decide), rw_up (by decide), rw_up (by decide), rw_up (by decide), rw_up (by decide), rw_up (by decide)]
theorem dCh_row {v : mmM} {l b a : Nat} {d : Int32} (h1 : a ≠ 93 + l) (h2 : a ≠ 117) : dCh v l b d a = v a := by
  unfold dCh
  rw [mm_up_row h2, mm_up_row h1]
theorem dWr_row {v : mmM} {m a : Nat} {kd l f t q : Int32} (h1 : a ≠ 81) (h2 : a < 207 ∨ 212 < a) : dWr v m kd l f t q a = v a := by
  unfold dWr
  rw [mm_up_row h1, mm_up_row (by omega), mm_up_row (by omega), mm_up_row (by omega), mm_up_row (by omega), mm_up_row (by omega), mm_up_row (by omega)]
theorem dWr_31 {v : mmM} {m : Nat} {kd l f t q : Int32} : dWr v m kd l f t q 81 31 = v 81 31 := by unfold dWr; rw [up_ob (by decide), mm_up_row (by decide), mm_up_row (by decide), mm_up_row (by decide), mm_up_row (by decide), mm_up_row (by decide), mm_up_row (by decide)]
section PP
variable {n : Nat} {s : St} {x : Int32}
theorem op_pick (h : Inv n s) : Op kX5_pick kX6_pick kL_pick n [.int x] s := by
  have hnp := h.np_; have hne := h.ne_; have hnl := h.nl_
  rcases is_or x s.np with ⟨p, hp, e⟩ | hx
  rotate_left
  · refine Op.no 1 2 h (by decide) (by decide) (fun w hw K hK => ?_) (fun r w hw K hK => ?_)
    · exact bX5_pick_0 (by decide) (k_nPromise hnp hw.np hx (mm_Kx rfl (hK _ hw fC.rfl)))
    · exact bX6_pick_0 (by decide) (k_isNotOpen1 h.1 hw hx (mm_Kr 0 rfl (bX6_pick_5 (fun h => absurd h (by decide)) (fun _ => bX6_pick_8 (hK _ _ hw.th fM.th th_at (fun h => absurd h (by decide)))))))
  subst e
  have a1 := in_nI (show p < 20 by omega) (by decide)
  by_cases hs : s.st p = 111
  rotate_left
  · refine Op.no 2 1 h (by decide) (by decide) (fun w hw K hK => ?_) (fun r w hw K hK => ?_)
    · exact bX5_pick_0 (by decide) (k_rPromise hnp hw.np hp (mm_Kv 1 rfl (bX5_pick_5 (by decide) (k_nOpen h.1 hw hp hs (mm_Kx rfl (hK _ hw fC.rfl))))))
    · exact bX6_pick_0 (by decide) (k_isNotOpen2 h.1 hw hp hs (mm_Kr 0 rfl (bX6_pick_5 (fun h => absurd h (by decide)) (fun _ => bX6_pick_8 (hK _ _ hw.th fM.th th_at (fun h => absurd h (by decide)))))))
  obtain ⟨hN, hV⟩ := vw_ok h.1 hp (Or.inl hs)
  have eN : vN s p = cnt (lsP s p) 960 := (vw_open hs).1
  have c1 : ∀ {w} {K : mmO → mmM → Prop}, RepC w s → (∀ w', w' 5 0 = nI (vN s p) → Vw (w' 78) (w' 79) (w' 80) (vN s p) (vB s p) (vL s p) (vQ s p) → frL w w' → mm_M kX5_requireEntrySpace [.ref 0, .int (nI (vN s p))] w' (mm_Kc kX5_pick 26 [.ref 0, .int (nI p), .retAddr 0] [] (2 + mm_mc kX5_requireEntrySpace) K)) → mm_M kX5_pick [.ref 0, .int (nI p)] w K := by
    intro w K hw g
    refine bX5_pick_0 (by decide) (k_rPromise hnp hw.np hp (mm_Kv 1 rfl (bX5_pick_5 (by decide) (k_rOpen h.1 hw hp hs (mm_Kv 2 rfl (bX5_pick_10 (by decide) (k_findC h.1 hw hp hs (fun w' hL hf => mm_Kv 2 rfl (bX5_pick_15 (by decide) ?_)))))))))
    have := g w' (by rw [hL.1, eN]) (Ln_Vw hs hL.2) hf
    rw [hL.1, ← eN]
    exact this
  have d1 : ∀ {w} {K : mmO → mmM → Prop}, RepM w s → (∀ w', w' 81 31 = nI (vN s p) → Vw (w' 238) (w' 239) (w' 240) (vN s p) (vB s p) (vL s p) (vQ s p) → frT (mm_up w 81 26 0) w' → mm_E kX6_pick 15 [.ref 81, .int (nI p), .retAddr 0] [] w' 0 K) → mm_M kX6_pick [.ref 81, .int (nI p)] w K := fun hw g => bX6_pick_0 (by decide) (k_isOpen h.1 hw hp hs (mm_Kr 0 rfl (bX6_pick_5 (fun _ => bX6_pick_10 (by decide) (k_findM h.1 hw.th hp hs (fun w' hL hf => mm_Kv 0 rfl (g w' (by rw [hL.1, eN]) (Ln_Vw hs hL.2) hf)))) (fun q => absurd rfl q))))
  have b150 : (150 : Int32) = nI 150 := rfl
  by_cases hsp : s.ne + vN s p ≤ 150
  rotate_left
  · refine Op.no 2 1 h (by decide) (by decide) (fun w hw K hK => c1 hw (fun w' g1 g2 g3 => m_rEntrySpace hne (by omega) (g3.rep hw).ne (fun _ => mm_Kx rfl (hK _ (g3.rep hw) g3.fC)) (fun q => absurd q hsp))) (fun r w hw K hK => d1 hw (fun w' g1 g2 g3 => bX6_pick_15 (fun q => ?_) (fun _ => bX6_pick_30 (by decide) (m_raises (mm_Kr 0 rfl (bX6_pick_35 (hK _ _ (g3.rep hw.th).th ((fM_t g3).tr fM.th) th_at (fun h => absurd h (by decide)))))))))
    rw [g1, (g3.rep hw.th).ne, nI_add, b150, nI_lei (by omega) (by omega)] at q
    exact absurd q hsp
  have hG := pkG_all h.1 hp hs hsp
  have hE := pkE_I h hp hs hsp
  refine Op.ok (pkE s p) (nI (vN s p)) hE (fun w hw K hK => c1 hw (fun w' g1 g2 g3 => m_rEntrySpace hne (by omega) (g3.rep hw).ne (fun q => absurd hsp (by omega)) (fun _ => mm_Kv 3 rfl (bX5_pick_26 a1 a1 ?_)))) (fun w hw K hK => d1 hw (fun w' g1 g2 g3 => bX6_pick_15 (fun _ => bX6_pick_36 a1 a1 ?_) (fun q => ?_)))
  · have hw' := g3.rep hw
    rw [cl_nI (by omega), hw'.ne, g1]
    have hw1 : RepC (mm_up (mm_up w' 70 p (nI s.ne)) 71 p (nI (vN s p))) (pk1 s p) := hw'.c_fe_lc (fun i hi => by rw [mm_up_row (by omega), mm_up_row (by omega)]) (by rw [mm_up_row (by decide)]; exact row_nI hw'.fe) (row_nI (by rw [mm_up_row (by decide)]; exact hw'.lc))
    refine e_for (n := vN s p) (a0 := pk1 s p) (f := fun k t => t.tk 112 (vL s p k) (vB s p k) (vQ s p k)) (E := fun k t => ∀ v, RepC v t → v 5 0 = nI (vN s p) → Vw (v 78) (v 79) (v 80) (vN s p) (vB s p) (vL s p) (vQ s p) → fC w v → mm_E kX5_pick 60 [.ref 0, .int (nI p), .int (nI k)] [] v 3 K) (fun k t => pkG n s p k t) (pkG_0 h.1 hs) (fun k t hk hg => pkG_s h.1 hp hs hsp hk hg) ?_ ?_ _ hw1 ?_ ?_ ?_
    · intro k t hk hg ih v hv v5 vV vf
      obtain ⟨r1, r2, r3⟩ := vV k hk
      obtain ⟨hB, hL, hQ⟩ := hV k hk
      obtain ⟨q1, q2, q3, q4, q5, q6⟩ := hg
      have a2 := in_nI (show k < 60 by omega) (by decide)
      have eun : t.un (vL s p k) (vB s p k) = s.un (vL s p k) (vB s p k) := q4 _ _ (fun j hj => vw_ne hs (by omega) hk (by omega))
      refine bX5_pick_60 (fun q => absurd (v5 ▸ q) (ge_nI hk (by omega))) (fun _ => bX5_pick_71 a2 a2 a2 (by decide) ?_)
      rw [cl_nI (by omega), r1, r2, r3]
      refine k_takeOut (kd := 112) hv (by omega) hB (by omega) (by decide) (by rw [eun]; exact vw_un h.1 hp hs hk) (fun v2 hv2 hf2 hk2 => mm_Kv 3 rfl (bX5_pick_104 ?_))
      rw [nI_1]
      exact ih v2 hv2 (by rw [hk2 5 (Or.inl rfl)]; exact v5) (by rw [hk2 78 (by omega), hk2 79 (by omega), hk2 80 (by omega)]; exact vV) (vf.tr hf2)
    · intro hg v hv v5 vV vf
      refine bX5_pick_60 (fun _ => bX5_pick_110 a1 ?_) (fun q => absurd (v5 ▸ le_nI (Nat.le_refl _) (by omega)) q)
      rw [v5, cl_nI (by omega)]
      have hg : pkG n s p (vN s p) (pks s p (vN s p)) := hg
      have hv : RepC v (pks s p (vN s p)) := hv
      have e13 : (pks s p (vN s p)).st = s.st := by funext j; show pks s p (vN s p) 13 0 j = _; rw [hg.2.2.1 13 (by decide) (by decide) (by decide)]; rfl
      refine hK _ (hv.c_st (fun i hi => mm_up_row (by omega)) (row_nI (x := 112) ?_)) (fun i hi => by rw [mm_up_row (by omega)]; exact vf i hi)
      rw [hv.st, e13]
    · rw [mm_up_row (by decide), mm_up_row (by decide)]
      exact g1
    · rw [mm_up_row (by decide), mm_up_row (by decide), mm_up_row (by decide), mm_up_row (by decide), mm_up_row (by decide), mm_up_row (by decide)]
      exact g2
    · intro i hi
      rw [mm_up_row (by omega), mm_up_row (by omega)]
      exact g3.fC i hi
  · have hw' := g3.rep hw.th
    have t26 := g3.t26
    have f0 := (fM_t g3)
    rw [cl_nI (by omega), g1]
    have kpne : ∀ p2, s.st p2 = 112 → p2 ≠ p := fun p2 h2 e => by subst e; omega
    refine e_for (n := vN s p) (a0 := pk1 s p) (f := fun k t => t.tk 112 (vL s p k) (vB s p k) (vQ s p k)) (E := fun k t => ∀ v, RepM (mm_rw v 121 (fun j => nI (s.st j))) t → v 121 = (fun j => nI (updN s.st p 112 j)) → v 206 p = nI (vN s p) → (∀ j, j < k → v (144 + p) j = nI (vB s p j) ∧ v (165 + p) j = nI (vL s p j) ∧ v (186 + p) j = nI (vQ s p j)) → v 81 31 = nI (vN s p) → v 81 26 = 0 → Vw (v 238) (v 239) (v 240) (vN s p) (vB s p) (vL s p) (vQ s p) → fM w v → mm_E kX6_pick 56 [.ref 81, .int (nI p), .int (nI k)] [] v 0 K) (fun k t => pkG n s p k t) (pkG_0 h.1 hs) (fun k t hk hg => pkG_s h.1 hp hs hsp hk hg) ?_ ?_ _ ?_ ?_ ?_ ?_ ?_ ?_ ?_ ?_
    · intro k t hk hg ih v hv v121 v206 vK v31 v26 vV vf
      obtain ⟨r1, r2, r3⟩ := vV k hk
      obtain ⟨hB, hL, hQ⟩ := hV k hk
      obtain ⟨q1, q2, q3, q4, q5, q6⟩ := hg
      have a2 := in_nI (show k < 60 by omega) (by decide)
      have eun : t.un (vL s p k) (vB s p k) = s.un (vL s p k) (vB s p k) := q4 _ _ (fun j hj => vw_ne hs (by omega) hk (by omega))
      have e13 : t.st = s.st := by funext j; show t 13 0 j = _; rw [q3 13 (by decide) (by decide) (by decide)]; rfl
      have e2 : t.np = s.np := by show t 2 0 0 = _; rw [q3 2 (by decide) (by decide) (by decide)]; rfl
      refine bX6_pick_56 (fun q => absurd (v31 ▸ q) (ge_nI hk (by omega))) (fun _ => bX6_pick_64 a1 a2 a2 a1 a2 a2 a1 a2 a2 a2 a2 a2 (by decide) ?_)
      rw [cl_nI (i := p) (by omega), cl_nI (i := k) (by omega), mm_up_row (show 239 ≠ 144 + p by omega), mm_up_row (show 240 ≠ 165 + p by omega), mm_up_row (show 240 ≠ 144 + p by omega), r1, r2, r3]
      have m : ∀ a, a ≠ 144 + p → a ≠ 165 + p → a ≠ 186 + p → mm_up (mm_up (mm_up v (144 + p) k (nI (vB s p k))) (165 + p) k (nI (vL s p k))) (186 + p) k (nI (vQ s p k)) a = v a := fun a h1 h2 h3 => by rw [mm_up_row h3, mm_up_row h2, mm_up_row h1]
      have m1 : mm_up (mm_up (mm_up v (144 + p) k (nI (vB s p k))) (165 + p) k (nI (vL s p k))) (186 + p) k (nI (vQ s p k)) (144 + p) = upd (v (144 + p)) k (nI (vB s p k)) := by rw [mm_up_row (by omega), mm_up_row (by omega), mm_up_at]
      have m2 : mm_up (mm_up (mm_up v (144 + p) k (nI (vB s p k))) (165 + p) k (nI (vL s p k))) (186 + p) k (nI (vQ s p k)) (165 + p) = upd (v (165 + p)) k (nI (vL s p k)) := by rw [mm_up_row (by omega), mm_up_at, mm_up_row (by omega)]
      have m3 : mm_up (mm_up (mm_up v (144 + p) k (nI (vB s p k))) (165 + p) k (nI (vL s p k))) (186 + p) k (nI (vQ s p k)) (186 + p) = upd (v (186 + p)) k (nI (vQ s p k)) := by rw [mm_up_at, mm_up_row (by omega), mm_up_row (by omega)]
      generalize mm_up (mm_up (mm_up v (144 + p) k (nI (vB s p k))) (165 + p) k (nI (vL s p k))) (186 + p) k (nI (vQ s p k)) = M at m m1 m2 m3 ⊢
      rw [m 239 (by omega) (by omega) (by omega), m 238 (by omega) (by omega) (by omega), m 240 (by omega) (by omega) (by omega), r1, r2, r3]
      have hM : RepM (mm_rw M 121 (fun j => nI (s.st j))) t := by
        refine hv.c_st (z_st := t.st) (fun i hi => ?_) (fun j _ _ => ?_) ?_ (fun p2 h20 hp2 hs2 => ?_)
        · rw [rw_ne (by omega), rw_ne (by omega), m i (by omega) (by omega) (by omega)]
        · rw [rw_ne (by omega), rw_ne (by omega), m 81 (by omega) (by omega) (by omega)]
        · rw [rw_at, e13]
        · have hne2 := kpne p2 (by rw [← e13]; exact hs2)
          have := hv.kp p2 h20 hp2 hs2
          rw [rw_ne (by omega), rw_ne (by omega), rw_ne (by omega), rw_ne (by omega)] at this
          rw [rw_ne (by omega), rw_ne (by omega), rw_ne (by omega), rw_ne (by omega), m 206 (by omega) (by omega) (by omega), m (144 + p2) (by omega) (by omega) (by omega), m (165 + p2) (by omega) (by omega) (by omega), m (186 + p2) (by omega) (by omega) (by omega)]
          exact this
      have hM2 := hM.tk (kd := 112) (l := vL s p k) (b := vB s p k) (q := vQ s p k) (by omega) hB (by rw [eun]; exact vw_un h.1 hp hs hk) (fun p2 hp2 hs2 => (q1.pk_ p2 hp2 hs2).2.1)
      rw [rw_dCh (by omega), rw_dWr] at hM2
      have M24 : M 81 24 = nI t.ne := by
        have := hM.ne
        rw [rw_ne (by decide)] at this
        exact this
      have D : ∀ a, a ≠ 93 + vL s p k → a ≠ 117 → dCh M (vL s p k) (vB s p k) (-nI (vQ s p k)) a = M a := fun a h1 h2 => dCh_row h1 h2
      refine m_puts (by omega) hB (mm_Kv 0 rfl (bX6_pick_129 a2 a2 a2 (by decide) ?_))
      rw [cl_nI (i := k) (by omega), D 239 (by omega) (by omega), D 238 (by omega) (by omega), D 240 (by omega) (by omega), m 239 (by omega) (by omega) (by omega), m 238 (by omega) (by omega) (by omega), m 240 (by omega) (by omega) (by omega), r1, r2, r3]
      refine m_writes (n := t.ne) (by omega) (by rw [D 81 (by omega) (by omega)]; exact M24) (by decide) (mm_Kv 0 rfl (bX6_pick_154 ?_))
      have R : ∀ a, a ≠ 81 → a ≠ 117 → (a < 207 ∨ 212 < a) → a ≠ 93 + vL s p k → dWr (dCh M (vL s p k) (vB s p k) (-nI (vQ s p k))) t.ne 112 (nI (vL s p k)) (nI (vB s p k)) (-1) (nI (vQ s p k)) a = M a := fun a h1 h2 h3 h4 => by rw [dWr_row h1 h3, D a h4 h2]
      have R31 : dWr (dCh M (vL s p k) (vB s p k) (-nI (vQ s p k))) t.ne 112 (nI (vL s p k)) (nI (vB s p k)) (-1) (nI (vQ s p k)) 81 31 = v 81 31 := by rw [dWr_31, D 81 (by omega) (by omega), m 81 (by omega) (by omega) (by omega)]
      have R26 : dWr (dCh M (vL s p k) (vB s p k) (-nI (vQ s p k))) t.ne 112 (nI (vL s p k)) (nI (vB s p k)) (-1) (nI (vQ s p k)) 81 26 = v 81 26 := by rw [dWr_26, D 81 (by omega) (by omega), m 81 (by omega) (by omega) (by omega)]
      have Rf : fM M (dWr (dCh M (vL s p k) (vB s p k) (-nI (vQ s p k))) t.ne 112 (nI (vL s p k)) (nI (vB s p k)) (-1) (nI (vQ s p k))) := (dCh_fM (by omega)).tr dWr_fM
      have hM2 : RepM (mm_rw (dWr (dCh M (vL s p k) (vB s p k) (-nI (vQ s p k))) t.ne 112 (nI (vL s p k)) (nI (vB s p k)) (-1) (nI (vQ s p k))) 121 (fun j => nI (s.st j))) (t.tk 112 (vL s p k) (vB s p k) (vQ s p k)) := hM2
      generalize dWr (dCh M (vL s p k) (vB s p k) (-nI (vQ s p k))) t.ne 112 (nI (vL s p k)) (nI (vB s p k)) (-1) (nI (vQ s p k)) = W at R R31 R26 Rf hM2 ⊢
      rw [nI_1]
      refine ih W hM2 ?_ ?_ (fun j hj => ?_) (by rw [R31]; exact v31) (by rw [R26]; exact v26) ?_ (fun i hi => ?_)
      · rw [R 121 (by omega) (by omega) (by omega) (by omega), m 121 (by omega) (by omega) (by omega)]
        exact v121
      · rw [R 206 (by omega) (by omega) (by omega) (by omega), m 206 (by omega) (by omega) (by omega)]
        exact v206
      · rw [R (144 + p) (by omega) (by omega) (by omega) (by omega), R (165 + p) (by omega) (by omega) (by omega) (by omega), R (186 + p) (by omega) (by omega) (by omega) (by omega), m1, m2, m3]
        by_cases e : j = k
        · subst e
          exact ⟨if_pos rfl, if_pos rfl, if_pos rfl⟩
        · obtain ⟨y1, y2, y3⟩ := vK j (by omega)
          exact ⟨(if_neg e).trans y1, (if_neg e).trans y2, (if_neg e).trans y3⟩
      · rw [R 238 (by omega) (by omega) (by omega) (by omega), R 239 (by omega) (by omega) (by omega) (by omega), R 240 (by omega) (by omega) (by omega) (by omega), m 238 (by omega) (by omega) (by omega), m 239 (by omega) (by omega) (by omega), m 240 (by omega) (by omega) (by omega)]
        exact vV
      · rw [Rf i hi, m i (by omega) (by omega) (by omega)]
        exact vf i hi
    · intro hg v hv v121 v206 vK v31 v26 vV vf
      refine bX6_pick_56 (fun _ => bX6_pick_160 ?_) (fun q => absurd (v31 ▸ le_nI (Nat.le_refl _) (by omega)) q)
      have hg : pkG n s p (vN s p) (pks s p (vN s p)) := hg
      have hv : RepM (mm_rw v 121 (fun j => nI (s.st j))) (pks s p (vN s p)) := hv
      rw [v31]
      refine hK _ _ ?_ vf v26 (fun _ => rfl)
      unfold pkE
      generalize pks s p (vN s p) = t at hg hv ⊢
      obtain ⟨q1, q2, q3, q4, q5, q6⟩ := hg
      have e13 : t.st = s.st := by funext j; show t 13 0 j = _; rw [q3 13 (by decide) (by decide) (by decide)]; rfl
      have e15 : t.fe = updN s.fe p s.ne := by funext j; show t 15 0 j = _; rw [q3 15 (by decide) (by decide) (by decide)]; rfl
      have e16 : t.lc = updN s.lc p (vN s p) := by funext j; show t 16 0 j = _; rw [q3 16 (by decide) (by decide) (by decide)]; rfl
      refine hv.c_st (fun i hi => by rw [rw_ne (by omega)]) (fun j _ _ => by rw [rw_ne (by decide)]) v121 (fun p2 h20 hp2 hs2 => ?_)
      by_cases e : p2 = p
      · subst e
        rw [e15, e16, updN_at, updN_at]
        refine ⟨v206, fun k hk => ?_⟩
        obtain ⟨y1, y2, y3⟩ := vK k hk
        obtain ⟨z1, z2, z3⟩ := q6 k hk
        rw [z1, z2, z3, nI_pred]
        exact ⟨y1, y2, y3⟩
      · rw [updN_ne e] at hs2
        have := hv.kp p2 h20 hp2 (by rw [e13]; exact hs2)
        rw [rw_ne (by omega), rw_ne (by omega), rw_ne (by omega), rw_ne (by omega)] at this
        exact this
    · refine RepM.keep (v := mm_up w' 206 p (nI (vN s p))) (hw'.c_fe_lc (z_fe := updN s.fe p s.ne) (z_lc := updN s.lc p (vN s p)) (fun i hi => mm_up_row (by omega)) (fun j _ _ => by rw [mm_up_row (by decide)]) (fun p2 h20 hp2 hs2 => ?_)) (fun i hi => ?_) (fun j _ _ => ?_)
      · have hne2 := kpne p2 hs2
        have := hw'.kp p2 h20 hp2 hs2
        rw [updN_ne hne2, updN_ne hne2, mm_up_row (show 144 + p2 ≠ 206 by omega), mm_up_row (show 165 + p2 ≠ 206 by omega), mm_up_row (show 186 + p2 ≠ 206 by omega), mm_up_at]
        exact ⟨(if_neg hne2).trans this.1, this.2⟩
      · by_cases e : i = 121
        · subst e
          rw [rw_at, mm_up_row (by decide), hw'.st]
        · rw [rw_ne e]
          by_cases e2 : i = 206
          · subst e2
            rw [mm_up_at, mm_up_at, mm_up_row (by decide)]
          · rw [mm_up_row e2, mm_up_row e2, mm_up_row e]
      · rw [rw_ne (by decide), mm_up_row (by decide), mm_up_row (by decide), mm_up_row (by decide)]
    · rw [mm_up_row (by decide)]
      exact row_nI (x := 112) hw'.st
    · exact mm_up_same
    · exact fun j hj => absurd hj (Nat.not_lt_zero _)
    · rw [mm_up_row (by decide), mm_up_row (by decide)]
      exact g1
    · rw [mm_up_row (by decide), mm_up_row (by decide)]
      exact t26
    · rw [mm_up_row (by decide), mm_up_row (by decide), mm_up_row (by decide), mm_up_row (by decide), mm_up_row (by decide), mm_up_row (by decide)]
      exact g2
    · intro i hi
      rw [mm_up_row (by omega), mm_up_row (by omega)]
      exact f0 i hi
  · rw [g1, (g3.rep hw.th).ne, nI_add, b150, nI_lei (by omega) (by omega)] at q
    exact absurd hsp q
end PP
