/-! a promise is picked: both -/
theorem rw_up {v : mmM} {i j k : Nat} {x : Int32} {r : Nat → Int32} (h : i ≠ k) : mm_up (mm_rw v k r) i j x = mm_rw (mm_up v i j x) k r := by
  funext a
  by_cases e : a = k
  · subst e
    rw [rw_at, mm_up_row (Ne.symm h), rw_at]
  · rw [rw_ne e]
    by_cases e2 : a = i
    · subst e2
      rw [mm_up_at, mm_up_at, rw_ne e]
    · rw [mm_up_row e2, mm_up_row e2, rw_ne e]
section PP
variable {n : Nat} {s : St} {x : Int32}
theorem op_pick (h : Inv n s) : Op kX5_pick kL_picks n [.int x] s (XP x s) := by
  have hnp := h.np_; have hne := h.ne_; have hnl := h.nl_
  rcases is_or x s.np with ⟨p, hp, e⟩ | hx
  rotate_left
  · refine Op.no 2 h (by decide) (fun w hw K hK => ?_)
    · exact bX5_pick_0 (by decide) (k_nPromise hnp hw.np hx (mm_Kx rfl (hK _ hw fC.rfl)))
  subst e
  have a1 := in_nI (show p < 20 by omega) (by decide)
  by_cases hs : s.st p = 111
  rotate_left
  · refine Op.no 1 h (by decide) (fun w hw K hK => ?_)
    · exact bX5_pick_0 (by decide) (k_rPromise hnp hw.np hp (mm_Kv 1 rfl (bX5_pick_5 (by decide) (k_nOpen h.1 hw hp hs (mm_Kx rfl (hK _ hw fC.rfl))))))
  obtain ⟨hN, hV⟩ := vw_ok h.1 hp (Or.inl hs)
  have eN : vN s p = cnt (lsP s p) 960 := (vw_open hs).1
  have c1 : ∀ {w} {K : mmO → mmM → Prop}, RepC w s → (∀ w', w' 5 0 = nI (vN s p) → Vw (w' 78) (w' 79) (w' 80) (vN s p) (vB s p) (vL s p) (vQ s p) → frL w w' → mm_M kX5_requireEntrySpace [.ref 0, .int (nI (vN s p))] w' (mm_Kc kX5_pick 26 [.ref 0, .int (nI p), .retAddr 0] [] (2 + mm_mc kX5_requireEntrySpace) K)) → mm_M kX5_pick [.ref 0, .int (nI p)] w K := by
    intro w K hw g
    refine bX5_pick_0 (by decide) (k_rPromise hnp hw.np hp (mm_Kv 1 rfl (bX5_pick_5 (by decide) (k_rOpen h.1 hw hp hs (mm_Kv 2 rfl (bX5_pick_10 (by decide) (k_findC h.1 hw hp hs (fun w' hL hf => mm_Kv 2 rfl (bX5_pick_15 (by decide) ?_)))))))))
    have := g w' (by rw [hL.1, eN]) (Ln_Vw hs hL.2) hf
    rw [hL.1, ← eN]
    exact this
  have b150 : (150 : Int32) = nI 150 := rfl
  by_cases hsp : s.ne + vN s p ≤ 150
  rotate_left
  · refine Op.no 1 h (by decide) (fun w hw K hK => c1 hw (fun w' g1 g2 g3 => m_rEntrySpace hne (by omega) (g3.rep hw).ne (fun _ => mm_Kx rfl (hK _ (g3.rep hw) g3.fC)) (fun q => absurd q hsp)))
  have hG := pkG_all h.1 hp hs hsp
  have hE := pkE_I h hp hs hsp
  refine Op.ok (pkE s p) (nI (vN s p)) hE ⟨nI_nn (by omega), (pk_J h hp hs hsp).1, p, rfl, by rw [(pk_J h hp hs hsp).2.1]; exact hp, (pk_J h hp hs hsp).2.2⟩ (fun w hw K hK => c1 hw (fun w' g1 g2 g3 => m_rEntrySpace hne (by omega) (g3.rep hw).ne (fun q => absurd hsp (by omega)) (fun _ => mm_Kv 3 rfl (bX5_pick_26 a1 a1 ?_))))
  · have hw' := g3.rep hw
    rw [cl_nI (by omega), hw'.ne, g1]
    have hw1 : RepC (mm_up (mm_up w' 70 p (nI s.ne)) 71 p (nI (vN s p))) (pk1 s p) := hw'.c_fe_lc (fun i hi => by rw [mm_up_row (by omega), mm_up_row (by omega)]) (by rw [mm_up_row (by decide)]; exact row_nI hw'.fe) (row_nI (by rw [mm_up_row (by decide)]; exact hw'.lc))
    refine e_for (n := vN s p) (a0 := pk1 s p) (f := fun k t => t.tk 112 (vL s p k) (vB s p k) (vQ s p k)) (E := fun k t => ∀ v, RepC v t → v 5 0 = nI (vN s p) → Vw (v 78) (v 79) (v 80) (vN s p) (vB s p) (vL s p) (vQ s p) → fC w v → mm_E kX5_pick 60 [.ref 0, .int (nI p), .int (nI k)] [] v 3 K) (fun k t => pkG n s p k t) (pkG_0 h.1 hs) (fun k t hk hg => pkG_s h.1 hp hs hsp hk hg) ?_ ?_ _ hw1 ?_ ?_ ?_
    · intro k t hk hg ih v hv v5 vV vf
      obtain ⟨r1, r2, r3⟩ := vV k hk
      obtain ⟨hB, hL, hQ⟩ := hV k hk
      obtain ⟨q1, q2, q3, q4, q5, q6⟩ := hg
      have a2 := in_nI (show k < 60 by omega) (by decide)
      have eun : t.un (vL s p k) (vB s p k) = s.un (vL s p k) (vB s p k) := q4 _ _ (fun j hj => vw_ne hs (by omega) hk (by omega))
      refine bX5_pick_60 (fun q => absurd (v5 ▸ q) (ge_nI hk (by omega))) (fun _ => bX5_pick_71 a2 a2 a2 (by decide) ?_)
      rw [cl_nI (by omega), r1, r2, r3]
      refine k_takeOut (kd := 112) hv (by omega) hB (by omega) (by decide) (by rw [eun]; exact vw_un h.1 hp hs hk) (fun v2 hv2 hf2 hk2 => mm_Kv 3 rfl (bX5_pick_104 ?_))
      rw [nI_1]
      exact ih v2 hv2 (by rw [hk2 5 (Or.inl rfl)]; exact v5) (by rw [hk2 78 (by omega), hk2 79 (by omega), hk2 80 (by omega)]; exact vV) (vf.tr hf2)
    · intro hg v hv v5 vV vf
      refine bX5_pick_60 (fun _ => bX5_pick_110 a1 ?_) (fun q => absurd (v5 ▸ le_nI (Nat.le_refl _) (by omega)) q)
      rw [v5, cl_nI (by omega)]
      have hg : pkG n s p (vN s p) (pks s p (vN s p)) := hg
      have hv : RepC v (pks s p (vN s p)) := hv
      have e13 : (pks s p (vN s p)).st = s.st := by funext j; show pks s p (vN s p) 13 0 j = _; rw [hg.2.2.1 13 (by decide) (by decide) (by decide)]; rfl
      refine hK _ (hv.c_st (fun i hi => mm_up_row (by omega)) (row_nI (x := 112) ?_)) (fun i hi => by rw [mm_up_row (by omega)]; exact vf i hi)
      rw [hv.st, e13]
    · rw [mm_up_row (by decide), mm_up_row (by decide)]
      exact g1
    · rw [mm_up_row (by decide), mm_up_row (by decide), mm_up_row (by decide), mm_up_row (by decide), mm_up_row (by decide), mm_up_row (by decide)]
      exact g2
    · intro i hi
      rw [mm_up_row (by omega), mm_up_row (by omega)]
      exact g3.fC i hi
end PP
