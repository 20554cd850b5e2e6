/-! promise -/
section PM
variable {n : Nat} {s : St} {x y z u : Int32}
def St.pm (s : St) (d : Nat) (pl : Nat → Nat) : St := (((s.set 2 (fun _ _ => s.np + 1)).set 12 (fun _ => updN s.du s.np d)).set 13 (fun _ => updN s.st s.np 111)).set 14 (fun p i => if p = s.np then pl i else s.q p i)
theorem pm_I {k : Nat} {pl : Nat → Nat} (h : Inv n s) (hnp : s.np < 20) (hk : k ≤ 60) (hs : sm pl 6 ≤ 60) (hp : ∀ j, j < 6 → pl j ≤ s.la j k) : Inv n (s.pm (s.td + k) pl) := by
  refine ⟨h.1.c_np_du_st_q (by omega) (fun p hp2 hs2 => ?_) (fun p hp2 => ?_) (fun p => ?_) (fun p hp2 hs2 => ?_), fun i d hi hd => ?_⟩
  · by_cases e : p = s.np
    · subst e
      rw [updN_at]
      omega
    · rw [updN_ne e] at hs2
      rw [updN_ne e]
      exact h.du_ p (by omega) hs2
  · show sm (fun i => if p = s.np then pl i else s.q p i) 6 ≤ 60
    by_cases e : p = s.np
    · rw [sm_cong (g := pl) (fun i _ => if_pos e)]
      exact hs
    · rw [sm_cong (g := s.q p) (fun i _ => if_neg e)]
      exact h.q_ p (by omega)
  · by_cases e : p = s.np
    · subst e
      rw [updN_at]
      omega
    · rw [updN_ne e]
      exact h.st_ p
  · by_cases e : p = s.np
    · subst e
      rw [updN_at] at hs2
      omega
    · rw [updN_ne e] at hs2
      exact h.pk_ p (by omega) hs2
  · have hd : s.td ≤ d := hd
    have e1 : (s.pm (s.td + k) pl).pr i d = s.pr i d + (if d ≤ s.td + k then pl i else 0) := by
      show sm (fun p => if updN s.st s.np 111 p = 111 ∧ d ≤ updN s.du s.np (s.td + k) p then (if p = s.np then pl i else s.q p i) else 0) (s.np + 1) = _
      rw [sm_app (F := fun p => if s.st p = 111 ∧ d ≤ s.du p then s.q p i else 0) (fun p hp2 => by rw [updN_ne (by omega), updN_ne (by omega), if_neg (show ¬ p = s.np by omega)])]
      rw [updN_at, updN_at, if_pos rfl]
      have : (if (111 : Nat) = 111 ∧ d ≤ s.td + k then pl i else 0) = if d ≤ s.td + k then pl i else 0 := by
        by_cases q : d ≤ s.td + k
        · rw [if_pos ⟨rfl, q⟩, if_pos q]
        · rw [if_neg (fun z => q z.2), if_neg q]
      rw [this]
      rfl
    rw [e1]
    show _ ≤ s.sk i d
    have h1 := h.cv_ i d hi hd
    by_cases q : d ≤ s.td + k
    · rw [if_pos q]
      have h2 := hp i hi
      have h3 := la_le_at (s := s) (i := i) (k := k) (j := d - s.td) (by omega)
      rw [show s.td + (d - s.td) = d by omega] at h3
      have h4 : s.df i d = s.sk i d - s.pr i d := rfl
      omega
    · rw [if_neg q]
      exact h1
theorem b20 : (20 : Int32) = nI 20 := rfl
theorem op_promise (h : Inv n s) : Op kX5_promise kX6_promise kL_promise n [.int x, .int y, .int z, .int u] s := by
  have hni := h.ni_; have hnp := h.np_; have htd := h.td_; have hnn := h.n_
  rcases is_or x s.ni with ⟨i, hi, e⟩ | hx
  rotate_left
  · refine Op.no 1 2 h (by decide) (by decide) (fun w hw K hK => ?_) (fun r w hw K hK => ?_)
    · exact bX5_promise_0 (by decide) (k_nItem hni hw.ni hx (mm_Kx rfl (hK _ hw fC.rfl)))
    · refine bX6_promise_0 (by decide) (k_noItem hni hw.ni hx (mm_Kr 0 rfl (bX6_promise_5 (fun _ => bX6_promise_8 (by decide) (m_raises (mm_Kr 0 rfl (bX6_promise_13 ?_)))) (fun h => absurd rfl h))))
      exact hK _ _ hw.th fM.th th_at (fun h => absurd h (by decide))
  subst e
  have c1 : ∀ {w} {K : mmO → mmM → Prop}, RepC w s → mm_M kX5_requireBetween [.ref 0, .int y, .int (nI 1), .int (nI 60)] w (mm_Kc kX5_promise 13 [.ref 0, .int (nI i), .int y, .int z, .int u] [] (1 + mm_mc kX5_requireBetween) K) → mm_M kX5_promise [.ref 0, .int (nI i), .int y, .int z, .int u] w K := fun hw g => bX5_promise_0 (by decide) (k_rItem hni hw.ni hi (mm_Kv 1 rfl (bX5_promise_5 (by decide) g)))
  have d1 : ∀ {w} {K : mmO → mmM → Prop}, RepM w s → mm_M kX6_in [.int y, .int (nI 1), .int (nI 60)] w (mm_Kc kX6_promise 21 [.ref 81, .int (nI i), .int y, .int z, .int u, .retAddr 0, .retAddr 0, .retAddr 0] [] (0 + mm_mc kX6_in) K) → mm_M kX6_promise [.ref 81, .int (nI i), .int y, .int z, .int u] w K := fun hw g => bX6_promise_0 (by decide) (k_isItem hni hw.ni hi (mm_Kr 0 rfl (bX6_promise_5 (fun h => absurd h (by decide)) (fun _ => bX6_promise_14 (by decide) g))))
  by_cases hy : bt 1 60 y
  rotate_left
  · refine Op.no 2 0 h (by decide) (by decide) (fun w hw K hK => c1 hw (k_nbt (by decide) (by decide) hy (mm_Kx rfl (hK _ hw fC.rfl)))) (fun r w hw K hK => d1 hw (k_nin (by decide) (by decide) hy (mm_Kr 0 rfl (bX6_promise_21 (fun _ => bX6_promise_42 (by decide) (m_raises (mm_Kr 0 rfl (bX6_promise_47 ?_)))) (fun h => absurd rfl h)))))
    exact hK _ _ hw.th fM.th th_at (fun h => absurd h (by decide))
  obtain ⟨q, hq1, hq2, e⟩ := hy
  subst e
  have b60 : (60 : Int32) = nI 60 := rfl
  have c2 : ∀ {w} {K : mmO → mmM → Prop}, RepC w s → mm_M kX5_requireBetween [.ref 0, .int z, .int (nI s.td), .int (nI (s.td + 60))] w (mm_Kc kX5_promise 29 [.ref 0, .int (nI i), .int (nI q), .int z, .int u] [] (2 + mm_mc kX5_requireBetween) K) → mm_M kX5_promise [.ref 0, .int (nI i), .int (nI q), .int z, .int u] w K := fun hw g => c1 hw (k_bt (by decide) (by decide) ⟨q, hq1, hq2, rfl⟩ (mm_Kv 2 rfl (bX5_promise_13 (by decide) (by rw [hw.td, b60, nI_add]; exact g))))
  have d2 : ∀ {w} {K : mmO → mmM → Prop}, RepM w s → mm_M kX6_in [.int z, .int (nI s.td), .int (nI (s.td + 60))] w (mm_Kc kX6_promise 39 [.ref 81, .int (nI i), .int (nI q), .int z, .int u, .retAddr 0, .retAddr 0, .retAddr 0] [] (0 + mm_mc kX6_in) K) → mm_M kX6_promise [.ref 81, .int (nI i), .int (nI q), .int z, .int u] w K := fun hw g => d1 hw (k_in (by decide) (by decide) ⟨q, hq1, hq2, rfl⟩ (mm_Kr 0 rfl (bX6_promise_21 (fun h => absurd h (by decide)) (fun _ => bX6_promise_24 (by decide) (by rw [hw.td, b60, nI_add]; exact g)))))
  by_cases hz : bt s.td (s.td + 60) z
  rotate_left
  · refine Op.no 2 0 h (by decide) (by decide) (fun w hw K hK => c2 hw (k_nbt (by omega) (by omega) hz (mm_Kx rfl (hK _ hw fC.rfl)))) (fun r w hw K hK => d2 hw (k_nin (by omega) (by omega) hz (mm_Kr 0 rfl (bX6_promise_39 (fun _ => bX6_promise_42 (by decide) (m_raises (mm_Kr 0 rfl (bX6_promise_47 ?_)))) (fun h => absurd rfl h)))))
    exact hK _ _ hw.th fM.th th_at (fun h => absurd h (by decide))
  have hz' := hz
  obtain ⟨k, hk, e⟩ := bt_td hz
  subst e
  have c3 : ∀ {w} {K : mmO → mmM → Prop}, RepC w s → mm_E kX5_promise 29 [.ref 0, .int (nI i), .int (nI q), .int (nI (s.td + k)), .int u] [] w 3 K → mm_M kX5_promise [.ref 0, .int (nI i), .int (nI q), .int (nI (s.td + k)), .int u] w K := fun hw g => c2 hw (k_bt (by omega) (by omega) hz' (mm_Kv 3 rfl g))
  have d3 : ∀ {w} {K : mmO → mmM → Prop}, RepM w s → mm_E kX6_promise 48 [.ref 81, .int (nI i), .int (nI q), .int (nI (s.td + k)), .int u, .retAddr 0, .retAddr 0, .retAddr 0] [] w 0 K → mm_M kX6_promise [.ref 81, .int (nI i), .int (nI q), .int (nI (s.td + k)), .int u] w K := fun hw g => d2 hw (k_in (by omega) (by omega) hz' (mm_Kr 0 rfl (bX6_promise_39 (fun h => absurd h (by decide)) (fun _ => g))))
  by_cases hn : s.np = 20
  · refine Op.no 3 1 h (by decide) (by decide) (fun w hw K hK => c3 hw (bX5_promise_29 (fun z => ?_) (fun _ => bX5_promise_41 (by decide) (hK _ hw fC.rfl)))) (fun r w hw K hK => d3 hw (bX6_promise_48 (fun _ => bX6_promise_57 (by decide) (m_raises (mm_Kr 0 rfl (bX6_promise_62 (hK _ _ hw.th fM.th th_at (fun h => absurd h (by decide))))))) (fun z => ?_)))
    · rw [hw.np, hn] at z
      exact absurd z (by decide)
    · rw [hw.np, hn] at z
      exact absurd rfl z
  obtain ⟨p1, p2⟩ := plan_ok (q := q) (k := k) (sub := decide (u ≠ 0)) h hi
  have c4 : ∀ {w} {K : mmO → mmM → Prop}, RepC w s → (∀ w', pmC w w' (plan s i q k (decide (u ≠ 0))) → mm_E kX5_promise 60 [.ref 0, .int (nI i), .int (nI q), .int (nI (s.td + k)), .int u] [.int (nI (plan s i q k (decide (u ≠ 0))).1)] w' 3 K) → mm_M kX5_promise [.ref 0, .int (nI i), .int (nI q), .int (nI (s.td + k)), .int u] w K := fun hw g => c3 hw (bX5_promise_29 (fun _ => bX5_promise_51 (by decide) (k_planC h hw hi hk hq2 (fun w' hp => mm_Kr 3 rfl (g w' hp)))) (fun z => by rw [hw.np, b20, nI_lti (by omega) (by omega)] at z; exact absurd z (by omega)))
  have d4 : ∀ {w} {K : mmO → mmM → Prop}, RepM w s → (∀ w' l6 l7, pmM w w' (plan s i q k (decide (u ≠ 0))) → mm_E kX6_promise 165 [.ref 81, .int (nI i), .int (nI q), .int (nI (s.td + k)), .int u, .int (nI (plan s i q k (decide (u ≠ 0))).1), .int l6, l7] [] w' 0 K) → mm_M kX6_promise [.ref 81, .int (nI i), .int (nI q), .int (nI (s.td + k)), .int u] w K := fun hw g => d3 hw (bX6_promise_48 (fun z => by rw [hw.np] at z; exact absurd ((nI_eq (b := 20) (by omega) (by omega)).mp z) hn) (fun _ => k_planM h hw hi hk hq2 _ _ _ g))
  by_cases hr : (plan s i q k (decide (u ≠ 0))).1 = 0
  rotate_left
  · refine Op.no 4 3 h (by decide) (by decide) (fun w hw K hK => c4 hw (fun w' hp => bX5_promise_60 (fun z => absurd ((nI_le0 (by omega)).mp z) hr) (fun _ => bX5_promise_63 (by decide) (hK _ (hp.rep hw) (fun a ha => hp.1 a (by omega)))))) (fun r w hw K hK => d4 hw (fun w' l6 l7 hp => bX6_promise_165 (fun z => absurd ((nI_le0 (by omega)).mp z) hr) (fun _ => bX6_promise_170 (by decide) (m_raises (mm_Kr 0 rfl (bX6_promise_175 (hK _ _ (hp.rep hw).th ((show fM w w' from fun a ha => hp.1 a (by omega)).tr fM.th) th_at (fun h => absurd h (by decide)))))))))
  have hsum : sm (plan s i q k (decide (u ≠ 0))).2 6 ≤ 60 := by omega
  refine Op.ok (s.pm (s.td + k) (plan s i q k (decide (u ≠ 0))).2) (nI s.np) (pm_I h (by omega) hk hsum (fun j hj => (p2 j hj).1)) (fun w hw K hK => c4 hw (fun w' hp => ?_)) (fun w hw K hK => d4 hw (fun w' l6 l7 hp => ?_))
  · have hw' := hp.rep hw
    refine bX5_promise_60 (fun _ => bX5_promise_73 (by decide) (m_pappend (n := s.np) (by omega) hw'.np (mm_Kr 3 rfl (bX5_promise_85 (hK _ ?_ ?_))))) (fun z => absurd ((nI_le0 (by omega)).mpr hr) z)
    · refine hw'.c_np_du_st_q (fun a ha => ?_) mm_up_same ?_ ?_ (fun p hp20 j hj => ?_)
      · rw [mm_up_row (by omega), rw_ne (by omega), mm_up_row (by omega), mm_up_row (by omega)]
      · rw [mm_up_row (by decide), rw_ne (by omega), mm_up_row (by decide)]
        exact row_nI hw'.du
      · rw [mm_up_row (by decide), rw_ne (by omega)]
        exact row_nI (x := 111) (by rw [mm_up_row (by decide)]; exact hw'.st)
      · rw [mm_up_row (by omega)]
        by_cases e : p = s.np
        · subst e
          rw [rw_at, sb_cpy0 hj, if_pos rfl]
          exact hp.2 j hj
        · rw [rw_ne (by omega), mm_up_row (by omega), mm_up_row (by omega), if_neg e]
          exact hw'.q p hp20 j hj
    · intro a ha
      rw [mm_up_row (by omega), rw_ne (by omega), mm_up_row (by omega), mm_up_row (by omega)]
      exact hp.1 a (by omega)
  · have hw0 := (hp.rep hw).th (x := 0)
    have a1 : mm_in (mm_up w' 81 26 0 81 17) 20 = true := by rw [hw0.np]; exact in_nI (by omega) (by decide)
    refine bX6_promise_165 (fun _ => bX6_promise_176 a1 a1 ?_) (fun z => absurd ((nI_le0 (by omega)).mpr hr) z)
    rw [hw0.np, cl_nI (by omega)]
    have v17 : mm_up (mm_up (mm_up w' 81 26 0) 120 s.np (nI (s.td + k))) 121 s.np 111 81 17 = nI s.np := by rw [mm_up_row (by decide), mm_up_row (by decide)]; exact hw0.np
    have v26 : mm_up (mm_up (mm_up w' 81 26 0) 120 s.np (nI (s.td + k))) 121 s.np 111 81 26 = 0 := by rw [mm_up_row (by decide), mm_up_row (by decide), th_at]
    have v241 : ∀ j, j < 6 → mm_up (mm_up (mm_up w' 81 26 0) 120 s.np (nI (s.td + k))) 121 s.np 111 241 j = nI ((plan s i q k (decide (u ≠ 0))).2 j) := fun j hj => by
      rw [mm_up_row (by decide), mm_up_row (by decide), mm_up_row (by decide)]
      exact hp.2 j hj
    have v120 : mm_up (mm_up (mm_up w' 81 26 0) 120 s.np (nI (s.td + k))) 121 s.np 111 120 = fun p => nI (updN s.du s.np (s.td + k) p) := by rw [mm_up_row (by decide)]; exact row_nI hw0.du
    have v121 : mm_up (mm_up (mm_up w' 81 26 0) 120 s.np (nI (s.td + k))) 121 s.np 111 121 = fun p => nI (updN s.st s.np 111 p) := row_nI (x := 111) (by rw [mm_up_row (by decide)]; exact hw0.st)
    have vk : ∀ a, a ≠ 120 → a ≠ 121 → mm_up (mm_up (mm_up w' 81 26 0) 120 s.np (nI (s.td + k))) 121 s.np 111 a = mm_up w' 81 26 0 a := fun a h1 h2 => by rw [mm_up_row h2, mm_up_row h1]
    generalize mm_up (mm_up (mm_up w' 81 26 0) 120 s.np (nI (s.td + k))) 121 s.np 111 = V at v17 v26 v241 v120 v121 vk ⊢
    have loop : ∀ m j w2, j + m = 6 → (∀ a, a ≠ 123 + s.np → w2 a = V a) → (∀ b, b < j → w2 (123 + s.np) b = nI ((plan s i q k (decide (u ≠ 0))).2 b)) → mm_E kX6_promise 205 [.ref 81, .int (nI i), .int (nI q), .int (nI (s.td + k)), .int u, .int (nI (plan s i q k (decide (u ≠ 0))).1), .int (nI j), l7] [] w2 0 K := by
      intro m
      induction m with
      | zero =>
        intro j w2 hj h1 h2
        have e : j = 6 := by omega
        subst e
        refine bX6_promise_205 (fun _ => bX6_promise_237 ?_) (fun q => absurd (le_nI (Nat.le_refl 6) (by decide)) q)
        have e17 : w2 81 17 = nI s.np := by rw [h1 81 (by omega)]; exact v17
        rw [e17, nI_1, nI_pred]
        refine hK _ _ (hw0.c_np_du_st_q (z_np := s.np + 1) (fun a ha => ?_) (fun j _ _ j3 => ?_) mm_up_same ?_ ?_ (fun p hp20 j hj => ?_) (fun p hp20 hpn hs => ?_)) (fun a ha => ?_) ?_ (fun _ => rfl)
        · rw [mm_up_row (by omega), h1 a (by omega), vk a (by omega) (by omega)]
        · rw [up_ob j3, h1 81 (by omega), vk 81 (by decide) (by decide)]
        · rw [mm_up_row (by decide), h1 120 (by omega)]
          exact v120
        · rw [mm_up_row (by decide), h1 121 (by omega)]
          exact v121
        · rw [mm_up_row (by omega)]
          by_cases e : p = s.np
          · subst e
            rw [if_pos rfl]
            exact h2 j hj
          · rw [h1 _ (by omega), vk _ (by omega) (by omega), if_neg e]
            exact hw0.q p hp20 j hj
        · by_cases e : p = s.np
          · subst e
            rw [updN_at] at hs
            omega
          · rw [updN_ne e] at hs
            rw [mm_up_row (by decide), mm_up_row (by omega), mm_up_row (by omega), mm_up_row (by omega), h1 206 (by omega), h1 (144 + p) (by omega), h1 (165 + p) (by omega), h1 (186 + p) (by omega), vk 206 (by omega) (by omega), vk (144 + p) (by omega) (by omega), vk (165 + p) (by omega) (by omega), vk (186 + p) (by omega) (by omega)]
            have hpn : p < s.np + 1 := hpn
            exact hw0.kp p hp20 (by omega) hs
        · rw [mm_up_row (by omega), h1 a (by omega), vk a (by omega) (by omega), mm_up_row (by omega)]
          exact hp.1 a (by omega)
        · rw [up_ob (by decide), h1 81 (by omega), v26]
          rfl
      | succ m ih =>
        intro j w2 hj h1 h2
        have e17 : w2 81 17 = nI s.np := by rw [h1 81 (by omega)]; exact v17
        refine bX6_promise_205 (fun q => absurd q (ge_nI (n := 6) (by omega) (by decide))) (fun _ => bX6_promise_212 (by rw [e17]; exact in_nI (by omega) (by decide)) (in_nI (by omega) (by decide)) (in_nI (by omega) (by decide)) ?_)
        rw [e17, nI_1, cl_nI (i := s.np) (by omega), cl_nI (by omega), h1 241 (by omega), v241 j (by omega)]
        refine ih (j + 1) _ (by omega) (fun a ha => by rw [mm_up_row ha]; exact h1 a ha) (fun b hb => ?_)
        by_cases z : b = j
        · subst z; rw [mm_up_same]
        · rw [mm_up_at]
          exact (if_neg z).trans (h2 b (by omega))
    exact loop 6 0 V rfl (fun _ _ => rfl) (fun b hb => absurd hb (Nat.not_lt_zero _))
end PM
