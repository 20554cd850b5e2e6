/-! promise -/
section PM
variable {n : Nat} {s : St} {x y z u : Int32}
def St.pm (s : St) (d : Nat) (pl : Nat → Nat) : St := (((s.set 2 (fun _ _ => s.np + 1)).set 12 (fun _ => updN s.du s.np d)).set 13 (fun _ => updN s.st s.np 111)).set 14 (fun p i => if p = s.np then pl i else s.q p i)
theorem pm_I {k : Nat} {pl : Nat → Nat} (h : Inv n s) (hnp : s.np < 20) (hk : k ≤ 60) (hs : sm pl 6 ≤ 60) (hp : ∀ j, j < 6 → pl j ≤ s.la j k) : Inv n (s.pm (s.td + k) pl) := by
  refine ⟨h.1.c_np_du_st_q (by omega) (fun p hp2 hs2 => ?_) (fun p hp2 => ?_) (fun p => ?_) (fun p hp2 hs2 => ?_), fun i d hi hd => ?_⟩
  · by_cases e : p = s.np
    · subst e
      rw [updN_at]
      omega
    · rw [updN_ne e] at hs2
      rw [updN_ne e]
      exact h.du_ p (by omega) hs2
  · show sm (fun i => if p = s.np then pl i else s.q p i) 6 ≤ 60
    by_cases e : p = s.np
    · rw [sm_cong (g := pl) (fun i _ => if_pos e)]
      exact hs
    · rw [sm_cong (g := s.q p) (fun i _ => if_neg e)]
      exact h.q_ p (by omega)
  · by_cases e : p = s.np
    · subst e
      rw [updN_at]
      omega
    · rw [updN_ne e]
      exact h.st_ p
  · by_cases e : p = s.np
    · subst e
      rw [updN_at] at hs2
      omega
    · rw [updN_ne e] at hs2
      exact h.pk_ p (by omega) hs2
  · have hd : s.td ≤ d := hd
    have e1 : (s.pm (s.td + k) pl).pr i d = s.pr i d + (if d ≤ s.td + k then pl i else 0) := by
      show sm (fun p => if updN s.st s.np 111 p = 111 ∧ d ≤ updN s.du s.np (s.td + k) p then (if p = s.np then pl i else s.q p i) else 0) (s.np + 1) = _
      rw [sm_app (F := fun p => if s.st p = 111 ∧ d ≤ s.du p then s.q p i else 0) (fun p hp2 => by rw [updN_ne (by omega), updN_ne (by omega), if_neg (show ¬ p = s.np by omega)])]
      rw [updN_at, updN_at, if_pos rfl]
      have : (if (111 : Nat) = 111 ∧ d ≤ s.td + k then pl i else 0) = if d ≤ s.td + k then pl i else 0 := by
        by_cases q : d ≤ s.td + k
        · rw [if_pos ⟨rfl, q⟩, if_pos q]
        · rw [if_neg (fun z => q z.2), if_neg q]
      rw [this]
      rfl
    rw [e1]
    show _ ≤ s.sk i d
    have h1 := h.cv_ i d hi hd
    by_cases q : d ≤ s.td + k
    · rw [if_pos q]
      have h2 := hp i hi
      have h3 := la_le_at (s := s) (i := i) (k := k) (j := d - s.td) (by omega)
      rw [show s.td + (d - s.td) = d by omega] at h3
      have h4 : s.df i d = s.sk i d - s.pr i d := rfl
      omega
    · rw [if_neg q]
      exact h1
theorem b20 : (20 : Int32) = nI 20 := rfl
theorem Jn.pm {s : St} {d : Nat} {pl : Nat → Nat} (h : Jn s) (hs : 1 ≤ sm pl 6) (hz : ∀ j, s.ni ≤ j → j < 6 → pl j = 0) : Jn (s.pm d pl) := by
  have hq : ∀ p i, (s.pm d pl).q p i = if p = s.np then pl i else s.q p i := fun _ _ => rfl
  have hst : ∀ p, (s.pm d pl).st p = updN s.st s.np 111 p := fun _ => rfl
  have hnp : (s.pm d pl).np = s.np + 1 := rfl
  refine ⟨fun p hp => ?_, fun p i hp h1 h2 => ?_, fun p hp => ?_, fun p hp h1 => ?_⟩
  · rw [hst]
    by_cases e : p = s.np
    · subst e; rw [updN_at]; decide
    · rw [updN_ne e]; exact h.1 p (by omega)
  · rw [hq]
    have h1 : s.ni ≤ i := h1
    split
    · exact hz i h1 h2
    · exact h.2.1 p i (by omega) h1 h2
  · by_cases e : p = s.np
    · rw [sm_cong (g := pl) (fun i _ => by rw [hq, if_pos e])]; exact hs
    · rw [sm_cong (g := s.q p) (fun i _ => by rw [hq, if_neg e])]; exact h.2.2.1 p (by omega)
  · rw [hst] at h1
    by_cases e : p = s.np
    · subst e; rw [updN_at] at h1; cases h1
    · rw [updN_ne e] at h1
      have := h.2.2.2 p (by omega) h1
      rw [sm_cong (f := (s.pm d pl).q p) (g := s.q p) (fun i _ => by rw [hq, if_neg e])]
      exact this
theorem op_promise (h : Inv n s) : Op kX5_promise kL_promises n [.int x, .int y, .int z, .int u] s (XJ s) := by
  have hni := h.ni_; have hnp := h.np_; have htd := h.td_; have hnn := h.n_
  rcases is_or x s.ni with ⟨i, hi, e⟩ | hx
  rotate_left
  · refine Op.no 2 h (by decide) (fun w hw K hK => ?_)
    · exact bX5_promise_0 (by decide) (k_nItem hni hw.ni hx (mm_Kx rfl (hK _ hw fC.rfl)))
  subst e
  have c1 : ∀ {w} {K : mmO → mmM → Prop}, RepC w s → mm_M kX5_requireBetween [.ref 0, .int y, .int (nI 1), .int (nI 60)] w (mm_Kc kX5_promise 13 [.ref 0, .int (nI i), .int y, .int z, .int u] [] (1 + mm_mc kX5_requireBetween) K) → mm_M kX5_promise [.ref 0, .int (nI i), .int y, .int z, .int u] w K := fun hw g => bX5_promise_0 (by decide) (k_rItem hni hw.ni hi (mm_Kv 1 rfl (bX5_promise_5 (by decide) g)))
  by_cases hy : bt 1 60 y
  rotate_left
  · refine Op.no 0 h (by decide) (fun w hw K hK => c1 hw (k_nbt (by decide) (by decide) hy (mm_Kx rfl (hK _ hw fC.rfl))))
  obtain ⟨q, hq1, hq2, e⟩ := hy
  subst e
  have b60 : (60 : Int32) = nI 60 := rfl
  have c2 : ∀ {w} {K : mmO → mmM → Prop}, RepC w s → mm_M kX5_requireBetween [.ref 0, .int z, .int (nI s.td), .int (nI (s.td + 60))] w (mm_Kc kX5_promise 29 [.ref 0, .int (nI i), .int (nI q), .int z, .int u] [] (2 + mm_mc kX5_requireBetween) K) → mm_M kX5_promise [.ref 0, .int (nI i), .int (nI q), .int z, .int u] w K := fun hw g => c1 hw (k_bt (by decide) (by decide) ⟨q, hq1, hq2, rfl⟩ (mm_Kv 2 rfl (bX5_promise_13 (by decide) (by rw [hw.td, b60, nI_add]; exact g))))
  by_cases hz : bt s.td (s.td + 60) z
  rotate_left
  · refine Op.no 0 h (by decide) (fun w hw K hK => c2 hw (k_nbt (by omega) (by omega) hz (mm_Kx rfl (hK _ hw fC.rfl))))
  have hz' := hz
  obtain ⟨k, hk, e⟩ := bt_td hz
  subst e
  have c3 : ∀ {w} {K : mmO → mmM → Prop}, RepC w s → mm_E kX5_promise 29 [.ref 0, .int (nI i), .int (nI q), .int (nI (s.td + k)), .int u] [] w 3 K → mm_M kX5_promise [.ref 0, .int (nI i), .int (nI q), .int (nI (s.td + k)), .int u] w K := fun hw g => c2 hw (k_bt (by omega) (by omega) hz' (mm_Kv 3 rfl g))
  by_cases hn : s.np = 20
  · refine Op.no 1 h (by decide) (fun w hw K hK => c3 hw (bX5_promise_29 (fun z => ?_) (fun _ => bX5_promise_41 (by decide) (hK _ hw fC.rfl))))
    · rw [hw.np, hn] at z
      exact absurd z (by decide)
  obtain ⟨p1, p2⟩ := plan_ok (q := q) (k := k) (sub := decide (u ≠ 0)) h hi
  have c4 : ∀ {w} {K : mmO → mmM → Prop}, RepC w s → (∀ w', pmC w w' (plan s i q k (decide (u ≠ 0))) → mm_E kX5_promise 60 [.ref 0, .int (nI i), .int (nI q), .int (nI (s.td + k)), .int u] [.int (nI (plan s i q k (decide (u ≠ 0))).1)] w' 3 K) → mm_M kX5_promise [.ref 0, .int (nI i), .int (nI q), .int (nI (s.td + k)), .int u] w K := fun hw g => c3 hw (bX5_promise_29 (fun _ => bX5_promise_51 (by decide) (k_planC h hw hi hk hq2 (fun w' hp => mm_Kr 3 rfl (g w' hp)))) (fun z => by rw [hw.np, b20, nI_lti (by omega) (by omega)] at z; exact absurd z (by omega)))
  by_cases hr : (plan s i q k (decide (u ≠ 0))).1 = 0
  rotate_left
  · refine Op.no 3 h (by decide) (fun w hw K hK => c4 hw (fun w' hp => bX5_promise_60 (fun z => absurd ((nI_le0 (by omega)).mp z) hr) (fun _ => bX5_promise_63 (by decide) (hK _ (hp.rep hw) (fun a ha => hp.1 a (by omega))))))
  have hsum : sm (plan s i q k (decide (u ≠ 0))).2 6 ≤ 60 := by omega
  refine Op.ok (s.pm (s.td + k) (plan s i q k (decide (u ≠ 0))).2) (nI s.np) (pm_I h (by omega) hk hsum (fun j hj => (p2 j hj).1)) ⟨nI_nn (by omega), rfl, fun hj => hj.pm (by omega) (fun j hj1 hj2 => (p2 j hj2).2 hj1)⟩ (fun w hw K hK => c4 hw (fun w' hp => ?_))
  · have hw' := hp.rep hw
    refine bX5_promise_60 (fun _ => bX5_promise_73 (by decide) (m_pappend (n := s.np) (by omega) hw'.np (mm_Kr 3 rfl (bX5_promise_85 (hK _ ?_ ?_))))) (fun z => absurd ((nI_le0 (by omega)).mpr hr) z)
    · refine hw'.c_np_du_st_q (fun a ha => ?_) mm_up_same ?_ ?_ (fun p hp20 j hj => ?_)
      · rw [mm_up_row (by omega), rw_ne (by omega), mm_up_row (by omega), mm_up_row (by omega)]
      · rw [mm_up_row (by decide), rw_ne (by omega), mm_up_row (by decide)]
        exact row_nI hw'.du
      · rw [mm_up_row (by decide), rw_ne (by omega)]
        exact row_nI (x := 111) (by rw [mm_up_row (by decide)]; exact hw'.st)
      · rw [mm_up_row (by omega)]
        by_cases e : p = s.np
        · subst e
          rw [rw_at, sb_cpy0 hj, if_pos rfl]
          exact hp.2 j hj
        · rw [rw_ne (by omega), mm_up_row (by omega), mm_up_row (by omega), if_neg e]
          exact hw'.q p hp20 j hj
    · intro a ha
      rw [mm_up_row (by omega), rw_ne (by omega), mm_up_row (by omega), mm_up_row (by omega)]
      exact hp.1 a (by omega)
end PM
