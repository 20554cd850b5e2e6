/-! nextLot, onHand, expired, onHandOn -/
theorem nI_m1 {a : Nat} (h : a < 1000000) : nI a ≠ -1 := fun e => nI_pos (n := a) (by omega) (by rw [e]; decide)
section Q3
variable {n : Nat} {s : St} {x y : Int32}
/-- the model's loop for the next lot -/
theorem m_dnext {m it : Nat} {w : mmM} {K : mmO → mmM → Prop} {day : Int32} (hn : m ≤ 24) (hs : w 81 8 = nI m) (ho : ∀ k, k < m → ∃ o, o < 24 ∧ w 118 k = nI o) (l4 : Value)
    (g1 : sFirst (w 118) (w 90) (w 91) (w 117) (nI it) day m = none → K (.inl (some (.int 0))) (mm_up w 81 26 2)) (g2 : ∀ k, k < m → sFirst (w 118) (w 90) (w 91) (w 117) (nI it) day m = some k → K (.inl (some (.int (w 118 k)))) w) :
    mm_E kX6_nextLot 21 [.ref 81, .int (nI it), .int day, .int (nI 0), l4] [] w 0 K := by
  have : ∀ l4 : Value, mm_E kX6_nextLot 21 [.ref 81, .int (nI it), .int day, .int (nI 0), l4] [] w 0 K := by
    refine e_find (n := m) (c := cFirst (w 118) (w 90) (w 91) (w 117) (nI it) day) (E := fun i => ∀ l4 : Value, mm_E kX6_nextLot 21 [.ref 81, .int (nI it), .int day, .int (nI i), l4] [] w 0 K) ?_ ?_ ?_
    · intro i hi hc ih l4
      obtain ⟨o, ho1, ho2⟩ := ho i hi
      unfold cFirst at hc
      rw [ho2, cl_nI (by omega)] at hc
      have hc := of_decide_eq_false hc
      have a1 := in_nI ho1 (show 24 < 1000000 by decide)
      refine bX6_nextLot_21 (fun h => absurd (hs ▸ h) (ge_nI hi (by omega))) (fun _ => ?_)
      refine bX6_nextLot_29 (in_nI (by omega) (by decide)) (by rw [cl_nI (by omega), ho2]; exact a1) (fun h => ?_) (fun h => ?_) <;> rw [cl_nI (i := i) (by omega), ho2, cl_nI (by omega)] at h <;> rw [cl_nI (i := i) (by omega), ho2]
      · refine bX6_nextLot_48 a1 (fun h2 => ?_) (fun h2 => ?_) <;> rw [cl_nI (by omega)] at h2
        · refine bX6_nextLot_72 ?_
          rw [nI_1]
          exact ih _
        · refine bX6_nextLot_59 a1 (fun h3 => ?_) (fun h3 => ?_) <;> rw [cl_nI (by omega)] at h3
          · refine bX6_nextLot_72 ?_
            rw [nI_1]
            exact ih _
          · exact absurd ⟨h, i32_nlt.mp h2, i32_nle.mp h3⟩ hc
      · refine bX6_nextLot_72 ?_
        rw [nI_1]
        exact ih _
    · intro i hi hc _ hres l4
      have hg := g2 i hi hres
      obtain ⟨o, ho1, ho2⟩ := ho i hi
      unfold cFirst at hc
      rw [ho2, cl_nI (by omega)] at hc
      have hc := of_decide_eq_true hc
      have a1 := in_nI ho1 (show 24 < 1000000 by decide)
      rw [ho2] at hg
      refine bX6_nextLot_21 (fun h => absurd (hs ▸ h) (ge_nI hi (by omega))) (fun _ => ?_)
      refine bX6_nextLot_29 (in_nI (by omega) (by decide)) (by rw [cl_nI (by omega), ho2]; exact a1) (fun h => ?_) (fun h => ?_) <;> rw [cl_nI (i := i) (by omega), ho2, cl_nI (by omega)] at h <;> rw [cl_nI (i := i) (by omega), ho2]
      · refine bX6_nextLot_48 a1 (fun h2 => ?_) (fun h2 => ?_) <;> rw [cl_nI (by omega)] at h2
        · exact absurd hc.2.1 (i32_nle.mpr h2)
        · refine bX6_nextLot_59 a1 (fun h3 => ?_) (fun h3 => bX6_nextLot_69 hg)
          rw [cl_nI (by omega)] at h3
          exact absurd hc.2.2 (i32_nlt.mpr h3)
      · exact absurd hc.1 h
    · intro hres l4
      refine bX6_nextLot_21 (fun _ => bX6_nextLot_78 (by decide) (m_raises (mm_Kr 0 rfl (bX6_nextLot_83 (g1 hres))))) (fun h => absurd (hs ▸ le_nI (Nat.le_refl m) (by omega)) h)
  exact this l4
theorem op_nextLot (h : Inv n s) : Op kX5_nextLot kX6_nextLot kL_nextLot n [.int x, .int y] s := by
  have hb := h.ni_
  have hl := h.nl_
  rcases is_or x s.ni with ⟨i, hi, e⟩ | hx
  · subst e
    have hoC : ∀ {w}, RepC w s → ∀ k, k < s.nl → ∃ o, o < 24 ∧ w 18 k = nI o := fun hw k hk => ⟨s.od k, by have := h.od_ k hk; omega, by rw [hw.od]⟩
    have hoM : ∀ {w}, RepM w s → ∀ k, k < s.nl → ∃ o, o < 24 ∧ w 118 k = nI o := fun hw k hk => ⟨s.od k, by have := h.od_ k hk; omega, by rw [hw.od]⟩
    cases hF : sFirst (fun l => nI (s.od l)) (fun l => nI (s.it l)) (fun l => nI (s.ex l)) (fun l => nI (s.lu l)) (nI i) y s.nl with
    | none =>
      refine Op.no 2 4 h (by decide) (by decide) (fun w hw K hK => ?_) (fun r w hw K hK => ?_)
      · refine bX5_nextLot_0 (by decide) (k_rItem hb hw.ni hi (mm_Kv 1 rfl ?_))
        refine bX5_nextLot_5 (by decide) (m_firstLot hl hw.nl (hoC hw) (mm_Kr 1 rfl ?_))
        rw [hw.od, hw.it, hw.ex, hw.lu, hF]
        exact bX5_nextLot_14 (fun _ => bX5_nextLot_20 (by decide) (hK _ hw fC.rfl)) (fun h => absurd rfl h)
      · refine bX6_nextLot_0 (by decide) (k_isItem hb hw.ni hi (mm_Kr 0 rfl ?_))
        refine bX6_nextLot_5 (fun h => absurd h (by decide)) (fun _ => bX6_nextLot_14 ?_)
        refine m_dnext hl hw.th.nl (hoM hw.th) _ (fun _ => hK _ _ hw.th.th (fM.th.tr fM.th) th_at (fun h => absurd h (by decide))) (fun k hk q => ?_)
        rw [hw.th.od, hw.th.it, hw.th.ex, hw.th.lu, hF] at q
        cases q
    | some k =>
      have hk : k < s.nl := by have := (ffr_lt hF).1; omega
      refine Op.ok s (nI (s.od k)) h (fun w hw K hK => ?_) (fun w hw K hK => ?_)
      · refine bX5_nextLot_0 (by decide) (k_rItem hb hw.ni hi (mm_Kv 1 rfl ?_))
        refine bX5_nextLot_5 (by decide) (m_firstLot hl hw.nl (hoC hw) (mm_Kr 1 rfl ?_))
        rw [hw.od, hw.it, hw.ex, hw.lu, hF]
        exact bX5_nextLot_14 (fun q => absurd q (nI_m1 (by have := h.od_ k hk; omega))) (fun _ => bX5_nextLot_30 (hK _ hw fC.rfl))
      · refine bX6_nextLot_0 (by decide) (k_isItem hb hw.ni hi (mm_Kr 0 rfl ?_))
        refine bX6_nextLot_5 (fun h => absurd h (by decide)) (fun _ => bX6_nextLot_14 ?_)
        refine m_dnext hl hw.th.nl (hoM hw.th) _ (fun q => ?_) (fun k2 hk2 q => ?_)
        · rw [hw.th.od, hw.th.it, hw.th.ex, hw.th.lu, hF] at q
          cases q
        · have q' := q
          rw [hw.th.od, hw.th.it, hw.th.ex, hw.th.lu, hF] at q'
          cases q'
          rw [hw.th.od]
          exact hK _ _ hw.th fM.th th_at (fun _ => rfl)
  · refine Op.no 1 2 h (by decide) (by decide) (fun w hw K hK => ?_) (fun r w hw K hK => ?_)
    · exact bX5_nextLot_0 (by decide) (k_nItem hb hw.ni hx (mm_Kx rfl (hK _ hw fC.rfl)))
    · refine bX6_nextLot_0 (by decide) (k_noItem hb hw.ni hx (mm_Kr 0 rfl ?_))
      refine bX6_nextLot_5 (fun _ => bX6_nextLot_8 (by decide) (m_raises (mm_Kr 0 rfl (bX6_nextLot_13 ?_)))) (fun h => absurd rfl h)
      exact hK _ _ hw.th fM.th th_at (fun h => absurd h (by decide))
/-- the model's sum: of what is not expired, of what is -/
theorem m_sum0 {m : Nat} {w : mmM} {K : mmO → mmM → Prop} {it : Int32} (hn : m ≤ 24) (hs : w 81 8 = nI m) (ht : w 81 26 = 0) (g : K (.inl (some (.int (sFrom (w 90) (w 91) (w 117) it (w 81 25) m)))) w) : mm_E kX6_sum 22 [.ref 81, .int it, .int 0, .int 0, .int 0] [] w 0 K := by
  refine e_for0 (n := m) (E := fun i a => mm_E kX6_sum 22 [.ref 81, .int it, .int 0, .int a, .int (nI i)] [] w 0 K) (f := fun l a => if w 90 l = it ∧ w 81 25 ≤ w 91 l then a + w 117 l else a) ?_ ?_
  · intro i a hi ih
    have a1 := in_nI (show i < 24 by omega) (by decide)
    refine bX6_sum_22 (fun h => absurd (hs ▸ h) (ge_nI hi (by omega))) (fun _ => bX6_sum_31 (fun _ => ?_) (fun h => absurd ht h))
    refine bX6_sum_38 a1 (fun h => ?_) (fun h => ?_) <;> rw [cl_nI (by omega)] at h
    · refine bX6_sum_50 a1 (fun h2 => ?_) (fun h2 => ?_) <;> rw [cl_nI (by omega)] at h2
      · refine bX6_sum_68 (bX6_sum_69 (fun _ => bX6_sum_73 a1 (bX6_sum_84 ?_)) (fun h => absurd rfl h))
        rw [nI_1, cl_nI (by omega)]
        rw [if_pos ⟨h, h2⟩] at ih
        exact ih
      · refine bX6_sum_64 (bX6_sum_69 (fun h => absurd h (by decide)) (fun _ => bX6_sum_83 (bX6_sum_84 ?_)))
        rw [nI_1, Int32.add_zero]
        rw [if_neg (fun q => h2 q.2)] at ih
        exact ih
    · refine bX6_sum_83 (bX6_sum_84 ?_)
      rw [nI_1, Int32.add_zero]
      rw [if_neg (fun q => h q.1)] at ih
      exact ih
  · exact bX6_sum_22 (fun _ => bX6_sum_92 g) (fun h => absurd (hs ▸ le_nI (Nat.le_refl m) (by omega)) h)
theorem m_sum1 {m : Nat} {w : mmM} {K : mmO → mmM → Prop} {it : Int32} (hn : m ≤ 24) (hs : w 81 8 = nI m) (ht : w 81 26 = 0) (g : K (.inl (some (.int (sBefore (w 90) (w 91) (w 117) it (w 81 25) m)))) w) : mm_E kX6_sum 22 [.ref 81, .int it, .int 1, .int 0, .int 0] [] w 0 K := by
  refine e_for0 (n := m) (E := fun i a => mm_E kX6_sum 22 [.ref 81, .int it, .int 1, .int a, .int (nI i)] [] w 0 K) (f := fun l a => if w 90 l = it ∧ w 91 l < w 81 25 then a + w 117 l else a) ?_ ?_
  · intro i a hi ih
    have a1 := in_nI (show i < 24 by omega) (by decide)
    refine bX6_sum_22 (fun h => absurd (hs ▸ h) (ge_nI hi (by omega))) (fun _ => bX6_sum_31 (fun _ => ?_) (fun h => absurd ht h))
    refine bX6_sum_38 a1 (fun h => ?_) (fun h => ?_) <;> rw [cl_nI (by omega)] at h
    · refine bX6_sum_50 a1 (fun h2 => ?_) (fun h2 => ?_) <;> rw [cl_nI (by omega)] at h2
      · refine bX6_sum_68 (bX6_sum_69 (fun h => absurd h (by decide)) (fun _ => bX6_sum_83 (bX6_sum_84 ?_)))
        rw [nI_1, Int32.add_zero]
        rw [if_neg (fun q => i32_nlt.mpr h2 q.2)] at ih
        exact ih
      · refine bX6_sum_64 (bX6_sum_69 (fun _ => bX6_sum_73 a1 (bX6_sum_84 ?_)) (fun h => absurd rfl h))
        rw [nI_1, cl_nI (by omega)]
        rw [if_pos ⟨h, i32_nle.mp h2⟩] at ih
        exact ih
    · refine bX6_sum_83 (bX6_sum_84 ?_)
      rw [nI_1, Int32.add_zero]
      rw [if_neg (fun q => h q.1)] at ih
      exact ih
  · exact bX6_sum_22 (fun _ => bX6_sum_92 g) (fun h => absurd (hs ▸ le_nI (Nat.le_refl m) (by omega)) h)
/-- thrown is 1: the sum ends at once -/
theorem m_sumX {m : Nat} {w : mmM} {K : mmO → mmM → Prop} {it z : Int32} (hs : w 81 8 = nI m) (ht : w 81 26 = 1) (g : K (.inl (some (.int 0))) w) : mm_E kX6_sum 22 [.ref 81, .int it, .int z, .int 0, .int 0] [] w 0 K :=
  bX6_sum_22 (fun _ => bX6_sum_92 g) (fun _ => bX6_sum_31 (fun h => absurd (ht.symm.trans h) (by decide)) (fun _ => bX6_sum_92 g))
theorem op_onHand (h : Inv n s) : Op kX5_onHand kX6_onHand kL_onHand n [.int x] s := by
  have hb := h.ni_
  have hl := h.nl_
  rcases is_or x s.ni with ⟨i, hi, e⟩ | hx
  · subst e
    refine Op.ok s (sFrom (fun l => nI (s.it l)) (fun l => nI (s.ex l)) (fun l => nI (s.lu l)) (nI i) (nI s.td) s.nl) h (fun w hw K hK => ?_) (fun w hw K hK => ?_)
    · refine bX5_onHand_0 (by decide) (k_rItem hb hw.ni hi (mm_Kv 1 rfl ?_))
      refine bX5_onHand_5 (by decide) (m_unitsFrom hl hw.nl (mm_Kr 1 rfl (bX5_onHand_17 ?_)))
      rw [hw.it, hw.ex, hw.lu, hw.td]
      exact hK _ hw fC.rfl
    · refine bX6_onHand_0 (by decide) (bX6_sum_0 (by decide) (k_isItem hb hw.ni hi (mm_Kr 0 rfl ?_)))
      refine bX6_sum_6 (fun h => absurd h (by decide)) (fun _ => bX6_sum_9 (bX6_sum_14 (m_sum0 hl hw.th.nl th_at (mm_Kr 0 rfl (bX6_onHand_6 ?_)))))
      rw [hw.th.it, hw.th.ex, hw.th.lu, hw.th.td]
      exact hK _ _ hw.th fM.th th_at (fun _ => rfl)
  · refine Op.no 1 2 h (by decide) (by decide) (fun w hw K hK => ?_) (fun r w hw K hK => ?_)
    · exact bX5_onHand_0 (by decide) (k_nItem hb hw.ni hx (mm_Kx rfl (hK _ hw fC.rfl)))
    · refine bX6_onHand_0 (by decide) (bX6_sum_0 (by decide) (k_noItem hb hw.ni hx (mm_Kr 0 rfl ?_)))
      refine bX6_sum_6 (fun _ => bX6_sum_13 (bX6_sum_14 (m_sumX hw.th.nl th_at (mm_Kr 0 rfl (bX6_onHand_6 ?_))))) (fun h => absurd rfl h)
      exact hK _ _ hw.th fM.th th_at (fun h => absurd h (by decide))
theorem op_expired (h : Inv n s) : Op kX5_expired kX6_expired kL_expired n [.int x] s := by
  have hb := h.ni_
  have hl := h.nl_
  rcases is_or x s.ni with ⟨i, hi, e⟩ | hx
  · subst e
    refine Op.ok s (sBefore (fun l => nI (s.it l)) (fun l => nI (s.ex l)) (fun l => nI (s.lu l)) (nI i) (nI s.td) s.nl) h (fun w hw K hK => ?_) (fun w hw K hK => ?_)
    · refine bX5_expired_0 (by decide) (k_rItem hb hw.ni hi (mm_Kv 1 rfl ?_))
      refine bX5_expired_5 (by decide) (m_unitsBefore hl hw.nl (mm_Kr 1 rfl (bX5_expired_17 ?_)))
      rw [hw.it, hw.ex, hw.lu, hw.td]
      exact hK _ hw fC.rfl
    · refine bX6_expired_0 (by decide) (bX6_sum_0 (by decide) (k_isItem hb hw.ni hi (mm_Kr 0 rfl ?_)))
      refine bX6_sum_6 (fun h => absurd h (by decide)) (fun _ => bX6_sum_9 (bX6_sum_14 (m_sum1 hl hw.th.nl th_at (mm_Kr 0 rfl (bX6_expired_6 ?_)))))
      rw [hw.th.it, hw.th.ex, hw.th.lu, hw.th.td]
      exact hK _ _ hw.th fM.th th_at (fun _ => rfl)
  · refine Op.no 1 2 h (by decide) (by decide) (fun w hw K hK => ?_) (fun r w hw K hK => ?_)
    · exact bX5_expired_0 (by decide) (k_nItem hb hw.ni hx (mm_Kx rfl (hK _ hw fC.rfl)))
    · refine bX6_expired_0 (by decide) (bX6_sum_0 (by decide) (k_noItem hb hw.ni hx (mm_Kr 0 rfl ?_)))
      refine bX6_sum_6 (fun _ => bX6_sum_13 (bX6_sum_14 (m_sumX hw.th.nl th_at (mm_Kr 0 rfl (bX6_expired_6 ?_))))) (fun h => absurd rfl h)
      exact hK _ _ hw.th fM.th th_at (fun h => absurd h (by decide))
end Q3
