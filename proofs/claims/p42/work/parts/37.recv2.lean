/-! receive: both walks -/
section RW
variable {n : Nat} {s : St} {x y z u : Int32}
theorem b24 : (24 : Int32) = nI 24 := rfl
theorem b99 : (99 : Int32) = nI 99 := rfl
theorem St.set_comm {s : St} {k k2 : Nat} {g g2 : Nat → Nat → Nat} (h : k ≠ k2) : (s.set k g).set k2 g2 = (s.set k2 g2).set k g := by
  funext i
  unfold St.set
  by_cases h1 : i = k2
  · rw [if_pos h1, if_neg (by omega), if_pos h1]
  · rw [if_neg h1]
    by_cases h2 : i = k
    · rw [if_pos h2, if_pos h2]
    · rw [if_neg h2, if_neg h2, if_neg h1]
theorem op_receive (h : Inv n s) : Op kX5_receive kL_receives n [.int x, .int y, .int z, .int u] s (XJ s) := by
  have hni := h.ni_; have hl := h.nl_; have hne := h.ne_; have htd := h.td_; have hnn := h.n_
  rcases is_or x s.ni with ⟨i, hi, e⟩ | hx
  rotate_left
  · refine Op.no 2 h (by decide) (fun w hw K hK => ?_)
    · exact bX5_receive_0 (by decide) (k_nItem hni hw.ni hx (mm_Kx rfl (hK _ hw fC.rfl)))
  subst e
  rcases is_or u 40 with ⟨b, hb, e⟩ | hu
  rotate_left
  · refine Op.no 2 h (by decide) (fun w hw K hK => ?_)
    · exact bX5_receive_0 (by decide) (k_rItem hni hw.ni hi (mm_Kv 1 rfl (bX5_receive_5 (by decide) (k_nBin hu (mm_Kx rfl (hK _ hw fC.rfl))))))
  subst e
  have c1 : ∀ {w} {K : mmO → mmM → Prop}, RepC w s → mm_M kX5_requireBetween [.ref 0, .int y, .int (nI 1), .int (nI 30)] w (mm_Kc kX5_receive 19 [.ref 0, .int (nI i), .int y, .int z, .int (nI b), .retAddr 0] [] (2 + mm_mc kX5_requireBetween) K) → mm_M kX5_receive [.ref 0, .int (nI i), .int y, .int z, .int (nI b)] w K := fun hw g =>
    bX5_receive_0 (by decide) (k_rItem hni hw.ni hi (mm_Kv 1 rfl (bX5_receive_5 (by decide) (k_rBin hb (mm_Kv 2 rfl (bX5_receive_11 (by decide) g))))))
  by_cases hy : bt 1 30 y
  rotate_left
  · refine Op.no 0 h (by decide) (fun w hw K hK => c1 hw (k_nbt (by decide) (by decide) hy (mm_Kx rfl (hK _ hw fC.rfl))))
  obtain ⟨q, hq1, hq2, e⟩ := hy
  subst e
  have c2 : ∀ {w} {K : mmO → mmM → Prop}, RepC w s → mm_M kX5_requireBetween [.ref 0, .int z, .int (nI s.td), .int (nI (s.td + 99))] w (mm_Kc kX5_receive 35 [.ref 0, .int (nI i), .int (nI q), .int z, .int (nI b), .retAddr 0] [] (3 + mm_mc kX5_requireBetween) K) → mm_M kX5_receive [.ref 0, .int (nI i), .int (nI q), .int z, .int (nI b)] w K := fun hw g => c1 hw (k_bt (by decide) (by decide) ⟨q, hq1, hq2, rfl⟩ (mm_Kv 3 rfl (bX5_receive_19 (by decide) (by rw [hw.td, b99, nI_add]; exact g))))
  by_cases hz : bt s.td (s.td + 99) z
  rotate_left
  · refine Op.no 0 h (by decide) (fun w hw K hK => c2 hw (k_nbt (by omega) (by omega) hz (mm_Kx rfl (hK _ hw fC.rfl))))
  obtain ⟨e, he1, he2, e0⟩ := hz
  subst e0
  have c3 : ∀ {w} {K : mmO → mmM → Prop}, RepC w s → mm_E kX5_receive 35 [.ref 0, .int (nI i), .int (nI q), .int (nI e), .int (nI b), .retAddr 0] [] w 4 K → mm_M kX5_receive [.ref 0, .int (nI i), .int (nI q), .int (nI e), .int (nI b)] w K := fun hw g => c2 hw (k_bt (by omega) (by omega) ⟨e, he1, he2, rfl⟩ (mm_Kv 4 rfl g))
  by_cases hn : s.nl = 24
  · refine Op.no 1 h (by decide) (fun w hw K hK => c3 hw (bX5_receive_35 (fun q => ?_) (fun _ => bX5_receive_47 (by decide) (hK _ hw fC.rfl))))
    · rw [hw.nl, hn] at q
      exact absurd q (by decide)
  have c4 : ∀ {w} {K : mmO → mmM → Prop}, RepC w s → mm_M kX5_requireEntrySpace [.ref 0, .int (nI 1)] w (mm_Kc kX5_receive 62 [.ref 0, .int (nI i), .int (nI q), .int (nI e), .int (nI b), .retAddr 0] [] (4 + mm_mc kX5_requireEntrySpace) K) → mm_M kX5_receive [.ref 0, .int (nI i), .int (nI q), .int (nI e), .int (nI b)] w K := fun hw g => c3 hw (bX5_receive_35 (fun _ => bX5_receive_57 (by decide) g) (fun q => by rw [hw.nl, b24, nI_lti (by omega) (by omega)] at q; exact absurd q (by omega)))
  by_cases hne2 : s.ne = 150
  · refine Op.no 1 h (by decide) (fun w hw K hK => c4 hw (m_rEntrySpace hne (by omega) hw.ne (fun _ => mm_Kx rfl (hK _ hw fC.rfl)) (fun q => absurd q (by omega))))
  have c5 : ∀ {w} {K : mmO → mmM → Prop}, RepC w s → mm_M kX5_requireBinSpace [.ref 0, .int (nI b), .int (nI q)] w (mm_Kc kX5_receive 69 [.ref 0, .int (nI i), .int (nI q), .int (nI e), .int (nI b), .retAddr 0] [] (5 + mm_mc kX5_requireBinSpace) K) → mm_M kX5_receive [.ref 0, .int (nI i), .int (nI q), .int (nI e), .int (nI b)] w K := fun hw g => c4 hw (m_rEntrySpace hne (by omega) hw.ne (fun q => absurd q (by omega)) (fun _ => mm_Kv 5 rfl (bX5_receive_62 (by decide) g)))
  have hbl := h.bl_ b hb
  by_cases hsp : s.bl b + q ≤ 30
  rotate_left
  · refine Op.no 3 h (by decide) (fun w hw K hK => c5 hw (m_rBinSpace hb (fun _ => mm_Kx rfl (hK _ hw fC.rfl)) (fun z => ?_)))
    · rw [hw.bl, nI_add, b30, nI_lei (by omega) (by omega)] at z
      exact absurd z hsp
  have hod : ∀ k, k < s.nl → s.od k < 1000000 ∧ s.ex (s.od k) < 1000000 := fun k hk => by
    have h1 := h.od_ k hk
    have h2 := h.ex_ _ h1
    exact ⟨by omega, by omega⟩
  have hun0 : s.un s.nl b = 0 := h.un_ s.nl b (Nat.le_refl _)
  have hd1 : nI ((s.lot i e).un s.nl b) + nI q = nI q := by
    show nI (s.un s.nl b) + nI q = nI q
    rw [hun0, nI_add, Nat.zero_add]
  refine Op.ok (s.rcv i e b q) (nI s.nl) (rcv_I h hi (by omega) hb hq2 (by omega) (by omega) hsp) ⟨nI_nn (by omega), rfl, fun hj => hj.rcv (fun p hp hs => (h.pk_ p hp hs).2.1)⟩ (fun w hw K hK => c5 hw (m_rBinSpace hb (fun z => ?_) (fun _ => mm_Kv 6 rfl ?_)))
  · rw [hw.bl, nI_add, b30, nI_lei (by omega) (by omega)] at z
    exact absurd hsp z
  · refine bX5_receive_69 (by decide) (m_appendLot (n := s.nl) (by omega) hw.nl (fun j hj => ⟨s.od j, by have := h.od_ j hj; omega, by rw [hw.od]⟩) (mm_Kr 6 rfl ?_))
    have eo : sOrd (upd (w 17) s.nl (nI e)) (nI e) s.nl (w 18) = fun k => nI (ordN s.ex e s.nl s.od k) := by
      unfold sOrd
      rw [hw.ex, upd_nI, hw.od]
      have hc : ∀ k, k < s.nl → updN s.ex s.nl e (s.od k) = s.ex (s.od k) := fun k hk => updN_ne (by have := h.od_ k hk; omega)
      rw [sIns_nI (ex := updN s.ex s.nl e) (by omega) s.nl s.od (fun k hk => by rw [hc k hk]; exact hod k hk)]
      show upd (fun k => nI ((insN (updN s.ex s.nl e) e s.nl s.od).2 k)) (insN (updN s.ex s.nl e) e s.nl s.od).1 (nI s.nl) = _
      rw [upd_nI, insN_cong s.nl s.od hc]
      rfl
    rw [eo]
    have w1 : RepC (mm_up (mm_rw (mm_up (mm_up w 16 s.nl (nI i)) 17 s.nl (nI e)) 18 (fun k => nI (ordN s.ex e s.nl s.od k))) 2 0 (nI (s.nl + 1))) (s.lot i e) := by
      refine hw.c_nl_it_ex_od (fun a ha => ?_) mm_up_same ?_ ?_ ?_
      · rw [mm_up_row (by omega), rw_ne (by omega), mm_up_row (by omega), mm_up_row (by omega)]
      · rw [mm_up_row (by decide), rw_ne (by decide), mm_up_row (by decide)]
        exact row_nI hw.it
      · rw [mm_up_row (by decide), rw_ne (by decide)]
        exact row_nI (by rw [mm_up_row (by decide)]; exact hw.ex)
      · rw [mm_up_row (by decide), rw_at]
    have f1 : fC w (mm_up (mm_rw (mm_up (mm_up w 16 s.nl (nI i)) 17 s.nl (nI e)) 18 (fun k => nI (ordN s.ex e s.nl s.od k))) 2 0 (nI (s.nl + 1))) := fun a ha => by rw [mm_up_row (by omega), rw_ne (by omega), mm_up_row (by omega), mm_up_row (by omega)]
    generalize mm_up (mm_rw (mm_up (mm_up w 16 s.nl (nI i)) 17 s.nl (nI e)) 18 (fun k => nI (ordN s.ex e s.nl s.od k))) 2 0 (nI (s.nl + 1)) = wm at w1 f1 ⊢
    have w2 := w1.ch (l := s.nl) (b := b) (x := q) (by omega) hb hd1
    have w3 := RepC.wr (kd := 114) (l := s.nl) (f := 0) (t := b + 1) (q := q) w2
    refine bX5_receive_78 (by decide) (m_change (by omega) hb (mm_Kv 6 rfl (bX5_receive_92 (by decide) ?_)))
    rw [w2.td]
    refine m_write (n := s.ne) (by omega) w2.ne (by decide) (mm_Kv 6 rfl (bX5_receive_111 ?_))
    rw [nI_pred] at w3
    exact hK _ w3 (f1.tr ((cCh_fC (by omega)).tr cWr_fC))
end RW
