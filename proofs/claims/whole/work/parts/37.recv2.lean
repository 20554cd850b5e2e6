/-! receive: both walks -/
section RW
variable {n : Nat} {s : St} {x y z u : Int32}
theorem b24 : (24 : Int32) = nI 24 := rfl
theorem b99 : (99 : Int32) = nI 99 := rfl
/-- the model's loop that shifts the order -/
theorem m_dins {w : mmM} {K : mmO → mmM → Prop} {item q : Int32} {m e bn : Nat} (hm : m < 24) (he : e < 1000000) {ex : Nat → Nat} (hex : w 91 = fun l => nI (ex l)) : ∀ (p : Nat) (od : Nat → Nat), p ≤ m → (∀ k, k < p → od k < 24 ∧ ex (od k) < 1000000) →
    mm_E kX6_receive 156 [.ref 81, .int item, .int q, .int (nI e), .int (nI bn), .int (nI (insN ex e p od).1)] [] (mm_rw w 118 (fun k => nI ((insN ex e p od).2 k))) 0 K →
    mm_E kX6_receive 111 [.ref 81, .int item, .int q, .int (nI e), .int (nI bn), .int (nI p)] [] (mm_rw w 118 (fun k => nI (od k))) 0 K
  | 0, od, _, _, g => bX6_receive_111 (fun _ => g) (fun h => absurd (le_nI (Nat.le_refl 0) (by decide)) h)
  | p + 1, od, hp, ho, g => by
    obtain ⟨o1, o2⟩ := ho p (by omega)
    have e1 : nI (p + 1) - 1 = nI p := nI_pred p
    have e2 : mm_rw w 118 (fun k => nI (od k)) 118 p = nI (od p) := by rw [rw_at]
    refine bX6_receive_111 (fun h => absurd h (nI_nle (by omega) (by omega))) (fun _ => ?_)
    refine bX6_receive_116 (by rw [e1]; exact in_nI (by omega) (by decide)) (by rw [e1, cl_nI (by omega), e2]; exact in_nI o1 (by decide)) (fun h => ?_) (fun h => ?_) <;> rw [e1, cl_nI (i := p) (by omega), e2, cl_nI (by omega), rw_ne (by decide), hex, nI_lei o2 he] at h
    · rw [show insN ex e (p + 1) od = (p + 1, od) from if_pos h] at g
      exact g
    · rw [show insN ex e (p + 1) od = insN ex e p (updN od (p + 1) (od p)) from if_neg h] at g
      refine bX6_receive_134 (by rw [e1]; exact in_nI (by omega) (by decide)) (in_nI (by omega) (by decide)) ?_
      rw [e1, cl_nI (i := p) (by omega), cl_nI (i := p + 1) (by omega), e2, up_of_rw, pk_m1]
      rw [upd_nI]
      refine m_dins hm he hex p _ (by omega) (fun j hj => ?_) g
      rw [updN_ne (by omega)]
      exact ho j (by omega)
theorem St.set_comm {s : St} {k k2 : Nat} {g g2 : Nat → Nat → Nat} (h : k ≠ k2) : (s.set k g).set k2 g2 = (s.set k2 g2).set k g := by
  funext i
  unfold St.set
  by_cases h1 : i = k2
  · rw [if_pos h1, if_neg (by omega), if_pos h1]
  · rw [if_neg h1]
    by_cases h2 : i = k
    · rw [if_pos h2, if_pos h2]
    · rw [if_neg h2, if_neg h2, if_neg h1]
theorem op_receive (h : Inv n s) : Op kX5_receive kX6_receive kL_receive n [.int x, .int y, .int z, .int u] s := by
  have hni := h.ni_; have hl := h.nl_; have hne := h.ne_; have htd := h.td_; have hnn := h.n_
  rcases is_or x s.ni with ⟨i, hi, e⟩ | hx
  rotate_left
  · refine Op.no 1 2 h (by decide) (by decide) (fun w hw K hK => ?_) (fun r w hw K hK => ?_)
    · exact bX5_receive_0 (by decide) (k_nItem hni hw.ni hx (mm_Kx rfl (hK _ hw fC.rfl)))
    · refine bX6_receive_0 (by decide) (k_noItem hni hw.ni hx (mm_Kr 0 rfl (bX6_receive_5 (fun _ => bX6_receive_16 (by decide) (m_raises (mm_Kr 0 rfl (bX6_receive_21 ?_)))) (fun h => absurd rfl h))))
      exact hK _ _ hw.th fM.th th_at (fun h => absurd h (by decide))
  subst e
  rcases is_or u 40 with ⟨b, hb, e⟩ | hu
  rotate_left
  · refine Op.no 1 2 h (by decide) (by decide) (fun w hw K hK => ?_) (fun r w hw K hK => ?_)
    · exact bX5_receive_0 (by decide) (k_rItem hni hw.ni hi (mm_Kv 1 rfl (bX5_receive_5 (by decide) (k_nBin hu (mm_Kx rfl (hK _ hw fC.rfl))))))
    · refine bX6_receive_0 (by decide) (k_isItem hni hw.ni hi (mm_Kr 0 rfl (bX6_receive_5 (fun h => absurd h (by decide)) (fun _ => bX6_receive_8 (by decide) (k_noBin hu (mm_Kr 0 rfl (bX6_receive_13 (fun _ => bX6_receive_16 (by decide) (m_raises (mm_Kr 0 rfl (bX6_receive_21 ?_)))) (fun h => absurd rfl h))))))))
      exact hK _ _ hw.th fM.th th_at (fun h => absurd h (by decide))
  subst e
  have c1 : ∀ {w} {K : mmO → mmM → Prop}, RepC w s → mm_M kX5_requireBetween [.ref 0, .int y, .int (nI 1), .int (nI 30)] w (mm_Kc kX5_receive 19 [.ref 0, .int (nI i), .int y, .int z, .int (nI b), .retAddr 0] [] (2 + mm_mc kX5_requireBetween) K) → mm_M kX5_receive [.ref 0, .int (nI i), .int y, .int z, .int (nI b)] w K := fun hw g =>
    bX5_receive_0 (by decide) (k_rItem hni hw.ni hi (mm_Kv 1 rfl (bX5_receive_5 (by decide) (k_rBin hb (mm_Kv 2 rfl (bX5_receive_11 (by decide) g))))))
  have d1 : ∀ {w} {K : mmO → mmM → Prop}, RepM w s → mm_M kX6_in [.int y, .int (nI 1), .int (nI 30)] w (mm_Kc kX6_receive 29 [.ref 81, .int (nI i), .int y, .int z, .int (nI b), .retAddr 0] [] (0 + mm_mc kX6_in) K) → mm_M kX6_receive [.ref 81, .int (nI i), .int y, .int z, .int (nI b)] w K := fun hw g =>
    bX6_receive_0 (by decide) (k_isItem hni hw.ni hi (mm_Kr 0 rfl (bX6_receive_5 (fun h => absurd h (by decide)) (fun _ => bX6_receive_8 (by decide) (k_isBin hb (mm_Kr 0 rfl (bX6_receive_13 (fun h => absurd h (by decide)) (fun _ => bX6_receive_22 (by decide) g))))))))
  by_cases hy : bt 1 30 y
  rotate_left
  · refine Op.no 2 0 h (by decide) (by decide) (fun w hw K hK => c1 hw (k_nbt (by decide) (by decide) hy (mm_Kx rfl (hK _ hw fC.rfl)))) (fun r w hw K hK => d1 hw (k_nin (by decide) (by decide) hy (mm_Kr 0 rfl (bX6_receive_29 (fun _ => bX6_receive_50 (by decide) (m_raises (mm_Kr 0 rfl (bX6_receive_55 ?_)))) (fun h => absurd rfl h)))))
    exact hK _ _ hw.th fM.th th_at (fun h => absurd h (by decide))
  obtain ⟨q, hq1, hq2, e⟩ := hy
  subst e
  have c2 : ∀ {w} {K : mmO → mmM → Prop}, RepC w s → mm_M kX5_requireBetween [.ref 0, .int z, .int (nI s.td), .int (nI (s.td + 99))] w (mm_Kc kX5_receive 35 [.ref 0, .int (nI i), .int (nI q), .int z, .int (nI b), .retAddr 0] [] (3 + mm_mc kX5_requireBetween) K) → mm_M kX5_receive [.ref 0, .int (nI i), .int (nI q), .int z, .int (nI b)] w K := fun hw g => c1 hw (k_bt (by decide) (by decide) ⟨q, hq1, hq2, rfl⟩ (mm_Kv 3 rfl (bX5_receive_19 (by decide) (by rw [hw.td, b99, nI_add]; exact g))))
  have d2 : ∀ {w} {K : mmO → mmM → Prop}, RepM w s → mm_M kX6_in [.int z, .int (nI s.td), .int (nI (s.td + 99))] w (mm_Kc kX6_receive 47 [.ref 81, .int (nI i), .int (nI q), .int z, .int (nI b), .retAddr 0] [] (0 + mm_mc kX6_in) K) → mm_M kX6_receive [.ref 81, .int (nI i), .int (nI q), .int z, .int (nI b)] w K := fun hw g => d1 hw (k_in (by decide) (by decide) ⟨q, hq1, hq2, rfl⟩ (mm_Kr 0 rfl (bX6_receive_29 (fun h => absurd h (by decide)) (fun _ => bX6_receive_32 (by decide) (by rw [hw.td, b99, nI_add]; exact g)))))
  by_cases hz : bt s.td (s.td + 99) z
  rotate_left
  · refine Op.no 2 0 h (by decide) (by decide) (fun w hw K hK => c2 hw (k_nbt (by omega) (by omega) hz (mm_Kx rfl (hK _ hw fC.rfl)))) (fun r w hw K hK => d2 hw (k_nin (by omega) (by omega) hz (mm_Kr 0 rfl (bX6_receive_47 (fun _ => bX6_receive_50 (by decide) (m_raises (mm_Kr 0 rfl (bX6_receive_55 ?_)))) (fun h => absurd rfl h)))))
    exact hK _ _ hw.th fM.th th_at (fun h => absurd h (by decide))
  obtain ⟨e, he1, he2, e0⟩ := hz
  subst e0
  have c3 : ∀ {w} {K : mmO → mmM → Prop}, RepC w s → mm_E kX5_receive 35 [.ref 0, .int (nI i), .int (nI q), .int (nI e), .int (nI b), .retAddr 0] [] w 4 K → mm_M kX5_receive [.ref 0, .int (nI i), .int (nI q), .int (nI e), .int (nI b)] w K := fun hw g => c2 hw (k_bt (by omega) (by omega) ⟨e, he1, he2, rfl⟩ (mm_Kv 4 rfl g))
  have d3 : ∀ {w} {K : mmO → mmM → Prop}, RepM w s → mm_E kX6_receive 56 [.ref 81, .int (nI i), .int (nI q), .int (nI e), .int (nI b), .retAddr 0] [] w 0 K → mm_M kX6_receive [.ref 81, .int (nI i), .int (nI q), .int (nI e), .int (nI b)] w K := fun hw g => d2 hw (k_in (by omega) (by omega) ⟨e, he1, he2, rfl⟩ (mm_Kr 0 rfl (bX6_receive_47 (fun h => absurd h (by decide)) (fun _ => g))))
  have r3 : ∀ {w} {K : mmO → mmM → Prop}, RepM w s → (∀ w' y, RepM w' s → fM w w' → w' 81 26 = nI 3 → K (.inl (some (.int y))) w') → mm_E kX6_receive 75 [.ref 81, .int (nI i), .int (nI q), .int (nI e), .int (nI b), .retAddr 0] [] w 0 K := fun hw hK => bX6_receive_75 (by decide) (m_raises (mm_Kr 0 rfl (bX6_receive_80 (hK _ _ hw.th fM.th th_at))))
  by_cases hn : s.nl = 24
  · refine Op.no 3 1 h (by decide) (by decide) (fun w hw K hK => c3 hw (bX5_receive_35 (fun q => ?_) (fun _ => bX5_receive_47 (by decide) (hK _ hw fC.rfl)))) (fun r w hw K hK => d3 hw (bX6_receive_56 (fun _ => r3 hw (fun w' y h1 h2 h3 => hK w' y h1 h2 h3 (fun h => absurd h (by decide)))) (fun q => ?_)))
    · rw [hw.nl, hn] at q
      exact absurd q (by decide)
    · rw [hw.nl, hn] at q
      exact absurd rfl q
  have c4 : ∀ {w} {K : mmO → mmM → Prop}, RepC w s → mm_M kX5_requireEntrySpace [.ref 0, .int (nI 1)] w (mm_Kc kX5_receive 62 [.ref 0, .int (nI i), .int (nI q), .int (nI e), .int (nI b), .retAddr 0] [] (4 + mm_mc kX5_requireEntrySpace) K) → mm_M kX5_receive [.ref 0, .int (nI i), .int (nI q), .int (nI e), .int (nI b)] w K := fun hw g => c3 hw (bX5_receive_35 (fun _ => bX5_receive_57 (by decide) g) (fun q => by rw [hw.nl, b24, nI_lti (by omega) (by omega)] at q; exact absurd q (by omega)))
  have d4 : ∀ {w} {K : mmO → mmM → Prop}, RepM w s → mm_E kX6_receive 65 [.ref 81, .int (nI i), .int (nI q), .int (nI e), .int (nI b), .retAddr 0] [] w 0 K → mm_M kX6_receive [.ref 81, .int (nI i), .int (nI q), .int (nI e), .int (nI b)] w K := fun hw g => d3 hw (bX6_receive_56 (fun q => by rw [hw.nl] at q; exact absurd ((nI_eq (b := 24) (by omega) (by omega)).mp q) hn) (fun _ => g))
  by_cases hne2 : s.ne = 150
  · refine Op.no 3 1 h (by decide) (by decide) (fun w hw K hK => c4 hw (m_rEntrySpace hne (by omega) hw.ne (fun _ => mm_Kx rfl (hK _ hw fC.rfl)) (fun q => absurd q (by omega)))) (fun r w hw K hK => d4 hw (bX6_receive_65 (fun _ => r3 hw (fun w' y h1 h2 h3 => hK w' y h1 h2 h3 (fun h => absurd h (by decide)))) (fun q => ?_)))
    rw [hw.ne, hne2] at q
    exact absurd rfl q
  have c5 : ∀ {w} {K : mmO → mmM → Prop}, RepC w s → mm_M kX5_requireBinSpace [.ref 0, .int (nI b), .int (nI q)] w (mm_Kc kX5_receive 69 [.ref 0, .int (nI i), .int (nI q), .int (nI e), .int (nI b), .retAddr 0] [] (5 + mm_mc kX5_requireBinSpace) K) → mm_M kX5_receive [.ref 0, .int (nI i), .int (nI q), .int (nI e), .int (nI b)] w K := fun hw g => c4 hw (m_rEntrySpace hne (by omega) hw.ne (fun q => absurd q (by omega)) (fun _ => mm_Kv 5 rfl (bX5_receive_62 (by decide) g)))
  have d5 : ∀ {w} {K : mmO → mmM → Prop}, RepM w s → mm_E kX6_receive 87 [.ref 81, .int (nI i), .int (nI q), .int (nI e), .int (nI b), .retAddr 0] [.int (nI (s.bl b))] w 0 K → mm_M kX6_receive [.ref 81, .int (nI i), .int (nI q), .int (nI e), .int (nI b)] w K := fun hw g => d4 hw (bX6_receive_65 (fun q => by rw [hw.ne] at q; exact absurd ((nI_eq (b := 150) (by omega) (by omega)).mp q) hne2) (fun _ => bX6_receive_81 (by decide) (k_load0 h.1 hw hb (mm_Kr 0 rfl g))))
  have hbl := h.bl_ b hb
  by_cases hsp : s.bl b + q ≤ 30
  rotate_left
  · refine Op.no 4 3 h (by decide) (by decide) (fun w hw K hK => c5 hw (m_rBinSpace hb (fun _ => mm_Kx rfl (hK _ hw fC.rfl)) (fun z => ?_))) (fun r w hw K hK => d5 hw (bX6_receive_87 (fun z => ?_) (fun _ => bX6_receive_94 (by decide) (m_raises (mm_Kr 0 rfl (bX6_receive_99 ?_))))))
    · rw [hw.bl, nI_add, b30, nI_lei (by omega) (by omega)] at z
      exact absurd z hsp
    · rw [nI_add, b30, nI_lei (by omega) (by omega)] at z
      exact absurd z hsp
    · exact hK _ _ hw.th fM.th th_at (fun h => absurd h (by decide))
  have hod : ∀ k, k < s.nl → s.od k < 1000000 ∧ s.ex (s.od k) < 1000000 := fun k hk => by
    have h1 := h.od_ k hk
    have h2 := h.ex_ _ h1
    exact ⟨by omega, by omega⟩
  have hun0 : s.un s.nl b = 0 := h.un_ s.nl b (Nat.le_refl _)
  have hd1 : nI ((s.lot i e).un s.nl b) + nI q = nI q := by
    show nI (s.un s.nl b) + nI q = nI q
    rw [hun0, nI_add, Nat.zero_add]
  refine Op.ok (s.rcv i e b q) (nI s.nl) (rcv_I h hi (by omega) hb hq2 (by omega) (by omega) hsp) (fun w hw K hK => c5 hw (m_rBinSpace hb (fun z => ?_) (fun _ => mm_Kv 6 rfl ?_))) (fun w hw K hK => d5 hw (bX6_receive_87 (fun _ => ?_) (fun z => ?_)))
  · rw [hw.bl, nI_add, b30, nI_lei (by omega) (by omega)] at z
    exact absurd hsp z
  · refine bX5_receive_69 (by decide) (m_appendLot (n := s.nl) (by omega) hw.nl (fun j hj => ⟨s.od j, by have := h.od_ j hj; omega, by rw [hw.od]⟩) (mm_Kr 6 rfl ?_))
    have eo : sOrd (upd (w 17) s.nl (nI e)) (nI e) s.nl (w 18) = fun k => nI (ordN s.ex e s.nl s.od k) := by
      unfold sOrd
      rw [hw.ex, upd_nI, hw.od]
      have hc : ∀ k, k < s.nl → updN s.ex s.nl e (s.od k) = s.ex (s.od k) := fun k hk => updN_ne (by have := h.od_ k hk; omega)
      rw [sIns_nI (ex := updN s.ex s.nl e) (by omega) s.nl s.od (fun k hk => by rw [hc k hk]; exact hod k hk)]
      show upd (fun k => nI ((insN (updN s.ex s.nl e) e s.nl s.od).2 k)) (insN (updN s.ex s.nl e) e s.nl s.od).1 (nI s.nl) = _
      rw [upd_nI, insN_cong s.nl s.od hc]
      rfl
    rw [eo]
    have w1 : RepC (mm_up (mm_rw (mm_up (mm_up w 16 s.nl (nI i)) 17 s.nl (nI e)) 18 (fun k => nI (ordN s.ex e s.nl s.od k))) 2 0 (nI (s.nl + 1))) (s.lot i e) := by
      refine hw.c_nl_it_ex_od (fun a ha => ?_) mm_up_same ?_ ?_ ?_
      · rw [mm_up_row (by omega), rw_ne (by omega), mm_up_row (by omega), mm_up_row (by omega)]
      · rw [mm_up_row (by decide), rw_ne (by decide), mm_up_row (by decide)]
        exact row_nI hw.it
      · rw [mm_up_row (by decide), rw_ne (by decide)]
        exact row_nI (by rw [mm_up_row (by decide)]; exact hw.ex)
      · rw [mm_up_row (by decide), rw_at]
    have f1 : fC w (mm_up (mm_rw (mm_up (mm_up w 16 s.nl (nI i)) 17 s.nl (nI e)) 18 (fun k => nI (ordN s.ex e s.nl s.od k))) 2 0 (nI (s.nl + 1))) := fun a ha => by rw [mm_up_row (by omega), rw_ne (by omega), mm_up_row (by omega), mm_up_row (by omega)]
    generalize mm_up (mm_rw (mm_up (mm_up w 16 s.nl (nI i)) 17 s.nl (nI e)) 18 (fun k => nI (ordN s.ex e s.nl s.od k))) 2 0 (nI (s.nl + 1)) = wm at w1 f1 ⊢
    have w2 := w1.ch (l := s.nl) (b := b) (x := q) (by omega) hb hd1
    have w3 := RepC.wr (kd := 114) (l := s.nl) (f := 0) (t := b + 1) (q := q) w2
    refine bX5_receive_78 (by decide) (m_change (by omega) hb (mm_Kv 6 rfl (bX5_receive_92 (by decide) ?_)))
    rw [w2.td]
    refine m_write (n := s.ne) (by omega) w2.ne (by decide) (mm_Kv 6 rfl (bX5_receive_111 ?_))
    rw [nI_pred] at w3
    exact hK _ w3 (f1.tr ((cCh_fC (by omega)).tr cWr_fC))
  · have hw0 := hw.th (x := 0)
    refine bX6_receive_100 ?_
    rw [hw0.nl]
    have p1 := (insN_p (ex := s.ex) (e := e) s.nl s.od).1
    have start := m_dins (w := mm_up w 81 26 0) (K := K) (item := nI i) (q := nI q) (bn := b) (m := s.nl) (e := e) (by omega) (by omega) (ex := s.ex) hw0.ex s.nl s.od (Nat.le_refl _) (fun k hk => by have h1 := h.od_ k hk; have h2 := h.ex_ _ h1; exact ⟨by omega, by omega⟩)
    rw [← hw0.od, rw_self] at start
    refine start ?_
    have e8 : mm_rw (mm_up w 81 26 0) 118 (fun k => nI ((insN s.ex e s.nl s.od).2 k)) 81 8 = nI s.nl := by rw [rw_ne (by decide)]; exact hw0.nl
    have eV : ∀ a, a ≠ 118 → mm_rw (mm_up w 81 26 0) 118 (fun k => nI ((insN s.ex e s.nl s.od).2 k)) a = mm_up w 81 26 0 a := fun a ha => rw_ne ha
    have eO : mm_rw (mm_up w 81 26 0) 118 (fun k => nI ((insN s.ex e s.nl s.od).2 k)) 118 = fun k => nI ((insN s.ex e s.nl s.od).2 k) := rw_at
    generalize mm_rw (mm_up w 81 26 0) 118 (fun k => nI ((insN s.ex e s.nl s.od).2 k)) = V at e8 eV eO ⊢
    refine bX6_receive_156 (in_nI (by omega) (by decide)) (by rw [e8]; exact in_nI (by omega) (by decide)) (by rw [e8]; exact in_nI (by omega) (by decide)) (by decide) ?_
    rw [e8, cl_nI (i := (insN s.ex e s.nl s.od).1) (by omega), cl_nI (i := s.nl) (by omega)]
    have w1 : RepM (mm_up (mm_up (mm_up V 118 (insN s.ex e s.nl s.od).1 (nI s.nl)) 90 s.nl (nI i)) 91 s.nl (nI e)) ((((s.set 1 (fun _ _ => s.nl)).set 7 (fun _ => updN s.it s.nl i)).set 8 (fun _ => updN s.ex s.nl e)).set 9 (fun _ => ordN s.ex e s.nl s.od)) := by
      refine hw0.c_nl_it_ex_od (fun a ha => ?_) (fun j _ _ _ => ?_) ?_ ?_ ?_ ?_
      · rw [mm_up_row (by omega), mm_up_row (by omega), mm_up_row (by omega), eV a (by omega)]
      · rw [mm_up_row (by decide), mm_up_row (by decide), mm_up_row (by decide), eV 81 (by decide)]
      · rw [mm_up_row (by decide), mm_up_row (by decide), mm_up_row (by decide)]; exact e8
      · rw [mm_up_row (by decide)]
        exact row_nI (by rw [mm_up_row (by decide), eV 90 (by decide)]; exact hw0.it)
      · exact row_nI (by rw [mm_up_row (by decide), mm_up_row (by decide), eV 91 (by decide)]; exact hw0.ex)
      · rw [mm_up_row (by decide), mm_up_row (by decide)]
        exact row_nI eO
    have f1 : fM w (mm_up (mm_up (mm_up V 118 (insN s.ex e s.nl s.od).1 (nI s.nl)) 90 s.nl (nI i)) 91 s.nl (nI e)) := fun a ha => by rw [mm_up_row (by omega), mm_up_row (by omega), mm_up_row (by omega), eV a (by omega), mm_up_row (by omega)]
    have t1 : mm_up (mm_up (mm_up V 118 (insN s.ex e s.nl s.od).1 (nI s.nl)) 90 s.nl (nI i)) 91 s.nl (nI e) 81 26 = 0 := by rw [mm_up_row (by decide), mm_up_row (by decide), mm_up_row (by decide), eV 81 (by decide), th_at]
    generalize mm_up (mm_up (mm_up V 118 (insN s.ex e s.nl s.od).1 (nI s.nl)) 90 s.nl (nI i)) 91 s.nl (nI e) = wm at w1 f1 t1 ⊢
    have w2 := w1.ch (l := s.nl) (b := b) (x := q) (by omega) hb hd1
    have w3 := RepM.wr (kd := 114) (l := s.nl) (f := 0) (t := b + 1) (q := q) w2 (fun p hp hs => (h.pk_ p hp hs).2.1)
    refine m_puts (by omega) hb (mm_Kv 0 rfl (bX6_receive_198 (by decide) ?_))
    rw [w2.nl]
    refine m_writes (n := s.ne) (by omega) w2.ne (by decide) (mm_Kv 0 rfl (bX6_receive_212 ?_))
    rw [nI_pred] at w3
    have e9 : dWr (dCh wm s.nl b (nI q)) s.ne 114 (nI s.nl) (-1) (nI b) (nI q) 81 8 = nI s.nl := w3.nl
    change K (.inl (some (.int ((dWr (dCh wm s.nl b (nI q)) s.ne 114 (nI s.nl) (-1) (nI b) (nI q) 81 8 + 1) - 1)))) (mm_up (dWr (dCh wm s.nl b (nI q)) s.ne 114 (nI s.nl) (-1) (nI b) (nI q)) 81 8 (dWr (dCh wm s.nl b (nI q)) s.ne 114 (nI s.nl) (-1) (nI b) (nI q) 81 8 + 1))
    rw [e9, nI_1, nI_pred]
    have w4 := RepM.c_nl (v' := mm_up (dWr (dCh wm s.nl b (nI q)) s.ne 114 (nI s.nl) (-1) (nI b) (nI q)) 81 8 (nI (s.nl + 1))) (z_nl := s.nl + 1) w3 (fun a ha => mm_up_row (by omega)) (fun j _ _ j3 => up_ob j3) mm_up_same
    have eqs : ((((((s.set 1 (fun _ _ => s.nl)).set 7 (fun _ => updN s.it s.nl i)).set 8 (fun _ => updN s.ex s.nl e)).set 9 (fun _ => ordN s.ex e s.nl s.od)).set 10 (upd2 s.un s.nl b q)).jn 114 s.nl 0 (b + 1) q).set 1 (fun _ _ => s.nl + 1) = s.rcv i e b q := by
      funext k
      by_cases hk : k = 1
      · subst hk
        rfl
      · unfold St.rcv St.lot St.jn
        simp only [St.set, if_neg hk]
        rfl
    have w5 : RepM _ (s.rcv i e b q) := eqs ▸ w4
    refine hK _ _ w5 (f1.tr ((dCh_fM (by omega)).tr (dWr_fM.tr (fun a ha => mm_up_row (by omega))))) ?_ (fun _ => rfl)
    rw [up_ob (by decide), dWr_26, dCh_81 (by omega), t1]
    rfl
  · rw [nI_add, b30, nI_lei (by omega) (by omega)] at z
    exact absurd hsp z
end RW
