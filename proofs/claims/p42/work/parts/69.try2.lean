/-! available, by trying: the class -/
def Xr (w : mmM) (x : Nat → Nat) : Prop := ∀ l, l < 24 → w 7 l = nI (x l)
def fr7 (w0 w : mmM) : Prop := ∀ a, a ≠ 7 → w a = w0 a
theorem fr7.rfl {w : mmM} : fr7 w w := fun _ _ => Eq.refl _
theorem fr7.tr {w w1 w2 : mmM} (h : fr7 w w1) (h2 : fr7 w1 w2) : fr7 w w2 := fun a h3 => (h2 a h3).trans (h a h3)
theorem fr7.rep {w w1 : mmM} {s : St} (h : fr7 w w1) (hw : RepC w s) : RepC w1 s := hw.keep (fun a ha => h a (by omega))
theorem fr7.fC {w w1 : mmM} (h : fr7 w w1) : fC w w1 := fun a ha => h a (by omega)
section TY
variable {n : Nat} {s : St} {K : mmO → mmM → Prop} {x y : Int32}
theorem k_giveC {i u q : Nat} {x : Nat → Nat} {w0 : mmM} (h : Inw n s) (hw0 : RepC w0 s) (hi : i < 6) (hu : u < 100000) (hq : q < 100000) (hX : Xr w0 x) (hx : ∀ l, x l ≤ 1200) (gt : q ≤ sx s x i u → ∀ w', Xr w' (gvx s i u q x) → fr7 w0 w' → K (.inl (some (.int 1))) w') (gf : ¬ q ≤ sx s x i u → ∀ w', fr7 w0 w' → K (.inl (some (.int 0))) w') : mm_M kX5_give [.ref 0, .int (nI i), .int (nI u), .int (nI q)] w0 K := by
  have hnl := h.nl_
  have hJ := gvJ_all h (i := i) (u := u) (q := q) (x := x) s.nl (Nat.le_refl _)
  have fin : ∀ w k l6 l7, Xr w (gvx s i u q x) → fr7 w0 w → mm_E kX5_give 88 [.ref 0, .int (nI i), .int (nI u), .int (nI q), .int (nI (fo (gvs s i u) ((q, x) : PS) s.nl).1), .int (nI k), l6, l7] [] w 0 K := by
    intro w k l6 l7 hXw hfr
    have e : (fo (gvs s i u) ((q, x) : PS) s.nl).1 = q - sx s x i u := hJ.1
    rw [e]
    by_cases c : q ≤ sx s x i u
    · exact bX5_give_88 (fun _ => bX5_give_93 (bX5_give_98 nb_1 (gt c w hXw hfr))) (fun z => absurd ((nI_eq (b := 0) (by omega) (by omega)).mpr (by omega)) z)
    · exact bX5_give_88 (fun z => absurd ((nI_eq (b := 0) (by omega) (by omega)).mp z) (by omega)) (fun _ => bX5_give_97 (bX5_give_98 nb_0 (gf c w hfr)))
  refine bX5_give_0 ?_
  have key : ∀ w l6 l7, Xr w x → fr7 w0 w → mm_E kX5_give 6 [.ref 0, .int (nI i), .int (nI u), .int (nI q), .int (nI q), .int (nI 0), l6, l7] [] w 0 K := by
    refine e_fors (n := s.nl) (a0 := ((q, x) : PS)) (f := gvs s i u) (E := fun k t => ∀ w l6 l7, Xr w t.2 → fr7 w0 w → mm_E kX5_give 6 [.ref 0, .int (nI i), .int (nI u), .int (nI q), .int (nI t.1), .int (nI k), l6, l7] [] w 0 K) (fun k t => gvJ s i u q x k t) (fun t => t.1 = 0) gvJ_0 (fun k t hk ht => gvJ_s h hk ht) (fun k t hk ht hz => ?_) ?_ ?_
    · have hz : t.1 = 0 := hz
      by_cases c : s.it (s.od k) = i ∧ u ≤ s.ex (s.od k)
      · have e : gvs s i u k t = (t.1 - min t.1 (t.2 (s.od k)), updN t.2 (s.od k) (t.2 (s.od k) - min t.1 (t.2 (s.od k)))) := if_pos c
        rw [e, hz, Nat.zero_min, Nat.sub_zero]
        refine Prod.ext hz.symm ?_
        show updN t.2 (s.od k) (t.2 (s.od k)) = t.2
        funext l
        by_cases e : l = s.od k
        · subst e; rw [updN_at]
        · rw [updN_ne e]
      · exact if_neg c
    · intro k t hk ht hz ih w l6 l7 hXw hfr
      have hw := hfr.rep hw0
      have hl := h.od_ k hk
      have h1 := ht.1
      have hz : t.1 ≠ 0 := hz
      have hxl := hx (s.od k)
      have htl := ht.2.2.2 (s.od k)
      refine bX5_give_6 (fun q => absurd (hw.nl ▸ q) (ge_nI hk (by omega))) (fun _ => bX5_give_18 (fun z => absurd ((nI_le0 (by omega)).mp z) hz) (fun _ => bX5_give_23 (in_nI (by omega) (by decide)) (by decide) ?_))
      rw [cl_nI (by omega), hw.od]
      have a2 := in_nI (show s.od k < 24 by omega) (by decide)
      refine k_lasts h hw hl (by omega) hu (fun c => mm_Kr 0 rfl (bX5_give_46 (fun z => absurd z (by decide)) (fun _ => bX5_give_49 a2 a2 a2 ?_))) (fun c => mm_Kr 0 rfl (bX5_give_46 (fun _ => bX5_give_82 ?_) (fun z => absurd rfl z)))
      · have e : gvs s i u k t = (t.1 - min t.1 (t.2 (s.od k)), updN t.2 (s.od k) (t.2 (s.od k) - min t.1 (t.2 (s.od k)))) := if_pos c
        rw [e] at ih
        rw [cl_nI (by omega), hXw _ (by omega), min_nI (by omega) (by omega), sub_nI (Nat.min_le_left _ _), sub_nI (Nat.min_le_right _ _)]
        refine bX5_give_82 ?_
        rw [nI_1]
        refine ih _ _ _ (fun l hl24 => ?_) (fun a ha => by rw [mm_up_row ha]; exact hfr a ha)
        show mm_up w 7 (s.od k) _ 7 l = nI (updN t.2 (s.od k) _ l)
        by_cases e : l = s.od k
        · subst e
          rw [mm_up_same, updN_at]
        · rw [updN_ne e, mm_up_at]
          exact (if_neg e).trans (hXw l hl24)
      · have e : gvs s i u k t = t := if_neg c
        rw [e] at ih
        rw [nI_1]
        exact ih w _ _ hXw hfr
    · intro k hk ht hS w l6 l7 hXw hfr
      have hw := hfr.rep hw0
      by_cases e : k = s.nl
      · subst e
        exact bX5_give_6 (fun _ => fin w _ _ _ hXw hfr) (fun q => absurd (hw.nl ▸ le_nI (Nat.le_refl s.nl) (by omega)) q)
      · have hz : (fo (gvs s i u) ((q, x) : PS) s.nl).1 = 0 := by
          rcases hS with z | z
          · exact absurd z e
          · exact z
        refine bX5_give_6 (fun q => absurd (hw.nl ▸ q) (ge_nI (n := s.nl) (by omega) (by omega))) (fun _ => bX5_give_18 (fun _ => fin w _ _ _ hXw hfr) (fun q => ?_))
        rw [hz] at q
        exact absurd ((nI_le0 (by decide)).mpr rfl) q
  exact key w0 _ _ hX fr7.rfl
theorem k_canGive {i k q : Nat} {w0 : mmM} (h : Inv n s) (hw0 : RepC w0 s) (hi : i < s.ni) (hk : k ≤ 60) (hq : q < 100000) (gt : q ≤ s.la i k → ∀ w', fr7 w0 w' → K (.inl (some (.int 1))) w') (gf : s.la i k < q → ∀ w', fr7 w0 w' → K (.inl (some (.int 0))) w') : mm_M kX5_canGive [.ref 0, .int (nI i), .int (nI (s.td + k)), .int (nI q)] w0 K := by
  have hni := h.ni_; have hnp := h.np_; have htd := h.td_; have hn := h.n_
  have c0 : (0 : Int32).toNatClampNeg = 0 := rfl
  have c24 : (24 : Int32).toNatClampNeg = 24 := rfl
  refine bX5_canGive_0 (by decide) ?_
  rw [c0, c24]
  have f0 : fr7 w0 (mm_cp w0 44 0 7 0 24) := fun a ha => by rw [mm_cp_row ha]
  have hX0 : Xr (mm_cp w0 44 0 7 0 24) s.lu := fun l hl => by
    rw [mm_cp_at]
    show va_cpy (w0 44) (w0 7) 0 0 24 l = _
    unfold va_cpy
    rw [if_pos (by omega), hw0.lu]
    show nI (s.lu (0 + (l - 0))) = _
    rw [Nat.sub_zero, Nat.zero_add]
  obtain ⟨p1, p2⟩ := g_first h (k := k) (q := q) (show i < 6 by omega)
  -- the promises, one after the other
  have loop : ∀ j m (x : Nat → Nat) w, m + j = s.np → (∀ l, x l ≤ 1200) → Xr w x → fr7 w0 w → ((q ≤ s.la i k ∧ gA s i x m) ∨ (s.la i k < q ∧ gB s i x m)) → mm_E kX5_canGive 33 [.ref 0, .int (nI i), .int (nI (s.td + k)), .int (nI q), .int (nI m)] [] w 0 K := by
    intro j
    induction j with
    | zero =>
      intro m x w hm hx hX hfr hAB
      have e : m = s.np := by omega
      subst e
      have hw := hfr.rep hw0
      refine bX5_canGive_33 (fun _ => bX5_canGive_98 ?_) (fun z => absurd (hw.np ▸ le_nI (Nat.le_refl s.np) (by omega)) z)
      rcases hAB with ⟨hA1, _⟩ | ⟨_, d, _, hB⟩
      · exact gt hA1 w hfr
      · rw [prr_n] at hB
        exact absurd hB (Nat.not_lt_zero _)
    | succ j ih =>
      intro m x w hm hx hX hfr hAB
      have hw := hfr.rep hw0
      have a1 := in_nI (show m < 20 by omega) (by decide)
      have es : w 48 (nI m).toNatClampNeg = nI (s.st m) := by rw [cl_nI (by omega), hw.st]
      have e1 : (nI (s.st m) = 111) ↔ s.st m = 111 := st_is h.1 m 111 (by decide)
      refine bX5_canGive_33 (fun z => absurd (hw.np ▸ z) (ge_nI (show m < s.np by omega) (by omega))) (fun _ => bX5_canGive_45 a1 (fun z => ?_) (fun z => ?_)) <;> rw [es, e1] at z
      · have hdu := h.du_ m (by omega) z
        have hqb := h.qb (show m < s.np by omega) (show i < 6 by omega)
        refine bX5_canGive_60 a1 a1 (in_nI (by omega) (by decide)) (by decide) ?_
        have ed : w 47 (nI m).toNatClampNeg = nI (s.du m) := by rw [cl_nI (by omega), hw.du]
        have eq : w (50 + (nI m).toNatClampNeg) (nI i).toNatClampNeg = nI (s.q m i) := by rw [cl_nI (by omega), cl_nI (by omega)]; exact hw.q m (by omega) i (by omega)
        rw [ed, eq]
        refine k_giveC h.1 hw (by omega) (by omega) (by omega) hX hx (fun hq1 w' hX' hf' => mm_Kr 0 rfl (bX5_canGive_87 (fun y => absurd y (by decide)) (fun _ => bX5_canGive_92 ?_))) (fun hq1 w' hf' => mm_Kr 0 rfl (bX5_canGive_87 (fun _ => bX5_canGive_90 ?_) (fun y => absurd rfl y)))
        · rw [nI_1]
          refine ih (m + 1) _ w' (by omega) (fun l => ?_) hX' (hfr.tr hf') ?_
          · exact Nat.le_trans ((gvJ_all h.1 (i := i) (u := s.du m) (q := s.q m i) (x := x) s.nl (Nat.le_refl _)).2.2.2 l) (hx l)
          · rcases hAB with ⟨hA1, hA⟩ | ⟨hB1, hB⟩
            · exact Or.inl ⟨hA1, (gA_s h.1 (by omega) z hA).2⟩
            · exact Or.inr ⟨hB1, gB_s h.1 (by omega) z hq1 hB⟩
        · rcases hAB with ⟨hA1, hA⟩ | ⟨hB1, hB⟩
          · exact absurd (gA_s h.1 (by omega) z hA).1 hq1
          · exact gf hB1 w' (hfr.tr hf')
      · refine bX5_canGive_92 ?_
        rw [nI_1]
        refine ih (m + 1) x w (by omega) hx hX hfr ?_
        rcases hAB with ⟨hA1, hA⟩ | ⟨hB1, hB⟩
        · exact Or.inl ⟨hA1, gA_n (by omega) z hA⟩
        · exact Or.inr ⟨hB1, gB_n (by omega) z hB⟩
  refine k_giveC h.1 (f0.rep hw0) (by omega) (by omega) hq hX0 (fun l => h.lub l) (fun hq1 w' hX' hf' => mm_Kr 0 rfl (bX5_canGive_25 (fun y => absurd y (by decide)) (fun _ => bX5_canGive_30 ?_))) (fun hq1 w' hf' => mm_Kr 0 rfl (bX5_canGive_25 (fun _ => bX5_canGive_28 ?_) (fun y => absurd rfl y)))
  · refine loop s.np 0 _ w' (by omega) (fun l => ?_) hX' (f0.tr hf') ?_
    · exact Nat.le_trans ((gvJ_all h.1 (i := i) (u := s.td + k) (q := q) (x := s.lu) s.nl (Nat.le_refl _)).2.2.2 l) (h.lub l)
    · by_cases c : q ≤ s.la i k
      · exact Or.inl ⟨c, (p1 c).2⟩
      · exact Or.inr ⟨by omega, p2 (by omega) hq1⟩
  · by_cases c : q ≤ s.la i k
    · exact absurd (p1 c).1 hq1
    · exact gf (by omega) w' (f0.tr hf')
theorem half_nI {m : Nat} (hm : m < 11) : nI (2 ^ m) / 2 = nI (if m = 0 then 0 else 2 ^ (m - 1)) := mm_rows (P := fun m => nI (2 ^ m) / 2 = nI (if m = 0 then 0 else 2 ^ (m - 1))) (n := 11) (by decide +kernel) hm
theorem pw11 {m : Nat} (hm : m < 12) : 2 ^ m ≤ 2048 ∧ 0 < 2 ^ m := mm_rows (P := fun m => 2 ^ m ≤ 2048 ∧ 0 < 2 ^ m) (n := 12) (by decide +kernel) hm
theorem k_tryAv {i k : Nat} {w0 : mmM} (h : Inv n s) (hw0 : RepC w0 s) (hi : i < s.ni) (hk : k ≤ 60) (g : ∀ w', fr7 w0 w' → K (.inl (some (.int (nI (s.la i k))))) w') : mm_E kX5_availableByTrying 21 [.ref 0, .int (nI i), .int (nI (s.td + k)), .retAddr 0, .retAddr 0] [] w0 2 K := by
  have hla : s.la i k ≤ 1200 := Nat.le_trans la_le (Nat.le_trans (Nat.sub_le _ _) (h.1.sk1200 i s.td))
  refine bX5_availableByTrying_21 ?_
  have key : ∀ m a w, m ≤ 11 → a ≤ s.la i k → s.la i k < a + 2 ^ m → fr7 w0 w → mm_E kX5_availableByTrying 28 [.ref 0, .int (nI i), .int (nI (s.td + k)), .int (nI a), .int (nI (if m = 0 then 0 else 2 ^ (m - 1)))] [] w 2 K := by
    intro m
    induction m with
    | zero =>
      intro a w _ h1 h2 hfr
      have e : a = s.la i k := by have : 2 ^ 0 = 1 := rfl; omega
      subst e
      exact bX5_availableByTrying_28 (fun _ => bX5_availableByTrying_60 (g w hfr)) (fun z => absurd (le_nI (Nat.le_refl 0) (by decide)) z)
    | succ m ih =>
      intro a w hm h1 h2 hfr
      have hw := hfr.rep hw0
      obtain ⟨hp1, hp2⟩ := pw11 (m := m) (by omega)
      have ep : 2 ^ (m + 1) = 2 ^ m + 2 ^ m := by rw [Nat.pow_succ]; omega
      rw [if_neg (Nat.succ_ne_zero m), Nat.add_sub_cancel]
      refine bX5_availableByTrying_28 (fun z => absurd z (nI_nle (by omega) (by omega))) (fun _ => bX5_availableByTrying_33 (by decide) ?_)
      rw [nI_add]
      refine k_canGive h hw hi hk (by omega) (fun hq w' hf' => mm_Kr 2 rfl (bX5_availableByTrying_43 (fun z => absurd z (by decide)) (fun _ => bX5_availableByTrying_46 (bX5_availableByTrying_51 ?_)))) (fun hq w' hf' => mm_Kr 2 rfl (bX5_availableByTrying_43 (fun _ => bX5_availableByTrying_51 ?_) (fun z => absurd rfl z)))
      · rw [nI_add, half_nI (by omega)]
        exact ih (a + 2 ^ m) w' (by omega) hq (by omega) (hfr.tr hf')
      · rw [half_nI (by omega)]
        exact ih a w' (by omega) h1 hq (hfr.tr hf')
  exact key 11 0 w0 (Nat.le_refl _) (Nat.zero_le _) (by have : 2 ^ 11 = 2048 := rfl; omega) fr7.rfl
end TY
