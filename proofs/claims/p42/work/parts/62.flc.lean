/-! the class finds the lines of a promise -/
theorem ky_rt {p l : Nat} (hp : p < 40) : ky (rt p) l = p * 24 + l := by
  unfold ky
  rw [rt_rt hp]
def frL (w0 w : mmM) : Prop := ∀ a, a ≠ 5 → (a < 78 ∨ 80 < a) → w a = w0 a
theorem frL.rfl {w : mmM} : frL w w := fun _ _ _ => Eq.refl _
theorem frL.tr {w w1 w2 : mmM} (h : frL w w1) (h2 : frL w1 w2) : frL w w2 := fun a h3 h4 => (h2 a h3 h4).trans (h a h3 h4)
theorem frL.rep {w w1 : mmM} {s : St} (h : frL w w1) (hw : RepC w s) : RepC w1 s := hw.keep (fun a ha => h a (by omega) (by omega))
theorem frL.fC {w w1 : mmM} (h : frL w w1) : fC w w1 := fun a ha => h a (by omega) (by omega)
section FC
variable {n : Nat} {s : St} {K : mmO → mmM → Prop}
theorem k_flLot {l : Nat} {t0 : PS} {w0 : mmM} (h : Inw n s) (hw0 : RepC w0 s) (hL : LnC w0 t0.2) (hl : l < 24) (hf : ∀ a, a < 40 → t0.2 (a * 24 + l) = 0) (hb : t0.1 + sm t0.2 960 ≤ 60) (g : ∀ w', LnC w' (lsL s l t0).2 → frL w0 w' → K (.inl (some (.int (nI (t0.1 - (lsL s l t0).1))))) w') : mm_M kX5_findLinesOfLot [.ref 0, .int (nI l), .int (nI t0.1)] w0 K := by
  refine bX5_findLinesOfLot_0 ?_
  have e0 : nI (t0.1 - t0.1) = 0 := by rw [Nat.sub_self]; rfl
  have key : ∀ w l5 l6, LnC w t0.2 → frL w0 w → mm_E kX5_findLinesOfLot 5 [.ref 0, .int (nI l), .int (nI t0.1), .int (nI (t0.1 - t0.1)), .int (nI 0), l5, l6] [] w 0 K := by
    refine e_fors (n := 40) (a0 := t0) (f := ls1 s l) (E := fun p t => ∀ w l5 l6, LnC w t.2 → frL w0 w → mm_E kX5_findLinesOfLot 5 [.ref 0, .int (nI l), .int (nI t0.1), .int (nI (t0.1 - t.1)), .int (nI p), l5, l6] [] w 0 K) (fun p t => lsJ s l t0 p t) (fun t => t.1 = 0) (lsJ_0 hf) (fun p t hp ht => lsJ_s hl hp ht) (fun p t hp ht hz => lsJ_z hp ht (by rw [hz, Nat.zero_min])) ?_ ?_
    · intro p t hp ht hz ih w l5 l6 hLw hfr
      have hw := hfr.rep hw0
      have hu := h.unb (l := l) (rt_lt hp)
      have h5 := ht.2.2.2.2.1
      have h6 := ht.2.2.2.2.2
      have hz : t.1 ≠ 0 := hz
      refine bX5_findLinesOfLot_5 (fun q => absurd q (ge_nI hp (by decide))) (fun _ => bX5_findLinesOfLot_12 (fun q => ?_) (fun _ => bX5_findLinesOfLot_17 (by decide) (m_alongRoute hp (mm_Kr 0 rfl ?_))))
      · rw [nI_lei (by omega) (by omega)] at q
        omega
      · have eu : w (20 + (nI l).toNatClampNeg) (nI (rt p)).toNatClampNeg = nI (s.un l (rt p)) := by rw [cl_nI (by omega), cl_nI (by have := rt_lt hp; omega), hw.un l hl]
        have er : nI t0.1 - nI (t0.1 - t.1) = nI t.1 := by rw [sub_nI (Nat.sub_le _ _), show t0.1 - (t0.1 - t.1) = t.1 by omega]
        have ef : nI (t0.1 - t.1) + nI (min t.1 (s.un l (rt p))) = nI (t0.1 - (t.1 - min t.1 (s.un l (rt p)))) := by
          rw [nI_add]
          congr 1
          have : min t.1 (s.un l (rt p)) ≤ t.1 := Nat.min_le_left _ _
          omega
        refine bX5_findLinesOfLot_22 (in_nI hl (by decide)) (in_nI (rt_lt hp) (by decide)) (fun q => ?_) (fun q => ?_) <;> rw [eu, er, min_nI (by omega) (by omega), nI_le0 (by omega)] at q <;> rw [eu, er, min_nI (by omega) (by omega)]
        · refine bX5_findLinesOfLot_66 ?_
          rw [nI_1]
          have e : ls1 s l p t = t := lsJ_z hp ht q
          rw [e] at ih
          exact ih w _ _ hLw hfr
        · refine bX5_findLinesOfLot_49 (by decide) (k_insert hLw (rt_lt hp) hl (by rw [ky_rt hp]; exact ht.2.2.1 p (Nat.le_refl _) hp) ?_ q (fun w' hL' hf' => mm_Kv 0 rfl (bX5_findLinesOfLot_61 (bX5_findLinesOfLot_66 ?_))))
          · have := cnt_sm (f := t.2) 960
            omega
          · rw [ky_rt hp] at hL'
            rw [nI_1, ef]
            exact ih w' _ _ hL' (hfr.tr hf')
    · intro p hp ht hS w l5 l6 hLw hfr
      have h5 := ht.2.2.2.2.1
      by_cases e : p = 40
      · subst e
        exact bX5_findLinesOfLot_5 (fun _ => bX5_findLinesOfLot_72 (g w hLw hfr)) (fun q => absurd (le_nI (Nat.le_refl 40) (by decide)) q)
      · have hz : (fo (ls1 s l) t0 40).1 = 0 := by
          rcases hS with z | z
          · exact absurd z e
          · exact z
        refine bX5_findLinesOfLot_5 (fun q => absurd q (ge_nI (n := 40) (by omega) (by decide))) (fun _ => bX5_findLinesOfLot_12 (fun _ => bX5_findLinesOfLot_72 (g w hLw hfr)) (fun q => ?_))
        rw [hz, Nat.sub_zero] at q
        exact absurd (Int32.le_refl _) q
  have := key w0 (.retAddr 0) (.retAddr 0) hL frL.rfl
  rw [e0] at this
  exact this
theorem k_lasts {l i d : Nat} {v : mmM} (h : Inw n s) (hw : RepC v s) (hl : l < s.nl) (hi : i < 100) (hd : d < 100000) (gt : s.it l = i ∧ d ≤ s.ex l → K (.inl (some (.int 1))) v) (gf : ¬ (s.it l = i ∧ d ≤ s.ex l) → K (.inl (some (.int 0))) v) : mm_M kX0_lasts [.ref 2, .int (nI l), .int (nI i), .int (nI d)] v K := by
  have h1 := h.nl_; have h2 := h.it_ l hl; have h3 := h.ni_; have h4 := h.ex_ l hl; have h5 := h.td_; have h6 := h.n_
  refine m_lasts (by omega) ?_
  have e : (v 16 l = nI i ∧ nI d ≤ v 17 l) ↔ (s.it l = i ∧ d ≤ s.ex l) := by
    rw [hw.it, hw.ex]
    show (nI (s.it l) = nI i ∧ nI d ≤ nI (s.ex l)) ↔ _
    rw [nI_eq (by omega) (by omega), nI_lei (by omega) (by omega)]
  exact bi_is e (P := fun y => K (.inl (some (.int y))) v) gt gf
theorem k_flItem {i d q : Nat} {f0 : Nat → Nat} {w0 : mmM} (h : Inw n s) (hw0 : RepC w0 s) (hL : LnC w0 f0) (hi : i < s.ni) (hd : d < 100000) (hf : ∀ j, j < s.nl → s.it (s.od j) = i → ∀ a, a < 40 → f0 (a * 24 + s.od j) = 0) (hb : q + sm f0 960 ≤ 60) (g : ∀ w', LnC w' (lsI s i d q f0).2 → frL w0 w' → K (.inl none) w') : mm_M kX5_findLinesOfItem [.ref 0, .int (nI i), .int (nI d), .int (nI q)] w0 K := by
  have hnl := h.nl_; have hni := h.ni_
  refine bX5_findLinesOfItem_0 ?_
  have key : ∀ w l6, LnC w f0 → frL w0 w → mm_E kX5_findLinesOfItem 6 [.ref 0, .int (nI i), .int (nI d), .int (nI q), .int (nI q), .int (nI 0), l6] [] w 0 K := by
    refine e_fors (n := s.nl) (a0 := ((q, f0) : PS)) (f := lsK s i d) (E := fun k t => ∀ w l6, LnC w t.2 → frL w0 w → mm_E kX5_findLinesOfItem 6 [.ref 0, .int (nI i), .int (nI d), .int (nI q), .int (nI t.1), .int (nI k), l6] [] w 0 K) (fun k t => lsG s i d q f0 k t) (fun t => t.1 = 0) lsG_0 (fun k t hk ht => lsG_s h hf hk ht) (fun k t hk ht hz => ?_) ?_ ?_
    · unfold lsK
      split
      · rename_i c
        have hl := h.od_ k hk
        have hfr := lsG_f h hf ht k (Nat.le_refl _) hk c.1
        have st : ∀ p, p ≤ 40 → fo (ls1 s (s.od k)) t p = t := by
          intro p
          induction p with
          | zero => intro _; rfl
          | succ p ih =>
            intro hp
            have hJ := lsJ_all (s := s) (l := s.od k) (t0 := t) (by omega) hfr p (by omega)
            show ls1 s (s.od k) p (fo (ls1 s (s.od k)) t p) = t
            rw [ih (by omega)] at hJ ⊢
            have hz : t.1 = 0 := hz
            exact lsJ_z (by omega) hJ (by rw [hz, Nat.zero_min])
        exact st 40 (Nat.le_refl _)
      · rfl
    · intro k t hk ht hz ih w l6 hLw hfr
      have hw := hfr.rep hw0
      have hl := h.od_ k hk
      have h1 := ht.1
      have h5 := ht.2.2.2.2
      have hz : t.1 ≠ 0 := hz
      refine bX5_findLinesOfItem_6 (fun q => absurd (hw.nl ▸ q) (ge_nI hk (by omega))) (fun _ => bX5_findLinesOfItem_18 (fun q => absurd ((nI_le0 (by omega)).mp q) hz) (fun _ => bX5_findLinesOfItem_23 (in_nI (by omega) (by decide)) (by decide) ?_))
      rw [cl_nI (by omega), hw.od]
      refine k_lasts h hw hl (by omega) hd (fun c => mm_Kr 0 rfl (bX5_findLinesOfItem_46 (fun q => absurd q (by decide)) (fun _ => bX5_findLinesOfItem_49 (by decide) ?_))) (fun c => mm_Kr 0 rfl (bX5_findLinesOfItem_46 (fun _ => bX5_findLinesOfItem_62 ?_) (fun q => absurd rfl q)))
      · refine k_flLot h hw hLw (by omega) (lsG_f h hf ht k (Nat.le_refl _) hk c.1) (by omega) (fun w' hL' hf' => mm_Kr 0 rfl (bX5_findLinesOfItem_59 (bX5_findLinesOfItem_62 ?_)))
        have e : lsK s i d k t = lsL s (s.od k) t := if_pos c
        rw [e] at ih
        have hle : (lsL s (s.od k) t).1 ≤ t.1 := by
          rw [(lsL_ok (s := s) (l := s.od k) (t0 := t) (by omega) (lsG_f h hf ht k (Nat.le_refl _) hk c.1)).1]
          exact Nat.sub_le _ _
        rw [nI_1, sub_nI (Nat.sub_le _ _), show t.1 - (t.1 - (lsL s (s.od k) t).1) = (lsL s (s.od k) t).1 by omega]
        exact ih w' _ hL' (hfr.tr hf')
      · have e : lsK s i d k t = t := if_neg c
        rw [e] at ih
        rw [nI_1]
        exact ih w _ hLw hfr
    · intro k hk ht hS w l6 hLw hfr
      have hw := hfr.rep hw0
      by_cases e : k = s.nl
      · subst e
        exact bX5_findLinesOfItem_6 (fun _ => bX5_findLinesOfItem_68 (g w hLw hfr)) (fun q => absurd (hw.nl ▸ le_nI (Nat.le_refl s.nl) (by omega)) q)
      · have hz : (fo (lsK s i d) ((q, f0) : PS) s.nl).1 = 0 := by
          rcases hS with z | z
          · exact absurd z e
          · exact z
        refine bX5_findLinesOfItem_6 (fun q => absurd (hw.nl ▸ q) (ge_nI (n := s.nl) (by omega) (by omega))) (fun _ => bX5_findLinesOfItem_18 (fun _ => bX5_findLinesOfItem_68 (g w hLw hfr)) (fun q => ?_))
        rw [hz] at q
        exact absurd ((nI_le0 (by decide)).mpr rfl) q
  exact key w0 _ hL frL.rfl
theorem LnC_0 {w : mmM} (h : w 5 0 = 0) : LnC w (fun _ => 0) := ⟨by rw [h]; show (0 : Int32) = nI (sm _ 960); rw [sm_0 (fun _ _ => if_pos rfl)]; rfl, fun x _ hx => absurd rfl hx⟩
theorem k_findC {p : Nat} {w0 : mmM} (h : Inw n s) (hw0 : RepC w0 s) (hp : p < s.np) (hs : s.st p = 111) (g : ∀ w', LnC w' (lsP s p) → frL w0 w' → K (.inl none) w') : mm_M kX5_findLines [.ref 0, .int (nI p)] w0 K := by
  have hnp := h.np_; have hni := h.ni_; have hdu := h.du_ p hp hs; have htd := h.td_; have hn := h.n_
  have a1 := in_nI (show p < 20 by omega) (by decide)
  refine bX5_findLines_0 ?_
  have f1 : frL w0 (mm_up w0 5 0 0) := fun a h1 _ => mm_up_row h1
  refine e_for (n := s.ni) (a0 := (fun _ => 0 : Nat → Nat)) (f := fun i f => (lsI s i (s.du p) (s.q p i) f).2) (E := fun i f => ∀ w, LnC w f → frL w0 w → mm_E kX5_findLines 10 [.ref 0, .int (nI p), .int (nI i)] [] w 0 K) (fun i f => lsH s p i f) lsH_0 (fun i f _ hf => lsH_s h hf) ?_ ?_ _ (LnC_0 mm_up_same) f1
  · intro i f hi hf ih w hLw hfr
    have hw := hfr.rep hw0
    refine bX5_findLines_10 (fun q => absurd (hw.ni ▸ q) (ge_nI hi (by omega))) (fun _ => bX5_findLines_21 a1 a1 (in_nI (by omega) (by decide)) (by decide) ?_)
    have hq := h.q_ p hp
    have hs6 := sm_at (f := s.q p) (j := i) (n := i + 1) (by omega)
    have hm : sm (s.q p) (i + 1) ≤ sm (s.q p) 6 := by
      have : ∀ m, i + 1 + m ≤ 6 → sm (s.q p) (i + 1) ≤ sm (s.q p) (i + 1 + m) := by
        intro m
        induction m with
        | zero => intro _; exact Nat.le_refl _
        | succ m ih => intro hm; exact Nat.le_trans (ih (by omega)) (Nat.le_add_right _ _)
      have := this (6 - (i + 1)) (by omega)
      rw [show i + 1 + (6 - (i + 1)) = 6 by omega] at this
      exact this
    have hm2 : sm (s.q p) i + s.q p i ≤ sm (s.q p) 6 := hm
    have hsm := hf.2.2.2
    rw [cl_nI (by omega), cl_nI (by omega), hw.du, hw.q p (by omega) i (by omega)]
    refine k_flItem h hw hLw hi (by omega) (lsH_f h hf) (by omega) (fun w' hL' hf' => mm_Kv 0 rfl (bX5_findLines_46 ?_))
    rw [nI_1]
    exact ih w' hL' (hfr.tr hf')
  · intro _ w hLw hfr
    have hw := hfr.rep hw0
    exact bX5_findLines_10 (fun _ => bX5_findLines_52 (g w hLw hfr)) (fun q => absurd (hw.ni ▸ le_nI (Nat.le_refl s.ni) (by omega)) q)
end FC
