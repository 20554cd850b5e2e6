/-! promises that break: the class's loop, the model's -/
def St.bk (s : St) (p : Nat) : St := s.set 13 (fun _ => updN s.st p 98)
def brk (i : Nat) : Nat → St → Nat × St
  | 0, s => (0, s)
  | m + 1, s => match s.sd i with
    | none => (0, s)
    | some a => match s.lo i (s.td + a) with
      | none => (0, s)
      | some p => ((brk i m (s.bk p)).1 + 1, (brk i m (s.bk p)).2)
def St.oc (s : St) : Nat := sm (fun p => if s.st p = 111 then 1 else 0) s.np
section B2
variable {n : Nat} {s : St}
theorem lo_of {i a : Nat} (h : s.sd i = some a) : ∃ p, s.lo i (s.td + a) = some p ∧ p < s.np ∧ s.st p = 111 ∧ a < 61 := by
  obtain ⟨h1, h2⟩ := sLast_some h
  have h2 : s.sk i (s.td + a) < s.pr i (s.td + a) := of_decide_eq_true h2
  obtain ⟨p, hp, hc⟩ := pr_pos (s := s) (i := i) (d := s.td + a) (by omega)
  cases e : s.lo i (s.td + a) with
  | none =>
    have := sLast_none e p hp
    rw [hc] at this
    cases this
  | some p2 =>
    obtain ⟨h3, h4⟩ := sLast_some e
    exact ⟨p2, rfl, h3, (of_decide_eq_true h4).1.1, h1⟩
theorem brk_n {i m : Nat} (h : s.sd i = none) : brk i m s = (0, s) := by
  cases m with
  | zero => rfl
  | succ m => unfold brk; rw [h]
theorem brk_s {i m a p : Nat} (h : s.sd i = some a) (h2 : s.lo i (s.td + a) = some p) : brk i (m + 1) s = ((brk i m (s.bk p)).1 + 1, (brk i m (s.bk p)).2) := by
  rw [brk.eq_2]
  simp only [h, h2]
theorem oc_bk {p : Nat} (hp : p < s.np) (hs : s.st p = 111) : (s.bk p).oc + 1 = s.oc := by
  have := sm_one (f := fun p => if s.st p = 111 then 1 else 0) (g := fun p2 => if updN s.st p 98 p2 = 111 then 1 else 0) (j := p) (n := s.np) hp (fun b hb => by
    show (if updN s.st p 98 b = 111 then 1 else 0) = if s.st b = 111 then 1 else 0
    rw [updN_ne hb])
  simp only [updN_at, hs, if_true] at this
  rw [if_neg (show ¬ (98 : Nat) = 111 by decide)] at this
  exact this
theorem Inw.bk {n p : Nat} {s : St} (h : Inw n s) : Inw n (s.bk p) := by
  refine h.c_st (fun p2 hp hs => ?_) (fun p2 => ?_) (fun p2 hp hs => ?_)
  · by_cases e : p2 = p
    · subst e; rw [updN_at] at hs; omega
    · rw [updN_ne e] at hs; exact h.du_ p2 hp hs
  · by_cases e : p2 = p
    · subst e; rw [updN_at]; omega
    · rw [updN_ne e]; exact h.st_ p2
  · by_cases e : p2 = p
    · subst e; rw [updN_at] at hs; omega
    · rw [updN_ne e] at hs; exact h.pk_ p2 hp hs
theorem pr_bk {p : Nat} (i d : Nat) : (s.bk p).pr i d ≤ s.pr i d := by
  refine pr_mono (s := s) (s2 := s.bk p) rfl (fun p2 _ hs => ?_) rfl rfl i d
  have hs : updN s.st p 98 p2 = 111 := hs
  by_cases e : p2 = p
  · subst e; rw [updN_at] at hs; omega
  · rw [updN_ne e] at hs; exact hs
theorem sd_oc {i a : Nat} (h : s.sd i = some a) : 0 < s.oc := by
  obtain ⟨p, _, hp, hs, _⟩ := lo_of h
  have := sm_at (f := fun p => if s.st p = 111 then 1 else 0) hp
  have this : (if s.st p = 111 then 1 else 0) ≤ s.oc := this
  rw [if_pos hs] at this
  omega
theorem brk_fin {n i : Nat} : ∀ (m : Nat) (s : St), Inw n s → s.oc ≤ m → Inw n (brk i m s).2 ∧ (brk i m s).2.sd i = none ∧ (∀ j d, (brk i m s).2.pr j d ≤ s.pr j d) ∧ (∀ j d, (brk i m s).2.sk j d = s.sk j d) ∧ (brk i m s).2.td = s.td := by
  intro m
  induction m with
  | zero =>
    intro s h ho
    refine ⟨h, ?_, fun _ _ => Nat.le_refl _, fun _ _ => rfl, rfl⟩
    cases e : s.sd i with
    | none => exact e
    | some a =>
      have := sd_oc e
      omega
  | succ m ih =>
    intro s h ho
    cases e : s.sd i with
    | none =>
      rw [brk_n e]
      exact ⟨h, e, fun _ _ => Nat.le_refl _, fun _ _ => rfl, rfl⟩
    | some a =>
      obtain ⟨p, e2, hp, hs, _⟩ := lo_of e
      rw [brk_s e e2]
      have := oc_bk hp hs
      obtain ⟨h1, h2, h3, h4, h5⟩ := ih (s.bk p) h.bk (by omega)
      exact ⟨h1, h2, fun j d => Nat.le_trans (h3 j d) (pr_bk j d), fun j d => (h4 j d).trans rfl, h5⟩
theorem k_brkC {i : Nat} (hi : i < 6) {w0 : mmM} {K : mmO → mmM → Prop} : ∀ (m k : Nat) (s : St) (w : mmM) (l4 l5 : Value), Inw n s → RepC w s → fC w0 w → m ≤ 20 → (∀ w', RepC w' (brk i m s).2 → fC w0 w' → K (.inl (some (.int (nI (k + (brk i m s).1))))) w') → mm_E kX5_breakPromises 4 [.ref 0, .int (nI i), .int (nI k), .int (nI (20 - m)), l4, l5] [] w 0 K := by
  intro m
  induction m with
  | zero =>
    intro k s w l4 l5 h hw hf _ g
    exact bX5_breakPromises_4 (fun _ => bX5_breakPromises_68 (g w hw hf)) (fun q => absurd (by decide) q)
  | succ m ih =>
    intro k s w l4 l5 h hw hf hm g
    have htd := h.td_; have hn := h.n_; have hnp := h.np_
    refine bX5_breakPromises_4 (fun q => absurd q (ge_nI (n := 20) (by omega) (by decide))) (fun _ => bX5_breakPromises_10 (by decide) (k_sdC h hw hi (mm_Kr 0 rfl ?_)))
    cases e : s.sd i with
    | none =>
      rw [brk_n e] at g
      exact bX5_breakPromises_15 (fun _ => bX5_breakPromises_23 (bX5_breakPromises_37 (fun _ => bX5_breakPromises_45 (g w hw hf)) (fun q => absurd rfl q))) (fun q => absurd rfl q)
    | some a =>
      obtain ⟨p, e2, hp, hs, ha⟩ := lo_of e
      rw [brk_s e e2] at g
      refine bX5_breakPromises_15 (fun q => absurd q (nI_m1 (by omega))) (fun _ => bX5_breakPromises_27 (by decide) (k_loC h hw hi (by omega) (mm_Kr 0 rfl ?_)))
      rw [e2]
      refine bX5_breakPromises_37 (fun q => absurd q (nI_m1 (by omega))) (fun _ => bX5_breakPromises_47 (in_nI (by omega) (by decide)) ?_)
      rw [nI_1, nI_1, cl_nI (by omega), show 20 - (m + 1) + 1 = 20 - m by omega]
      refine ih (k + 1) (s.bk p) _ _ _ h.bk (hw.st1 (p := p) (c := 98)) (hf.tr (fun j hj => mm_up_row (by omega))) (by omega) (fun w' hw' hf' => ?_)
      have := g w' hw' hf'
      rw [show k + 1 + (brk i m (s.bk p)).1 = k + ((brk i m (s.bk p)).1 + 1) by omega]
      exact this
theorem k_loM {i d p : Nat} {w : mmM} {K : mmO → mmM → Prop} {x2 : Int32} (h : Inw n s) (hw : RepM w s) (hi : i < 6) (hd : d < 100000) : ∀ m, m ≤ s.np → sLast (cO s i d) m = some p → mm_E kX6_breaks 61 [.ref 81, .int (nI i), .int x2, .int (nI d), .int (nI p)] [] w 0 K → mm_E kX6_breaks 20 [.ref 81, .int (nI i), .int x2, .int (nI d), .int (nI m - 1)] [] w 0 K := by
  intro m
  induction m with
  | zero => intro _ q; cases q
  | succ m ih =>
    intro hm q g
    have hnp := h.np_; have htd := h.td_; have hn := h.n_
    have a1 := in_nI (show m < 20 by omega) (by decide)
    have hq := h.qb (p := m) (by omega) hi
    rw [nI_pred]
    have next : cO s i d m = false → mm_E kX6_breaks 55 [.ref 81, .int (nI i), .int x2, .int (nI d), .int (nI m)] [] w 0 K := by
      intro hc
      refine bX6_breaks_55 ?_
      rw [show nI m + -1 = nI m - 1 by rw [Int32.sub_eq_add_neg]]
      unfold sLast at q
      rw [hc] at q
      exact ih (by omega) q g
    refine bX6_breaks_20 a1 (fun z => ?_) (fun z => next (decide_eq_false (fun y => z ?_)))
    · rw [cl_nI (by omega), hw.st] at z
      have z := (st_is h m 111 (by decide)).mp z
      have hdu := h.du_ m (by omega) z
      refine bX6_breaks_32 a1 (fun z2 => next (decide_eq_false ?_)) (fun z2 => ?_) <;> rw [cl_nI (by omega), hw.du, nI_lti (by omega) (by omega)] at z2
      · omega
      · refine bX6_breaks_43 a1 (in_nI hi (by decide)) (fun z3 => next (decide_eq_false ?_)) (fun z3 => ?_) <;> rw [cl_nI (i := m) (by omega), cl_nI (by omega), hw.q m (by omega) i hi] at z3
        · have : s.q m i = 0 := (nI_eq (b := 0) (by omega) (by omega)).mp z3
          omega
        · have hc : cO s i d m = true := decide_eq_true ⟨⟨z, by omega⟩, by
            rcases Nat.eq_zero_or_pos (s.q m i) with y | y
            · exact absurd (by rw [y]; rfl) z3
            · exact y⟩
          unfold sLast at q
          rw [hc] at q
          cases q
          exact g
    · rw [cl_nI (by omega), hw.st]
      exact (st_is h m 111 (by decide)).mpr y.1.1
theorem k_brkM {i : Nat} (hi : i < 6) {w0 : mmM} {K : mmO → mmM → Prop} : ∀ (m k : Nat) (s : St) (w : mmM) (l4 : Value), Inw n s → RepM w s → fM w0 w → w 81 26 = 0 → s.oc ≤ m → (∀ w', RepM w' (brk i m s).2 → fM w0 w' → w' 81 26 = 0 → K (.inl (some (.int (nI (k + (brk i m s).1))))) w') → mm_E kX6_breaks 8 [.ref 81, .int (nI i), .int (nI k), .int (match s.sd i with | some a => nI (s.td + a) | none => -1), l4] [] w 0 K := by
  intro m
  induction m with
  | zero =>
    intro k s w l4 h hw hf ht ho g
    cases e : s.sd i with
    | none => exact bX6_breaks_8 (fun _ => bX6_breaks_82 (g w hw hf ht)) (fun q => absurd (show (-1 : Int32) < 0 by decide) q)
    | some a =>
      have := sd_oc e
      omega
  | succ m ih =>
    intro k s w l4 h hw hf ht ho g
    have htd := h.td_; have hn := h.n_; have hnp := h.np_
    cases e : s.sd i with
    | none =>
      rw [brk_n e] at g
      exact bX6_breaks_8 (fun _ => bX6_breaks_82 (g w hw hf ht)) (fun q => absurd (show (-1 : Int32) < 0 by decide) q)
    | some a =>
      obtain ⟨p, e2, hp, hs, ha⟩ := lo_of e
      rw [brk_s e e2] at g
      have hoc := oc_bk hp hs
      refine bX6_breaks_8 (fun q => absurd q (nI_pos (by omega))) (fun _ => bX6_breaks_12 ?_)
      rw [hw.np]
      refine k_loM h hw hi (by omega) s.np (Nat.le_refl _) e2 (bX6_breaks_61 (in_nI (by omega) (by decide)) (by decide) ?_)
      rw [cl_nI (by omega), nI_1]
      have hw2 : RepM (mm_up w 121 p (nI 98)) (s.bk p) := hw.st1 (p := p) (c := 98) (by decide)
      refine k_sdM h.bk hw2 hi (mm_Kr 0 rfl (bX6_breaks_78 ?_))
      refine ih (k + 1) (s.bk p) _ _ h.bk hw2 (hf.tr (fun j hj => mm_up_row (by omega))) (by rw [mm_up_row (by decide)]; exact ht) (by omega) (fun w' hw' hf' ht' => ?_)
      have := g w' hw' hf' ht'
      rw [show k + 1 + (brk i m (s.bk p)).1 = k + ((brk i m (s.bk p)).1 + 1) by omega]
      exact this
end B2
