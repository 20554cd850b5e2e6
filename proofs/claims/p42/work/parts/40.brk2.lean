/-! promises that break: the class's loop, the model's -/
def St.bk (s : St) (p : Nat) : St := s.set 13 (fun _ => updN s.st p 98)
def brk (i : Nat) : Nat → St → Nat × St
  | 0, s => (0, s)
  | m + 1, s => match s.sd i with
    | none => (0, s)
    | some a => match s.lo i (s.td + a) with
      | none => (0, s)
      | some p => ((brk i m (s.bk p)).1 + 1, (brk i m (s.bk p)).2)
def St.oc (s : St) : Nat := sm (fun p => if s.st p = 111 then 1 else 0) s.np
section B2
variable {n : Nat} {s : St}
theorem lo_of {i a : Nat} (h : s.sd i = some a) : ∃ p, s.lo i (s.td + a) = some p ∧ p < s.np ∧ s.st p = 111 ∧ a < 61 := by
  obtain ⟨h1, h2⟩ := sLast_some h
  have h2 : s.sk i (s.td + a) < s.pr i (s.td + a) := of_decide_eq_true h2
  obtain ⟨p, hp, hc⟩ := pr_pos (s := s) (i := i) (d := s.td + a) (by omega)
  cases e : s.lo i (s.td + a) with
  | none =>
    have := sLast_none e p hp
    rw [hc] at this
    cases this
  | some p2 =>
    obtain ⟨h3, h4⟩ := sLast_some e
    exact ⟨p2, rfl, h3, (of_decide_eq_true h4).1.1, h1⟩
theorem brk_n {i m : Nat} (h : s.sd i = none) : brk i m s = (0, s) := by
  cases m with
  | zero => rfl
  | succ m => unfold brk; rw [h]
theorem brk_s {i m a p : Nat} (h : s.sd i = some a) (h2 : s.lo i (s.td + a) = some p) : brk i (m + 1) s = ((brk i m (s.bk p)).1 + 1, (brk i m (s.bk p)).2) := by
  rw [brk.eq_2]
  simp only [h, h2]
theorem oc_bk {p : Nat} (hp : p < s.np) (hs : s.st p = 111) : (s.bk p).oc + 1 = s.oc := by
  have := sm_one (f := fun p => if s.st p = 111 then 1 else 0) (g := fun p2 => if updN s.st p 98 p2 = 111 then 1 else 0) (j := p) (n := s.np) hp (fun b hb => by
    show (if updN s.st p 98 b = 111 then 1 else 0) = if s.st b = 111 then 1 else 0
    rw [updN_ne hb])
  simp only [updN_at, hs, if_true] at this
  rw [if_neg (show ¬ (98 : Nat) = 111 by decide)] at this
  exact this
theorem Inw.bk {n p : Nat} {s : St} (h : Inw n s) : Inw n (s.bk p) := by
  refine h.c_st (fun p2 hp hs => ?_) (fun p2 => ?_) (fun p2 hp hs => ?_)
  · by_cases e : p2 = p
    · subst e; rw [updN_at] at hs; omega
    · rw [updN_ne e] at hs; exact h.du_ p2 hp hs
  · by_cases e : p2 = p
    · subst e; rw [updN_at]; omega
    · rw [updN_ne e]; exact h.st_ p2
  · by_cases e : p2 = p
    · subst e; rw [updN_at] at hs; omega
    · rw [updN_ne e] at hs; exact h.pk_ p2 hp hs
theorem pr_bk {p : Nat} (i d : Nat) : (s.bk p).pr i d ≤ s.pr i d := by
  refine pr_mono (s := s) (s2 := s.bk p) rfl (fun p2 _ hs => ?_) rfl rfl i d
  have hs : updN s.st p 98 p2 = 111 := hs
  by_cases e : p2 = p
  · subst e; rw [updN_at] at hs; omega
  · rw [updN_ne e] at hs; exact hs
theorem sd_oc {i a : Nat} (h : s.sd i = some a) : 0 < s.oc := by
  obtain ⟨p, _, hp, hs, _⟩ := lo_of h
  have := sm_at (f := fun p => if s.st p = 111 then 1 else 0) hp
  have this : (if s.st p = 111 then 1 else 0) ≤ s.oc := this
  rw [if_pos hs] at this
  omega
theorem brk_fin {n i : Nat} : ∀ (m : Nat) (s : St), Inw n s → s.oc ≤ m → Inw n (brk i m s).2 ∧ (brk i m s).2.sd i = none ∧ (∀ j d, (brk i m s).2.pr j d ≤ s.pr j d) ∧ (∀ j d, (brk i m s).2.sk j d = s.sk j d) ∧ (brk i m s).2.td = s.td := by
  intro m
  induction m with
  | zero =>
    intro s h ho
    refine ⟨h, ?_, fun _ _ => Nat.le_refl _, fun _ _ => rfl, rfl⟩
    cases e : s.sd i with
    | none => exact e
    | some a =>
      have := sd_oc e
      omega
  | succ m ih =>
    intro s h ho
    cases e : s.sd i with
    | none =>
      rw [brk_n e]
      exact ⟨h, e, fun _ _ => Nat.le_refl _, fun _ _ => rfl, rfl⟩
    | some a =>
      obtain ⟨p, e2, hp, hs, _⟩ := lo_of e
      rw [brk_s e e2]
      have := oc_bk hp hs
      obtain ⟨h1, h2, h3, h4, h5⟩ := ih (s.bk p) h.bk (by omega)
      exact ⟨h1, h2, fun j d => Nat.le_trans (h3 j d) (pr_bk j d), fun j d => (h4 j d).trans rfl, h5⟩
theorem k_brkC {i : Nat} (hi : i < 6) {w0 : mmM} {K : mmO → mmM → Prop} : ∀ (m k : Nat) (s : St) (w : mmM) (l4 l5 : Value), Inw n s → RepC w s → fC w0 w → m ≤ 20 → (∀ w', RepC w' (brk i m s).2 → fC w0 w' → K (.inl (some (.int (nI (k + (brk i m s).1))))) w') → mm_E kX5_breakPromises 4 [.ref 0, .int (nI i), .int (nI k), .int (nI (20 - m)), l4, l5] [] w 0 K := by
  intro m
  induction m with
  | zero =>
    intro k s w l4 l5 h hw hf _ g
    exact bX5_breakPromises_4 (fun _ => bX5_breakPromises_68 (g w hw hf)) (fun q => absurd (by decide) q)
  | succ m ih =>
    intro k s w l4 l5 h hw hf hm g
    have htd := h.td_; have hn := h.n_; have hnp := h.np_
    refine bX5_breakPromises_4 (fun q => absurd q (ge_nI (n := 20) (by omega) (by decide))) (fun _ => bX5_breakPromises_10 (by decide) (k_sdC h hw hi (mm_Kr 0 rfl ?_)))
    cases e : s.sd i with
    | none =>
      rw [brk_n e] at g
      exact bX5_breakPromises_15 (fun _ => bX5_breakPromises_23 (bX5_breakPromises_37 (fun _ => bX5_breakPromises_45 (g w hw hf)) (fun q => absurd rfl q))) (fun q => absurd rfl q)
    | some a =>
      obtain ⟨p, e2, hp, hs, ha⟩ := lo_of e
      rw [brk_s e e2] at g
      refine bX5_breakPromises_15 (fun q => absurd q (nI_m1 (by omega))) (fun _ => bX5_breakPromises_27 (by decide) (k_loC h hw hi (by omega) (mm_Kr 0 rfl ?_)))
      rw [e2]
      refine bX5_breakPromises_37 (fun q => absurd q (nI_m1 (by omega))) (fun _ => bX5_breakPromises_47 (in_nI (by omega) (by decide)) ?_)
      rw [nI_1, nI_1, cl_nI (by omega), show 20 - (m + 1) + 1 = 20 - m by omega]
      refine ih (k + 1) (s.bk p) _ _ _ h.bk (hw.st1 (p := p) (c := 98)) (hf.tr (fun j hj => mm_up_row (by omega))) (by omega) (fun w' hw' hf' => ?_)
      have := g w' hw' hf'
      rw [show k + 1 + (brk i m (s.bk p)).1 = k + ((brk i m (s.bk p)).1 + 1) by omega]
      exact this
end B2
