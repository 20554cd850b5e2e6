/-! the lines that a promise shows, open or picked; the calls that read one -/
def Vw (r1 r2 r3 : Nat → Int32) (N : Nat) (B L Q : Nat → Nat) : Prop := ∀ k, k < N → r1 k = nI (B k) ∧ r2 k = nI (L k) ∧ r3 k = nI (Q k)
noncomputable def kx (f : Nat → Nat) (k : Nat) : Nat := if h : k < cnt f 960 then Classical.choose (cnt_at h) else 0
theorem kx_ok {f : Nat → Nat} {k : Nat} (h : k < cnt f 960) : kx f k < 960 ∧ f (kx f k) ≠ 0 ∧ cnt f (kx f k) = k := by
  unfold kx
  rw [dif_pos h]
  exact Classical.choose_spec (cnt_at h)
theorem kx_lt {f : Nat → Nat} {j k : Nat} (hjk : j < k) (h : k < cnt f 960) : kx f j < kx f k := by
  obtain ⟨h1, h2, h3⟩ := kx_ok h
  obtain ⟨g1, g2, g3⟩ := kx_ok (f := f) (k := j) (by omega)
  rcases Nat.lt_or_ge (kx f j) (kx f k) with q | q
  · exact q
  · have := cnt_mono (f := f) q
    omega
noncomputable def vN (s : St) (p : Nat) : Nat := if s.st p = 111 then cnt (lsP s p) 960 else s.lc p
noncomputable def vB (s : St) (p k : Nat) : Nat := if s.st p = 111 then kyb (kx (lsP s p) k) else s.jf (s.fe p + k) - 1
noncomputable def vL (s : St) (p k : Nat) : Nat := if s.st p = 111 then kyl (kx (lsP s p) k) else s.jl (s.fe p + k)
noncomputable def vQ (s : St) (p k : Nat) : Nat := if s.st p = 111 then lsP s p (kx (lsP s p) k) else s.jq (s.fe p + k)
theorem Ln_Vw {r1 r2 r3 : Nat → Int32} {s : St} {p : Nat} (hs : s.st p = 111) (h : ∀ x, x < 960 → lsP s p x ≠ 0 → r1 (cnt (lsP s p) x) = nI (kyb x) ∧ r2 (cnt (lsP s p) x) = nI (kyl x) ∧ r3 (cnt (lsP s p) x) = nI (lsP s p x)) : Vw r1 r2 r3 (vN s p) (vB s p) (vL s p) (vQ s p) := by
  intro k hk
  unfold vN at hk
  rw [if_pos hs] at hk
  obtain ⟨h1, h2, h3⟩ := kx_ok hk
  have := h _ h1 h2
  rw [h3] at this
  unfold vB vL vQ
  rw [if_pos hs, if_pos hs, if_pos hs]
  exact this
section VW
variable {n : Nat} {s : St} {K : mmO → mmM → Prop} {x y : Int32}
theorem vw_ok (h : Inw n s) {p : Nat} (hp : p < s.np) (hs : s.st p = 111 ∨ s.st p = 112) : vN s p ≤ 60 ∧ ∀ k, k < vN s p → vB s p k < 40 ∧ vL s p k < s.nl ∧ vQ s p k ≤ 60 := by
  by_cases q : s.st p = 111
  · obtain ⟨hH, hsm, hc⟩ := lsP_ok h hp
    unfold vN vB vL vQ
    simp only [if_pos q]
    refine ⟨hc, fun k hk => ?_⟩
    obtain ⟨h1, h2, h3⟩ := kx_ok hk
    refine ⟨kyb_lt h1, ?_, Nat.le_trans (sm_at (f := lsP s p) h1) hsm⟩
    by_cases c : kx (lsP s p) k % 24 < s.nl
    · exact c
    · exact absurd (hH.1 _ (fun z => absurd z c)) h2
  · have q2 : s.st p = 112 := hs.resolve_left q
    obtain ⟨h1, h2, h3, h4⟩ := h.pk_ p hp q2
    unfold vN vB vL vQ
    simp only [if_neg q]
    refine ⟨h1, fun k hk => ?_⟩
    have := h.jf_ (s.fe p + k) (by omega)
    have := h3 k hk
    exact ⟨by omega, h.jl_ _ (by omega), h.jq_ _ (by omega)⟩
theorem k_insLast {m b l q : Nat} {w : mmM} (hsz : w 5 0 = nI m) (hm : m < 60) (hb : b < 40) (hl : l < 1000) (hprev : 0 < m → ∃ b1 l1, w 78 (m - 1) = nI b1 ∧ w 79 (m - 1) = nI l1 ∧ b1 < 40 ∧ l1 < 1000 ∧ ¬ aft b1 l1 b l) (g : ∀ w', w' 5 0 = nI (m + 1) → w' 78 = upd (w 78) m (nI b) → w' 79 = upd (w 79) m (nI l) → w' 80 = upd (w 80) m (nI q) → frL w w' → K (.inl none) w') : mm_M kX3_insert [.ref 5, .int (nI b), .int (nI l), .int (nI q)] w K := by
  have a1 := in_nI (show m < 60 by omega) (by decide)
  have fin : mm_E kX3_insert 88 [.ref 5, .int (nI b), .int (nI l), .int (nI q), .int (nI m)] [] w 0 K := by
    refine bX3_insert_88 a1 a1 a1 ?_
    rw [cl_nI (by omega), hsz, nI_1]
    refine g _ mm_up_same ?_ ?_ ?_ (fun a h1 h2 => ?_)
    · rw [mm_up_row (by decide), mm_up_row (by decide), mm_up_row (by decide), mm_up_at]
    · rw [mm_up_row (by decide), mm_up_row (by decide), mm_up_at, mm_up_row (by decide)]
    · rw [mm_up_row (by decide), mm_up_at, mm_up_row (by decide), mm_up_row (by decide)]
    · rw [mm_up_row h1, mm_up_row (by omega), mm_up_row (by omega), mm_up_row (by omega)]
  refine bX3_insert_0 (fun _ => bX3_insert_10 ?_) (fun z => absurd (by rw [hsz]; exact nI_lt (b := 60) hm (by decide)) z)
  rw [hsz]
  cases m with
  | zero => exact bX3_insert_16 (fun _ => fin) (fun z => absurd (le_nI (Nat.le_refl 0) (by decide)) z)
  | succ m =>
    obtain ⟨b1, l1, r1, r2, hb1, hl1, hna⟩ := hprev (Nat.succ_pos m)
    have r1 : w 78 m = nI b1 := r1
    have r2 : w 79 m = nI l1 := r2
    refine bX3_insert_16 (fun z => absurd z (nI_nle (by omega) (by omega))) (fun _ => bX3_insert_21 (by decide) ?_)
    rw [nI_pred]
    exact k_isAfter (by omega) r1 r2 hb1 hb hl1 hl (fun z => absurd z hna) (fun _ => mm_Kr 0 rfl (bX3_insert_31 (fun _ => fin) (fun z => absurd rfl z)))
theorem lx_naft {b1 l1 b l : Nat} (h : lx b1 l1 b l) : ¬ aft b1 l1 b l := by
  rintro (⟨e, q⟩ | ⟨e, q⟩)
  · rcases h with z | z
    · rw [e] at z; omega
    · omega
  · rcases h with z | z
    · omega
    · exact e z.1
theorem k_recallC {p : Nat} {w0 : mmM} (h : Inw n s) (hw0 : RepC w0 s) (hp : p < s.np) (hs : s.st p = 112) (g : ∀ w', w' 5 0 = nI (s.lc p) → Vw (w' 78) (w' 79) (w' 80) (s.lc p) (vB s p) (vL s p) (vQ s p) → frL w0 w' → K (.inl none) w') : mm_M kX5_recallLines [.ref 0, .int (nI p)] w0 K := by
  have hnp := h.np_; have hne := h.ne_; have hnl := h.nl_
  obtain ⟨h1, h2, h3, h4⟩ := h.pk_ p hp hs
  have a1 := in_nI (show p < 20 by omega) (by decide)
  have n111 : s.st p ≠ 111 := by omega
  refine bX5_recallLines_0 a1 a1 ?_
  have eend : (if nI s.ne < nI (s.fe p) + nI (s.lc p) then nI s.ne else nI (s.fe p) + nI (s.lc p)) = nI (s.fe p + s.lc p) := by
    rw [nI_add, min_nI (by omega) (by omega), Nat.min_eq_left h2]
  rw [cl_nI (by omega), hw0.ne, hw0.fe, hw0.lc, eend]
  refine e_for0 (α := Unit) (n := s.lc p) (a0 := ()) (f := fun _ a => a) (E := fun k _ => ∀ w, w 5 0 = nI k → Vw (w 78) (w 79) (w 80) k (vB s p) (vL s p) (vQ s p) → frL w0 w → mm_E kX5_recallLines 43 [.ref 0, .int (nI p), .int (nI (s.fe p)), .int (nI (s.fe p + s.lc p)), .int (nI (s.fe p + k))] [] w 0 K) ?_ ?_ _ mm_up_same (fun k hk => absurd hk (Nat.not_lt_zero _)) (fun a h1 _ => mm_up_row h1)
  · intro k _ hk ih w hsz hV hfr
    have hw := hfr.rep hw0
    have a2 := in_nI (show s.fe p + k < 150 by omega) (by decide)
    have hjf := h.jf_ (s.fe p + k) (by omega)
    have hjl := h.jl_ (s.fe p + k) (by omega)
    have hpos := h3 k hk
    have ejf : nI (s.jf (s.fe p + k)) - 1 = nI (s.jf (s.fe p + k) - 1) := by
      have := nI_pred (s.jf (s.fe p + k) - 1)
      rw [show s.jf (s.fe p + k) - 1 + 1 = s.jf (s.fe p + k) by omega] at this
      exact this
    have eB : vB s p k = s.jf (s.fe p + k) - 1 := if_neg n111
    have eL : vL s p k = s.jl (s.fe p + k) := if_neg n111
    have eQ : vQ s p k = s.jq (s.fe p + k) := if_neg n111
    refine bX5_recallLines_43 (fun q => absurd q (nI_ge (a := s.fe p + k) (by omega) (by omega))) (fun _ => bX5_recallLines_49 a2 a2 a2 (by decide) ?_)
    have w74 : w 74 (s.fe p + k) = nI (vB s p k) := by rw [hw.jf, eB]; exact ejf
    have w73 : w 73 (s.fe p + k) = nI (vL s p k) := by rw [hw.jl, eL]
    have w76 : w 76 (s.fe p + k) = nI (vQ s p k) := by rw [hw.jq, eQ]
    rw [cl_nI (by omega), w74, w73, w76]
    refine k_insLast hsz (by omega) (by omega) (by omega) (fun hk0 => ?_) (fun w' g5 g78 g79 g80 gfr => mm_Kv 0 rfl (bX5_recallLines_86 ?_))
    · obtain ⟨r1, r2, _⟩ := hV (k - 1) (by omega)
      have hl4 := h4 (k - 1) (by omega)
      rw [show k - 1 + 1 = k by omega] at hl4
      have eB1 : vB s p (k - 1) = s.jf (s.fe p + (k - 1)) - 1 := if_neg n111
      have eL1 : vL s p (k - 1) = s.jl (s.fe p + (k - 1)) := if_neg n111
      have hjf1 := h.jf_ (s.fe p + (k - 1)) (by omega)
      have hjl1 := h.jl_ (s.fe p + (k - 1)) (by omega)
      have hpos1 := h3 (k - 1) (by omega)
      refine ⟨_, _, r1, r2, by omega, by omega, ?_⟩
      rw [eB, eL, eB1, eL1]
      exact lx_naft hl4
    · rw [nI_1]
      refine ih w' g5 (fun j hj => ?_) (hfr.tr gfr)
      rw [g78, g79, g80]
      by_cases e : j = k
      · subst e
        exact ⟨if_pos rfl, if_pos rfl, if_pos rfl⟩
      · obtain ⟨r1, r2, r3⟩ := hV j (by omega)
        exact ⟨(if_neg e).trans r1, (if_neg e).trans r2, (if_neg e).trans r3⟩
  · intro w hsz hV hfr
    exact bX5_recallLines_43 (fun _ => bX5_recallLines_92 (g w hsz hV hfr)) (fun q => absurd (le_nI (Nat.le_refl _) (by omega)) q)
theorem st_or (h : Inw n s) (x : Int32) : (∃ p, p < s.np ∧ x = nI p ∧ (s.st p = 111 ∨ s.st p = 112)) ∨ (∃ p, p < s.np ∧ x = nI p ∧ s.st p ≠ 111 ∧ s.st p ≠ 112) ∨ (∀ i, i < s.np → x ≠ nI i) := by
  rcases is_or x s.np with ⟨p, hp, e⟩ | hx
  · by_cases q : s.st p = 111
    · exact Or.inl ⟨p, hp, e, Or.inl q⟩
    · by_cases q2 : s.st p = 112
      · exact Or.inl ⟨p, hp, e, Or.inr q2⟩
      · exact Or.inr (Or.inl ⟨p, hp, e, q, q2⟩)
  · exact Or.inr (Or.inr hx)
theorem k_loadC {p : Nat} {w0 : mmM} (h : Inw n s) (hw0 : RepC w0 s) (hp : p < s.np) (hs : s.st p = 111 ∨ s.st p = 112) (g : ∀ w', w' 5 0 = nI (vN s p) → Vw (w' 78) (w' 79) (w' 80) (vN s p) (vB s p) (vL s p) (vQ s p) → frL w0 w' → K (.inl none) w') : mm_M kX5_loadLines [.ref 0, .int (nI p)] w0 K := by
  have hnp := h.np_
  have a1 := in_nI (show p < 20 by omega) (by decide)
  have es : w0 48 (nI p).toNatClampNeg = nI (s.st p) := by rw [cl_nI (by omega), hw0.st]
  have e1 : (nI (s.st p) = 111) ↔ s.st p = 111 := st_is h p 111 (by decide)
  have e2 : (nI (s.st p) = 112) ↔ s.st p = 112 := st_is h p 112 (by decide)
  have go : mm_E kX5_loadLines 38 [.ref 0, .int (nI p), .int (nI (s.st p))] [] w0 1 K := by
    refine bX5_loadLines_38 (fun q => ?_) (fun q => ?_) <;> rw [e1] at q
    · refine bX5_loadLines_44 (by decide) (k_findC h hw0 hp q (fun w' hL hf => mm_Kv 1 rfl (bX5_loadLines_49 (bX5_loadLines_57 (g w' ?_ ?_ hf)))))
      · rw [hL.1]
        unfold vN
        rw [if_pos q]
      · exact Ln_Vw q hL.2
    · have eN : vN s p = s.lc p := if_neg q
      rw [eN] at g
      exact bX5_loadLines_52 (by decide) (k_recallC h hw0 hp (hs.resolve_left q) (fun w' g1 g2 g3 => mm_Kv 1 rfl (bX5_loadLines_57 (g w' g1 g2 g3))))
  refine bX5_loadLines_0 (by decide) (k_rPromise hnp hw0.np hp (mm_Kv 1 rfl (bX5_loadLines_5 a1 (fun q => ?_) (fun q => ?_)))) <;> rw [es]
  · exact go
  · rw [es, e1] at q
    exact bX5_loadLines_21 (fun _ => go) (fun q2 => absurd (e2.mpr (hs.resolve_left q)) q2)
theorem k_loadC1 {w0 : mmM} (h : Inw n s) (hw0 : RepC w0 s) (hx : ∀ i, i < s.np → x ≠ nI i) (g : K (.inr 2) w0) : mm_M kX5_loadLines [.ref 0, .int x] w0 K := bX5_loadLines_0 (by decide) (k_nPromise h.np_ hw0.np hx (mm_Kx rfl g))
theorem k_loadC2 {p : Nat} {w0 : mmM} (h : Inw n s) (hw0 : RepC w0 s) (hp : p < s.np) (h1 : s.st p ≠ 111) (h2 : s.st p ≠ 112) (g : K (.inr 1) w0) : mm_M kX5_loadLines [.ref 0, .int (nI p)] w0 K := by
  have hnp := h.np_
  have a1 := in_nI (show p < 20 by omega) (by decide)
  have es : w0 48 (nI p).toNatClampNeg = nI (s.st p) := by rw [cl_nI (by omega), hw0.st]
  have e1 : (nI (s.st p) = 111) ↔ s.st p = 111 := st_is h p 111 (by decide)
  have e2 : (nI (s.st p) = 112) ↔ s.st p = 112 := st_is h p 112 (by decide)
  refine bX5_loadLines_0 (by decide) (k_rPromise hnp hw0.np hp (mm_Kv 1 rfl (bX5_loadLines_5 a1 (fun q => ?_) (fun q => ?_)))) <;> rw [es] at q
  · exact absurd (e1.mp q) h1
  · rw [es]
    exact bX5_loadLines_21 (fun q2 => absurd (e2.mp q2) h2) (fun _ => bX5_loadLines_27 (by decide) g)
end VW
