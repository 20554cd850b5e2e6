/-! the lines that a promise shows, open or picked; the calls that read one -/
def Vw (r1 r2 r3 : Nat → Int32) (N : Nat) (B L Q : Nat → Nat) : Prop := ∀ k, k < N → r1 k = nI (B k) ∧ r2 k = nI (L k) ∧ r3 k = nI (Q k)
noncomputable def kx (f : Nat → Nat) (k : Nat) : Nat := if h : k < cnt f 960 then Classical.choose (cnt_at h) else 0
theorem kx_ok {f : Nat → Nat} {k : Nat} (h : k < cnt f 960) : kx f k < 960 ∧ f (kx f k) ≠ 0 ∧ cnt f (kx f k) = k := by
  unfold kx
  rw [dif_pos h]
  exact Classical.choose_spec (cnt_at h)
theorem kx_lt {f : Nat → Nat} {j k : Nat} (hjk : j < k) (h : k < cnt f 960) : kx f j < kx f k := by
  obtain ⟨h1, h2, h3⟩ := kx_ok h
  obtain ⟨g1, g2, g3⟩ := kx_ok (f := f) (k := j) (by omega)
  rcases Nat.lt_or_ge (kx f j) (kx f k) with q | q
  · exact q
  · have := cnt_mono (f := f) q
    omega
noncomputable def vN (s : St) (p : Nat) : Nat := if s.st p = 111 then cnt (lsP s p) 960 else s.lc p
noncomputable def vB (s : St) (p k : Nat) : Nat := if s.st p = 111 then kyb (kx (lsP s p) k) else s.jf (s.fe p + k) - 1
noncomputable def vL (s : St) (p k : Nat) : Nat := if s.st p = 111 then kyl (kx (lsP s p) k) else s.jl (s.fe p + k)
noncomputable def vQ (s : St) (p k : Nat) : Nat := if s.st p = 111 then lsP s p (kx (lsP s p) k) else s.jq (s.fe p + k)
theorem Ln_Vw {r1 r2 r3 : Nat → Int32} {s : St} {p : Nat} (hs : s.st p = 111) (h : ∀ x, x < 960 → lsP s p x ≠ 0 → r1 (cnt (lsP s p) x) = nI (kyb x) ∧ r2 (cnt (lsP s p) x) = nI (kyl x) ∧ r3 (cnt (lsP s p) x) = nI (lsP s p x)) : Vw r1 r2 r3 (vN s p) (vB s p) (vL s p) (vQ s p) := by
  intro k hk
  unfold vN at hk
  rw [if_pos hs] at hk
  obtain ⟨h1, h2, h3⟩ := kx_ok hk
  have := h _ h1 h2
  rw [h3] at this
  unfold vB vL vQ
  rw [if_pos hs, if_pos hs, if_pos hs]
  exact this
section VW
variable {n : Nat} {s : St} {K : mmO → mmM → Prop} {x y : Int32}
theorem vw_ok (h : Inw n s) {p : Nat} (hp : p < s.np) (hs : s.st p = 111 ∨ s.st p = 112) : vN s p ≤ 60 ∧ ∀ k, k < vN s p → vB s p k < 40 ∧ vL s p k < s.nl ∧ vQ s p k ≤ 60 := by
  by_cases q : s.st p = 111
  · obtain ⟨hH, hsm, hc⟩ := lsP_ok h hp
    unfold vN vB vL vQ
    simp only [if_pos q]
    refine ⟨hc, fun k hk => ?_⟩
    obtain ⟨h1, h2, h3⟩ := kx_ok hk
    refine ⟨kyb_lt h1, ?_, Nat.le_trans (sm_at (f := lsP s p) h1) hsm⟩
    by_cases c : kx (lsP s p) k % 24 < s.nl
    · exact c
    · exact absurd (hH.1 _ (fun z => absurd z c)) h2
  · have q2 : s.st p = 112 := hs.resolve_left q
    obtain ⟨h1, h2, h3, h4⟩ := h.pk_ p hp q2
    unfold vN vB vL vQ
    simp only [if_neg q]
    refine ⟨h1, fun k hk => ?_⟩
    have := h.jf_ (s.fe p + k) (by omega)
    have := h3 k hk
    exact ⟨by omega, h.jl_ _ (by omega), h.jq_ _ (by omega)⟩
theorem k_insLast {m b l q : Nat} {w : mmM} (hsz : w 5 0 = nI m) (hm : m < 60) (hb : b < 40) (hl : l < 1000) (hprev : 0 < m → ∃ b1 l1, w 78 (m - 1) = nI b1 ∧ w 79 (m - 1) = nI l1 ∧ b1 < 40 ∧ l1 < 1000 ∧ ¬ aft b1 l1 b l) (g : ∀ w', w' 5 0 = nI (m + 1) → w' 78 = upd (w 78) m (nI b) → w' 79 = upd (w 79) m (nI l) → w' 80 = upd (w 80) m (nI q) → frL w w' → K (.inl none) w') : mm_M kX3_insert [.ref 5, .int (nI b), .int (nI l), .int (nI q)] w K := by
  have a1 := in_nI (show m < 60 by omega) (by decide)
  have fin : mm_E kX3_insert 88 [.ref 5, .int (nI b), .int (nI l), .int (nI q), .int (nI m)] [] w 0 K := by
    refine bX3_insert_88 a1 a1 a1 ?_
    rw [cl_nI (by omega), hsz, nI_1]
    refine g _ mm_up_same ?_ ?_ ?_ (fun a h1 h2 => ?_)
    · rw [mm_up_row (by decide), mm_up_row (by decide), mm_up_row (by decide), mm_up_at]
    · rw [mm_up_row (by decide), mm_up_row (by decide), mm_up_at, mm_up_row (by decide)]
    · rw [mm_up_row (by decide), mm_up_at, mm_up_row (by decide), mm_up_row (by decide)]
    · rw [mm_up_row h1, mm_up_row (by omega), mm_up_row (by omega), mm_up_row (by omega)]
  refine bX3_insert_0 (fun _ => bX3_insert_10 ?_) (fun z => absurd (by rw [hsz]; exact nI_lt (b := 60) hm (by decide)) z)
  rw [hsz]
  cases m with
  | zero => exact bX3_insert_16 (fun _ => fin) (fun z => absurd (le_nI (Nat.le_refl 0) (by decide)) z)
  | succ m =>
    obtain ⟨b1, l1, r1, r2, hb1, hl1, hna⟩ := hprev (Nat.succ_pos m)
    have r1 : w 78 m = nI b1 := r1
    have r2 : w 79 m = nI l1 := r2
    refine bX3_insert_16 (fun z => absurd z (nI_nle (by omega) (by omega))) (fun _ => bX3_insert_21 (by decide) ?_)
    rw [nI_pred]
    exact k_isAfter (by omega) r1 r2 hb1 hb hl1 hl (fun z => absurd z hna) (fun _ => mm_Kr 0 rfl (bX3_insert_31 (fun _ => fin) (fun z => absurd rfl z)))
theorem lx_naft {b1 l1 b l : Nat} (h : lx b1 l1 b l) : ¬ aft b1 l1 b l := by
  rintro (⟨e, q⟩ | ⟨e, q⟩)
  · rcases h with z | z
    · rw [e] at z; omega
    · omega
  · rcases h with z | z
    · omega
    · exact e z.1
theorem k_recallC {p : Nat} {w0 : mmM} (h : Inw n s) (hw0 : RepC w0 s) (hp : p < s.np) (hs : s.st p = 112) (g : ∀ w', w' 5 0 = nI (s.lc p) → Vw (w' 78) (w' 79) (w' 80) (s.lc p) (vB s p) (vL s p) (vQ s p) → frL w0 w' → K (.inl none) w') : mm_M kX5_recallLines [.ref 0, .int (nI p)] w0 K := by
  have hnp := h.np_; have hne := h.ne_; have hnl := h.nl_
  obtain ⟨h1, h2, h3, h4⟩ := h.pk_ p hp hs
  have a1 := in_nI (show p < 20 by omega) (by decide)
  have n111 : s.st p ≠ 111 := by omega
  refine bX5_recallLines_0 a1 a1 ?_
  have eend : (if nI s.ne < nI (s.fe p) + nI (s.lc p) then nI s.ne else nI (s.fe p) + nI (s.lc p)) = nI (s.fe p + s.lc p) := by
    rw [nI_add, min_nI (by omega) (by omega), Nat.min_eq_left h2]
  rw [cl_nI (by omega), hw0.ne, hw0.fe, hw0.lc, eend]
  refine e_for0 (α := Unit) (n := s.lc p) (a0 := ()) (f := fun _ a => a) (E := fun k _ => ∀ w, w 5 0 = nI k → Vw (w 78) (w 79) (w 80) k (vB s p) (vL s p) (vQ s p) → frL w0 w → mm_E kX5_recallLines 43 [.ref 0, .int (nI p), .int (nI (s.fe p)), .int (nI (s.fe p + s.lc p)), .int (nI (s.fe p + k))] [] w 0 K) ?_ ?_ _ mm_up_same (fun k hk => absurd hk (Nat.not_lt_zero _)) (fun a h1 _ => mm_up_row h1)
  · intro k _ hk ih w hsz hV hfr
    have hw := hfr.rep hw0
    have a2 := in_nI (show s.fe p + k < 150 by omega) (by decide)
    have hjf := h.jf_ (s.fe p + k) (by omega)
    have hjl := h.jl_ (s.fe p + k) (by omega)
    have hpos := h3 k hk
    have ejf : nI (s.jf (s.fe p + k)) - 1 = nI (s.jf (s.fe p + k) - 1) := by
      have := nI_pred (s.jf (s.fe p + k) - 1)
      rw [show s.jf (s.fe p + k) - 1 + 1 = s.jf (s.fe p + k) by omega] at this
      exact this
    have eB : vB s p k = s.jf (s.fe p + k) - 1 := if_neg n111
    have eL : vL s p k = s.jl (s.fe p + k) := if_neg n111
    have eQ : vQ s p k = s.jq (s.fe p + k) := if_neg n111
    refine bX5_recallLines_43 (fun q => absurd q (nI_ge (a := s.fe p + k) (by omega) (by omega))) (fun _ => bX5_recallLines_49 a2 a2 a2 (by decide) ?_)
    have w74 : w 74 (s.fe p + k) = nI (vB s p k) := by rw [hw.jf, eB]; exact ejf
    have w73 : w 73 (s.fe p + k) = nI (vL s p k) := by rw [hw.jl, eL]
    have w76 : w 76 (s.fe p + k) = nI (vQ s p k) := by rw [hw.jq, eQ]
    rw [cl_nI (by omega), w74, w73, w76]
    refine k_insLast hsz (by omega) (by omega) (by omega) (fun hk0 => ?_) (fun w' g5 g78 g79 g80 gfr => mm_Kv 0 rfl (bX5_recallLines_86 ?_))
    · obtain ⟨r1, r2, _⟩ := hV (k - 1) (by omega)
      have hl4 := h4 (k - 1) (by omega)
      rw [show k - 1 + 1 = k by omega] at hl4
      have eB1 : vB s p (k - 1) = s.jf (s.fe p + (k - 1)) - 1 := if_neg n111
      have eL1 : vL s p (k - 1) = s.jl (s.fe p + (k - 1)) := if_neg n111
      have hjf1 := h.jf_ (s.fe p + (k - 1)) (by omega)
      have hjl1 := h.jl_ (s.fe p + (k - 1)) (by omega)
      have hpos1 := h3 (k - 1) (by omega)
      refine ⟨_, _, r1, r2, by omega, by omega, ?_⟩
      rw [eB, eL, eB1, eL1]
      exact lx_naft hl4
    · rw [nI_1]
      refine ih w' g5 (fun j hj => ?_) (hfr.tr gfr)
      rw [g78, g79, g80]
      by_cases e : j = k
      · subst e
        exact ⟨if_pos rfl, if_pos rfl, if_pos rfl⟩
      · obtain ⟨r1, r2, r3⟩ := hV j (by omega)
        exact ⟨(if_neg e).trans r1, (if_neg e).trans r2, (if_neg e).trans r3⟩
  · intro w hsz hV hfr
    exact bX5_recallLines_43 (fun _ => bX5_recallLines_92 (g w hsz hV hfr)) (fun q => absurd (le_nI (Nat.le_refl _) (by omega)) q)
theorem st_or (h : Inw n s) (x : Int32) : (∃ p, p < s.np ∧ x = nI p ∧ (s.st p = 111 ∨ s.st p = 112)) ∨ (∃ p, p < s.np ∧ x = nI p ∧ s.st p ≠ 111 ∧ s.st p ≠ 112) ∨ (∀ i, i < s.np → x ≠ nI i) := by
  rcases is_or x s.np with ⟨p, hp, e⟩ | hx
  · by_cases q : s.st p = 111
    · exact Or.inl ⟨p, hp, e, Or.inl q⟩
    · by_cases q2 : s.st p = 112
      · exact Or.inl ⟨p, hp, e, Or.inr q2⟩
      · exact Or.inr (Or.inl ⟨p, hp, e, q, q2⟩)
  · exact Or.inr (Or.inr hx)
theorem k_loadC {p : Nat} {w0 : mmM} (h : Inw n s) (hw0 : RepC w0 s) (hp : p < s.np) (hs : s.st p = 111 ∨ s.st p = 112) (g : ∀ w', w' 5 0 = nI (vN s p) → Vw (w' 78) (w' 79) (w' 80) (vN s p) (vB s p) (vL s p) (vQ s p) → frL w0 w' → K (.inl none) w') : mm_M kX5_loadLines [.ref 0, .int (nI p)] w0 K := by
  have hnp := h.np_
  have a1 := in_nI (show p < 20 by omega) (by decide)
  have es : w0 48 (nI p).toNatClampNeg = nI (s.st p) := by rw [cl_nI (by omega), hw0.st]
  have e1 : (nI (s.st p) = 111) ↔ s.st p = 111 := st_is h p 111 (by decide)
  have e2 : (nI (s.st p) = 112) ↔ s.st p = 112 := st_is h p 112 (by decide)
  have go : mm_E kX5_loadLines 38 [.ref 0, .int (nI p), .int (nI (s.st p))] [] w0 1 K := by
    refine bX5_loadLines_38 (fun q => ?_) (fun q => ?_) <;> rw [e1] at q
    · refine bX5_loadLines_44 (by decide) (k_findC h hw0 hp q (fun w' hL hf => mm_Kv 1 rfl (bX5_loadLines_49 (bX5_loadLines_57 (g w' ?_ ?_ hf)))))
      · rw [hL.1]
        unfold vN
        rw [if_pos q]
      · exact Ln_Vw q hL.2
    · have eN : vN s p = s.lc p := if_neg q
      rw [eN] at g
      exact bX5_loadLines_52 (by decide) (k_recallC h hw0 hp (hs.resolve_left q) (fun w' g1 g2 g3 => mm_Kv 1 rfl (bX5_loadLines_57 (g w' g1 g2 g3))))
  refine bX5_loadLines_0 (by decide) (k_rPromise hnp hw0.np hp (mm_Kv 1 rfl (bX5_loadLines_5 a1 (fun q => ?_) (fun q => ?_)))) <;> rw [es]
  · exact go
  · rw [es, e1] at q
    exact bX5_loadLines_21 (fun _ => go) (fun q2 => absurd (e2.mpr (hs.resolve_left q)) q2)
theorem k_loadC1 {w0 : mmM} (h : Inw n s) (hw0 : RepC w0 s) (hx : ∀ i, i < s.np → x ≠ nI i) (g : K (.inr 2) w0) : mm_M kX5_loadLines [.ref 0, .int x] w0 K := bX5_loadLines_0 (by decide) (k_nPromise h.np_ hw0.np hx (mm_Kx rfl g))
theorem k_loadC2 {p : Nat} {w0 : mmM} (h : Inw n s) (hw0 : RepC w0 s) (hp : p < s.np) (h1 : s.st p ≠ 111) (h2 : s.st p ≠ 112) (g : K (.inr 1) w0) : mm_M kX5_loadLines [.ref 0, .int (nI p)] w0 K := by
  have hnp := h.np_
  have a1 := in_nI (show p < 20 by omega) (by decide)
  have es : w0 48 (nI p).toNatClampNeg = nI (s.st p) := by rw [cl_nI (by omega), hw0.st]
  have e1 : (nI (s.st p) = 111) ↔ s.st p = 111 := st_is h p 111 (by decide)
  have e2 : (nI (s.st p) = 112) ↔ s.st p = 112 := st_is h p 112 (by decide)
  refine bX5_loadLines_0 (by decide) (k_rPromise hnp hw0.np hp (mm_Kv 1 rfl (bX5_loadLines_5 a1 (fun q => ?_) (fun q => ?_)))) <;> rw [es] at q
  · exact absurd (e1.mp q) h1
  · rw [es]
    exact bX5_loadLines_21 (fun q2 => absurd (e2.mp q2) h2) (fun _ => bX5_loadLines_27 (by decide) g)
theorem k_lacksM1 {w0 : mmM} (h : Inw n s) (hw0 : RepM w0 s) (hx : ∀ i, i < s.np → x ≠ nI i) (g : K (.inl (some (.int 1))) (mm_up w0 81 26 1)) : mm_M kX6_lacksLines [.ref 81, .int x] w0 K := by
  refine bX6_lacksLines_0 (by decide) (k_noPromise h.np_ hw0.np hx (mm_Kr 0 rfl ?_))
  exact bX6_lacksLines_6 (fun _ => bX6_lacksLines_9 (bX6_lacksLines_40 (fun h => absurd h (by decide)) (fun _ => bX6_lacksLines_50 g))) (fun h => absurd rfl h)
theorem k_lacksM2 {p : Nat} {w0 : mmM} (h : Inw n s) (hw0 : RepM w0 s) (hp : p < s.np) (h1 : s.st p ≠ 111) (h2 : s.st p ≠ 112) (g : K (.inl (some (.int 1))) (mm_up w0 81 26 2)) : mm_M kX6_lacksLines [.ref 81, .int (nI p)] w0 K := by
  have hnp := h.np_
  have a1 := in_nI (show p < 20 by omega) (by decide)
  have es : w0 121 (nI p).toNatClampNeg = nI (s.st p) := by rw [cl_nI (by omega), hw0.st]
  have e1 : (nI (s.st p) = 111) ↔ s.st p = 111 := st_is h p 111 (by decide)
  have e2 : (nI (s.st p) = 112) ↔ s.st p = 112 := st_is h p 112 (by decide)
  refine bX6_lacksLines_0 (by decide) (k_isPromise hnp hw0.np hp (mm_Kr 0 rfl ?_))
  refine bX6_lacksLines_6 (fun h => absurd h (by decide)) (fun _ => bX6_lacksLines_13 a1 (fun q => absurd (e1.mp (es ▸ q)) h1) (fun _ => bX6_lacksLines_24 a1 (fun q => absurd (e2.mp (es ▸ q)) h2) (fun _ => bX6_lacksLines_35 ?_)))
  exact bX6_lacksLines_40 (fun h => absurd h (by decide)) (fun _ => bX6_lacksLines_50 g)
theorem k_lacksM {p : Nat} {w0 : mmM} (h : Inw n s) (hw0 : RepM w0 s) (hp : p < s.np) (hs : s.st p = 111 ∨ s.st p = 112) (g : ∀ w', w' 81 31 = nI (vN s p) → Vw (w' 238) (w' 239) (w' 240) (vN s p) (vB s p) (vL s p) (vQ s p) → frT (mm_up w0 81 26 0) w' → K (.inl (some (.int 0))) w') : mm_M kX6_lacksLines [.ref 81, .int (nI p)] w0 K := by
  have hnp := h.np_
  have a1 := in_nI (show p < 20 by omega) (by decide)
  have hw1 := hw0.th (x := 0)
  have es : w0 121 (nI p).toNatClampNeg = nI (s.st p) := by rw [cl_nI (by omega), hw0.st]
  have es1 : mm_up w0 81 26 0 121 (nI p).toNatClampNeg = nI (s.st p) := by rw [cl_nI (by omega), hw1.st]
  have e1 : (nI (s.st p) = 111) ↔ s.st p = 111 := st_is h p 111 (by decide)
  have e2 : (nI (s.st p) = 112) ↔ s.st p = 112 := st_is h p 112 (by decide)
  have go : mm_E kX6_lacksLines 52 [.ref 81, .int (nI p), .retAddr 0] [] (mm_up w0 81 26 0) 0 K := by
    refine bX6_lacksLines_52 a1 (fun q => ?_) (fun q => ?_) <;> rw [es1, e1] at q
    · refine bX6_lacksLines_63 (by decide) (k_findM h hw1 hp q (fun w' hL hf => mm_Kv 0 rfl (bX6_lacksLines_68 (g w' ?_ ?_ hf))))
      · rw [hL.1]
        unfold vN
        rw [if_pos q]
      · exact Ln_Vw q hL.2
    · have q2 := hs.resolve_left q
      have eN : vN s p = s.lc p := if_neg q
      rw [eN] at g
      obtain ⟨h1, h2, h3, h4⟩ := h.pk_ p hp q2
      obtain ⟨k1, k2⟩ := hw1.kp p (by omega) hp q2
      refine bX6_lacksLines_70 a1 ?_
      rw [cl_nI (by omega), k1]
      refine e_for0 (α := Unit) (n := s.lc p) (a0 := ()) (f := fun _ a => a) (E := fun k _ => ∀ w, w 81 31 = nI (s.lc p) → Vw (w 238) (w 239) (w 240) k (vB s p) (vL s p) (vQ s p) → frT (mm_up w0 81 26 0) w → mm_E kX6_lacksLines 82 [.ref 81, .int (nI p), .int (nI k)] [] w 0 K) ?_ ?_ _ mm_up_same (fun k hk => absurd hk (Nat.not_lt_zero _)) frT.rfl.up31
      · intro k _ hk ih w hsz hV hfr
        have a2 := in_nI (show k < 60 by omega) (by decide)
        have hpos := h3 k hk
        have ejf : nI (s.jf (s.fe p + k)) - 1 = nI (s.jf (s.fe p + k) - 1) := by
          have := nI_pred (s.jf (s.fe p + k) - 1)
          rw [show s.jf (s.fe p + k) - 1 + 1 = s.jf (s.fe p + k) by omega] at this
          exact this
        have eB : vB s p k = s.jf (s.fe p + k) - 1 := if_neg q
        have eL : vL s p k = s.jl (s.fe p + k) := if_neg q
        have eQ : vQ s p k = s.jq (s.fe p + k) := if_neg q
        obtain ⟨t1, t2, t3⟩ := k2 k hk
        have b1 : w (144 + p) k = nI (vB s p k) := by rw [hfr.1 _ (by omega) (by omega), t1, ejf, eB]
        have b2 : w (165 + p) k = nI (vL s p k) := by rw [hfr.1 _ (by omega) (by omega), t2, eL]
        have b3 : w (186 + p) k = nI (vQ s p k) := by rw [hfr.1 _ (by omega) (by omega), t3, eQ]
        refine bX6_lacksLines_82 (fun q => absurd (hsz ▸ q) (nI_ge hk (by omega))) (fun _ => bX6_lacksLines_90 a1 a2 a2 a1 a2 a2 a1 a2 a2 ?_)
        rw [cl_nI (i := p) (by omega), cl_nI (i := k) (by omega), mm_up_row (show 165 + p ≠ 238 by omega), mm_up_row (show 186 + p ≠ 239 by omega), mm_up_row (show 186 + p ≠ 238 by omega), b1, b2, b3, nI_1]
        refine ih _ ?_ (fun j hj => ?_) (((hfr.up (by omega)).up (by omega)).up (by omega))
        · rw [mm_up_row (by decide), mm_up_row (by decide), mm_up_row (by decide)]
          exact hsz
        · have m238 : ∀ x1 x2 x3 : Int32, mm_up (mm_up (mm_up w 238 k x1) 239 k x2) 240 k x3 238 = upd (w 238) k x1 := fun x1 x2 x3 => by rw [mm_up_row (by decide), mm_up_row (by decide), mm_up_at]
          have m239 : ∀ x1 x2 x3 : Int32, mm_up (mm_up (mm_up w 238 k x1) 239 k x2) 240 k x3 239 = upd (w 239) k x2 := fun x1 x2 x3 => by rw [mm_up_row (by decide), mm_up_at, mm_up_row (by decide)]
          have m240 : ∀ x1 x2 x3 : Int32, mm_up (mm_up (mm_up w 238 k x1) 239 k x2) 240 k x3 240 = upd (w 240) k x3 := fun x1 x2 x3 => by rw [mm_up_at, mm_up_row (by decide), mm_up_row (by decide)]
          rw [m238, m239, m240]
          by_cases e : j = k
          · subst e
            exact ⟨if_pos rfl, if_pos rfl, if_pos rfl⟩
          · obtain ⟨r1, r2, r3⟩ := hV j (by omega)
            exact ⟨(if_neg e).trans r1, (if_neg e).trans r2, (if_neg e).trans r3⟩
      · intro w hsz hV hfr
        exact bX6_lacksLines_82 (fun _ => bX6_lacksLines_138 (g w hsz hV hfr)) (fun q => absurd (hsz ▸ le_nI (Nat.le_refl _) (by omega)) q)
  have go2 : mm_E kX6_lacksLines 39 [.ref 81, .int (nI p), .retAddr 0] [.ref 81] w0 0 K := bX6_lacksLines_39 (bX6_lacksLines_40 (fun _ => go) (fun h => absurd (by decide) h))
  refine bX6_lacksLines_0 (by decide) (k_isPromise hnp hw0.np hp (mm_Kr 0 rfl ?_))
  refine bX6_lacksLines_6 (fun h => absurd h (by decide)) (fun _ => bX6_lacksLines_13 a1 (fun q => go2) (fun q => bX6_lacksLines_24 a1 (fun _ => go2) (fun q2 => ?_)))
  rw [es, e1] at q
  rw [es, e2] at q2
  exact absurd (hs.resolve_left q) q2
theorem frT.t26 {w0 w' : mmM} {x : Int32} (h : frT (mm_up w0 81 26 x) w') : w' 81 26 = x := by rw [h.2 26 (by decide)]; exact th_at
theorem fM_t {w0 w' : mmM} {x : Int32} (h : frT (mm_up w0 81 26 x) w') : fM w0 w' := fM.th.tr h.fM
theorem op_pickLines (h : Inv n s) : Op kX5_pickLines kX6_pickLines kL_pickLines n [.int x] s := by
  rcases st_or h.1 x with ⟨p, hp, e, hs⟩ | ⟨p, hp, e, h1, h2⟩ | hx
  · subst e
    refine Op.ok s (nI (vN s p)) h (fun w hw K hK => ?_) (fun w hw K hK => ?_)
    · refine bX5_pickLines_0 (by decide) (k_loadC h.1 hw hp hs (fun w' g1 g2 g3 => mm_Kv 2 rfl (bX5_pickLines_5 ?_)))
      rw [g1]
      exact hK _ (g3.rep hw) g3.fC
    · refine bX6_pickLines_0 (by decide) (k_lacksM h.1 hw hp hs (fun w' g1 g2 g3 => mm_Kr 0 rfl (bX6_pickLines_5 (fun _ => bX6_pickLines_12 (bX6_pickLines_16 ?_)) (fun q => absurd rfl q))))
      exact hK _ _ (g3.rep hw.th) (fM_t g3) g3.t26 (fun _ => g1)
  · subst e
    refine Op.no 2 1 h (by decide) (by decide) (fun w hw K hK => ?_) (fun r w hw K hK => ?_)
    · exact bX5_pickLines_0 (by decide) (k_loadC2 h.1 hw hp h1 h2 (mm_Kx rfl (hK _ hw fC.rfl)))
    · exact bX6_pickLines_0 (by decide) (k_lacksM2 h.1 hw hp h1 h2 (mm_Kr 0 rfl (bX6_pickLines_5 (fun q => absurd q (by decide)) (fun _ => bX6_pickLines_8 (bX6_pickLines_16 (hK _ _ hw.th fM.th th_at (fun h => absurd h (by decide))))))))
  · refine Op.no 1 2 h (by decide) (by decide) (fun w hw K hK => ?_) (fun r w hw K hK => ?_)
    · exact bX5_pickLines_0 (by decide) (k_loadC1 h.1 hw hx (mm_Kx rfl (hK _ hw fC.rfl)))
    · exact bX6_pickLines_0 (by decide) (k_lacksM1 h.1 hw hx (mm_Kr 0 rfl (bX6_pickLines_5 (fun q => absurd q (by decide)) (fun _ => bX6_pickLines_8 (bX6_pickLines_16 (hK _ _ hw.th fM.th th_at (fun h => absurd h (by decide))))))))
/-- the model has the line, or hasn't -/
theorem k_lineM {p i : Nat} {w0 : mmM} (h : Inw n s) (hw0 : RepM w0 s) (hp : p < s.np) (hs : s.st p = 111 ∨ s.st p = 112) (hi : i < vN s p) (g : ∀ w', Vw (w' 238) (w' 239) (w' 240) (vN s p) (vB s p) (vL s p) (vQ s p) → RepM w' s → fM w0 w' → w' 81 26 = 0 → K (.inl (some (.int 0))) w') : mm_M kX6_lacksLine [.ref 81, .int (nI p), .int (nI i)] w0 K := by
  have hN := (vw_ok h hp hs).1
  refine bX6_lacksLine_0 (by decide) (k_lacksM h hw0 hp hs (fun w' g1 g2 g3 => mm_Kr 0 rfl (bX6_lacksLine_5 (fun _ => bX6_lacksLine_8 (by decide) (m_in (mm_Kr 0 rfl ?_))) (fun q => absurd rfl q))))
  rw [g1, bi_t ((in_is (by omega)).mpr ⟨i, hi, rfl⟩)]
  refine bX6_lacksLine_20 (fun q => absurd q (by decide)) (fun _ => bX6_lacksLine_23 (bX6_lacksLine_28 (bX6_lacksLine_31 (fun _ => bX6_lacksLine_42 (bX6_lacksLine_43 nb_0 ?_)) (fun q => absurd ?_ q))))
  · refine g _ (by rw [mm_up_row (by decide), mm_up_row (by decide), mm_up_row (by decide)]; exact g2) (g3.rep hw0.th).th ((fM_t g3).tr fM.th) th_at
  · rw [th_at]
    decide
theorem k_lineM3 {p : Nat} {w0 : mmM} (h : Inw n s) (hw0 : RepM w0 s) (hp : p < s.np) (hs : s.st p = 111 ∨ s.st p = 112) (hy : ∀ i, i < vN s p → y ≠ nI i) (g : ∀ w', RepM w' s → fM w0 w' → w' 81 26 = 3 → K (.inl (some (.int 1))) w') : mm_M kX6_lacksLine [.ref 81, .int (nI p), .int y] w0 K := by
  have hN := (vw_ok h hp hs).1
  refine bX6_lacksLine_0 (by decide) (k_lacksM h hw0 hp hs (fun w' g1 g2 g3 => mm_Kr 0 rfl (bX6_lacksLine_5 (fun _ => bX6_lacksLine_8 (by decide) (m_in (mm_Kr 0 rfl ?_))) (fun q => absurd rfl q))))
  rw [g1, bi_f (fun q => by obtain ⟨i, hi, e⟩ := (in_is (by omega)).mp q; exact hy i hi e)]
  refine bX6_lacksLine_20 (fun _ => bX6_lacksLine_27 (bX6_lacksLine_28 (bX6_lacksLine_31 (fun q => absurd q ?_) (fun _ => bX6_lacksLine_38 (bX6_lacksLine_43 nb_1 ?_))))) (fun q => absurd rfl q)
  · rw [th_at]
    decide
  · exact g _ (g3.rep hw0.th).th ((fM_t g3).tr fM.th) th_at
theorem k_lineM1 {w0 : mmM} (h : Inw n s) (hw0 : RepM w0 s) (hx : ∀ i, i < s.np → x ≠ nI i) (g : K (.inl (some (.int 1))) (mm_up w0 81 26 1)) : mm_M kX6_lacksLine [.ref 81, .int x, .int y] w0 K := by
  refine bX6_lacksLine_0 (by decide) (k_lacksM1 h hw0 hx (mm_Kr 0 rfl (bX6_lacksLine_5 (fun q => absurd q (by decide)) (fun _ => bX6_lacksLine_31 (fun q => absurd q ?_) (fun _ => bX6_lacksLine_38 (bX6_lacksLine_43 nb_1 g))))))
  rw [th_at]
  decide
theorem k_lineM2 {p : Nat} {w0 : mmM} (h : Inw n s) (hw0 : RepM w0 s) (hp : p < s.np) (h1 : s.st p ≠ 111) (h2 : s.st p ≠ 112) (g : K (.inl (some (.int 1))) (mm_up w0 81 26 2)) : mm_M kX6_lacksLine [.ref 81, .int (nI p), .int y] w0 K := by
  refine bX6_lacksLine_0 (by decide) (k_lacksM2 h hw0 hp h1 h2 (mm_Kr 0 rfl (bX6_lacksLine_5 (fun q => absurd q (by decide)) (fun _ => bX6_lacksLine_31 (fun q => absurd q ?_) (fun _ => bX6_lacksLine_38 (bX6_lacksLine_43 nb_1 g))))))
  rw [th_at]
  decide
theorem op_pickBin (h : Inv n s) : Op kX5_pickBin kX6_pickBin kL_pickBin n [.int x, .int y] s := by
  rcases st_or h.1 x with ⟨p, hp, e, hs⟩ | ⟨p, hp, e, h1, h2⟩ | hx
  · subst e
    have hN := (vw_ok h.1 hp hs).1
    rcases is_or y (vN s p) with ⟨i, hi, e⟩ | hy
    · subst e
      have a1 := in_nI (show i < 60 by omega) (by decide)
      refine Op.ok s (nI (vB s p i)) h (fun w hw K hK => ?_) (fun w hw K hK => ?_)
      · refine bX5_pickBin_0 (by decide) (k_loadC h.1 hw hp hs (fun w' g1 g2 g3 => mm_Kv 2 rfl (bX5_pickBin_5 (by decide) (k_rLine hN g1 hi (mm_Kv 3 rfl (bX5_pickBin_10 a1 ?_))))))
        rw [cl_nI (by omega), (g2 i hi).1]
        exact hK _ (g3.rep hw) g3.fC
      · refine bX6_pickBin_0 (by decide) (k_lineM h.1 hw hp hs hi (fun w' g1 g2 g3 g4 => mm_Kr 0 rfl (bX6_pickBin_6 (fun _ => bX6_pickBin_13 a1 (bX6_pickBin_19 ?_)) (fun q => absurd rfl q))))
        rw [cl_nI (by omega), (g1 i hi).1]
        exact hK _ _ g2 g3 g4 (fun _ => rfl)
    · refine Op.no 3 4 h (by decide) (by decide) (fun w hw K hK => ?_) (fun r w hw K hK => ?_)
      · exact bX5_pickBin_0 (by decide) (k_loadC h.1 hw hp hs (fun w' g1 g2 g3 => mm_Kv 2 rfl (bX5_pickBin_5 (by decide) (k_nLine hN g1 hy (mm_Kx rfl (hK _ (g3.rep hw) g3.fC))))))
      · exact bX6_pickBin_0 (by decide) (k_lineM3 h.1 hw hp hs hy (fun w' g2 g3 g4 => mm_Kr 0 rfl (bX6_pickBin_6 (fun q => absurd q (by decide)) (fun _ => bX6_pickBin_9 (bX6_pickBin_19 (hK _ _ g2 g3 g4 (fun h => absurd h (by decide))))))))
  · subst e
    refine Op.no 2 1 h (by decide) (by decide) (fun w hw K hK => ?_) (fun r w hw K hK => ?_)
    · exact bX5_pickBin_0 (by decide) (k_loadC2 h.1 hw hp h1 h2 (mm_Kx rfl (hK _ hw fC.rfl)))
    · exact bX6_pickBin_0 (by decide) (k_lineM2 h.1 hw hp h1 h2 (mm_Kr 0 rfl (bX6_pickBin_6 (fun q => absurd q (by decide)) (fun _ => bX6_pickBin_9 (bX6_pickBin_19 (hK _ _ hw.th fM.th th_at (fun h => absurd h (by decide))))))))
  · refine Op.no 1 2 h (by decide) (by decide) (fun w hw K hK => ?_) (fun r w hw K hK => ?_)
    · exact bX5_pickBin_0 (by decide) (k_loadC1 h.1 hw hx (mm_Kx rfl (hK _ hw fC.rfl)))
    · exact bX6_pickBin_0 (by decide) (k_lineM1 h.1 hw hx (mm_Kr 0 rfl (bX6_pickBin_6 (fun q => absurd q (by decide)) (fun _ => bX6_pickBin_9 (bX6_pickBin_19 (hK _ _ hw.th fM.th th_at (fun h => absurd h (by decide))))))))
theorem op_pickLot (h : Inv n s) : Op kX5_pickLot kX6_pickLot kL_pickLot n [.int x, .int y] s := by
  rcases st_or h.1 x with ⟨p, hp, e, hs⟩ | ⟨p, hp, e, h1, h2⟩ | hx
  · subst e
    have hN := (vw_ok h.1 hp hs).1
    rcases is_or y (vN s p) with ⟨i, hi, e⟩ | hy
    · subst e
      have a1 := in_nI (show i < 60 by omega) (by decide)
      refine Op.ok s (nI (vL s p i)) h (fun w hw K hK => ?_) (fun w hw K hK => ?_)
      · refine bX5_pickLot_0 (by decide) (k_loadC h.1 hw hp hs (fun w' g1 g2 g3 => mm_Kv 2 rfl (bX5_pickLot_5 (by decide) (k_rLine hN g1 hi (mm_Kv 3 rfl (bX5_pickLot_10 a1 ?_))))))
        rw [cl_nI (by omega), (g2 i hi).2.1]
        exact hK _ (g3.rep hw) g3.fC
      · refine bX6_pickLot_0 (by decide) (k_lineM h.1 hw hp hs hi (fun w' g1 g2 g3 g4 => mm_Kr 0 rfl (bX6_pickLot_6 (fun _ => bX6_pickLot_13 a1 (bX6_pickLot_19 ?_)) (fun q => absurd rfl q))))
        rw [cl_nI (by omega), (g1 i hi).2.1]
        exact hK _ _ g2 g3 g4 (fun _ => rfl)
    · refine Op.no 3 4 h (by decide) (by decide) (fun w hw K hK => ?_) (fun r w hw K hK => ?_)
      · exact bX5_pickLot_0 (by decide) (k_loadC h.1 hw hp hs (fun w' g1 g2 g3 => mm_Kv 2 rfl (bX5_pickLot_5 (by decide) (k_nLine hN g1 hy (mm_Kx rfl (hK _ (g3.rep hw) g3.fC))))))
      · exact bX6_pickLot_0 (by decide) (k_lineM3 h.1 hw hp hs hy (fun w' g2 g3 g4 => mm_Kr 0 rfl (bX6_pickLot_6 (fun q => absurd q (by decide)) (fun _ => bX6_pickLot_9 (bX6_pickLot_19 (hK _ _ g2 g3 g4 (fun h => absurd h (by decide))))))))
  · subst e
    refine Op.no 2 1 h (by decide) (by decide) (fun w hw K hK => ?_) (fun r w hw K hK => ?_)
    · exact bX5_pickLot_0 (by decide) (k_loadC2 h.1 hw hp h1 h2 (mm_Kx rfl (hK _ hw fC.rfl)))
    · exact bX6_pickLot_0 (by decide) (k_lineM2 h.1 hw hp h1 h2 (mm_Kr 0 rfl (bX6_pickLot_6 (fun q => absurd q (by decide)) (fun _ => bX6_pickLot_9 (bX6_pickLot_19 (hK _ _ hw.th fM.th th_at (fun h => absurd h (by decide))))))))
  · refine Op.no 1 2 h (by decide) (by decide) (fun w hw K hK => ?_) (fun r w hw K hK => ?_)
    · exact bX5_pickLot_0 (by decide) (k_loadC1 h.1 hw hx (mm_Kx rfl (hK _ hw fC.rfl)))
    · exact bX6_pickLot_0 (by decide) (k_lineM1 h.1 hw hx (mm_Kr 0 rfl (bX6_pickLot_6 (fun q => absurd q (by decide)) (fun _ => bX6_pickLot_9 (bX6_pickLot_19 (hK _ _ hw.th fM.th th_at (fun h => absurd h (by decide))))))))
theorem op_pickQuantity (h : Inv n s) : Op kX5_pickQuantity kX6_pickQuantity kL_pickQuantity n [.int x, .int y] s := by
  rcases st_or h.1 x with ⟨p, hp, e, hs⟩ | ⟨p, hp, e, h1, h2⟩ | hx
  · subst e
    have hN := (vw_ok h.1 hp hs).1
    rcases is_or y (vN s p) with ⟨i, hi, e⟩ | hy
    · subst e
      have a1 := in_nI (show i < 60 by omega) (by decide)
      refine Op.ok s (nI (vQ s p i)) h (fun w hw K hK => ?_) (fun w hw K hK => ?_)
      · refine bX5_pickQuantity_0 (by decide) (k_loadC h.1 hw hp hs (fun w' g1 g2 g3 => mm_Kv 2 rfl (bX5_pickQuantity_5 (by decide) (k_rLine hN g1 hi (mm_Kv 3 rfl (bX5_pickQuantity_10 a1 ?_))))))
        rw [cl_nI (by omega), (g2 i hi).2.2]
        exact hK _ (g3.rep hw) g3.fC
      · refine bX6_pickQuantity_0 (by decide) (k_lineM h.1 hw hp hs hi (fun w' g1 g2 g3 g4 => mm_Kr 0 rfl (bX6_pickQuantity_6 (fun _ => bX6_pickQuantity_13 a1 (bX6_pickQuantity_19 ?_)) (fun q => absurd rfl q))))
        rw [cl_nI (by omega), (g1 i hi).2.2]
        exact hK _ _ g2 g3 g4 (fun _ => rfl)
    · refine Op.no 3 4 h (by decide) (by decide) (fun w hw K hK => ?_) (fun r w hw K hK => ?_)
      · exact bX5_pickQuantity_0 (by decide) (k_loadC h.1 hw hp hs (fun w' g1 g2 g3 => mm_Kv 2 rfl (bX5_pickQuantity_5 (by decide) (k_nLine hN g1 hy (mm_Kx rfl (hK _ (g3.rep hw) g3.fC))))))
      · exact bX6_pickQuantity_0 (by decide) (k_lineM3 h.1 hw hp hs hy (fun w' g2 g3 g4 => mm_Kr 0 rfl (bX6_pickQuantity_6 (fun q => absurd q (by decide)) (fun _ => bX6_pickQuantity_9 (bX6_pickQuantity_19 (hK _ _ g2 g3 g4 (fun h => absurd h (by decide))))))))
  · subst e
    refine Op.no 2 1 h (by decide) (by decide) (fun w hw K hK => ?_) (fun r w hw K hK => ?_)
    · exact bX5_pickQuantity_0 (by decide) (k_loadC2 h.1 hw hp h1 h2 (mm_Kx rfl (hK _ hw fC.rfl)))
    · exact bX6_pickQuantity_0 (by decide) (k_lineM2 h.1 hw hp h1 h2 (mm_Kr 0 rfl (bX6_pickQuantity_6 (fun q => absurd q (by decide)) (fun _ => bX6_pickQuantity_9 (bX6_pickQuantity_19 (hK _ _ hw.th fM.th th_at (fun h => absurd h (by decide))))))))
  · refine Op.no 1 2 h (by decide) (by decide) (fun w hw K hK => ?_) (fun r w hw K hK => ?_)
    · exact bX5_pickQuantity_0 (by decide) (k_loadC1 h.1 hw hx (mm_Kx rfl (hK _ hw fC.rfl)))
    · exact bX6_pickQuantity_0 (by decide) (k_lineM1 h.1 hw hx (mm_Kr 0 rfl (bX6_pickQuantity_6 (fun q => absurd q (by decide)) (fun _ => bX6_pickQuantity_9 (bX6_pickQuantity_19 (hK _ _ hw.th fM.th th_at (fun h => absurd h (by decide))))))))
end VW
