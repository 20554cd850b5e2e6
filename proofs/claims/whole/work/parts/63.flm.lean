/-! the model finds the lines of a promise -/
def frT (w0 w : mmM) : Prop := (∀ a, a < 214 ∨ 240 < a → a ≠ 81 → w a = w0 a) ∧ ∀ j, j ≠ 31 → w 81 j = w0 81 j
theorem frT.rfl {w : mmM} : frT w w := ⟨fun _ _ _ => Eq.refl _, fun _ _ => Eq.refl _⟩
theorem frT.tr {w w1 w2 : mmM} (h : frT w w1) (h2 : frT w1 w2) : frT w w2 := ⟨fun a h3 h4 => (h2.1 a h3 h4).trans (h.1 a h3 h4), fun j hj => (h2.2 j hj).trans (h.2 j hj)⟩
theorem frT.up {w0 w : mmM} {i j : Nat} {x : Int32} (h : frT w0 w) (hi : 214 ≤ i ∧ i ≤ 240) : frT w0 (mm_up w i j x) := ⟨fun a h3 h4 => by rw [mm_up_row (by omega)]; exact h.1 a h3 h4, fun a ha => by rw [mm_up_row (by omega)]; exact h.2 a ha⟩
theorem frT.up31 {w0 w : mmM} {x : Int32} (h : frT w0 w) : frT w0 (mm_up w 81 31 x) := ⟨fun a h3 h4 => by rw [mm_up_row h4]; exact h.1 a h3 h4, fun j hj => by rw [up_ob hj]; exact h.2 j hj⟩
theorem frT.rep {w w1 : mmM} {s : St} (h : frT w w1) (hw : RepM w s) : RepM w1 s := hw.keep (fun a ha => h.1 a (by omega) (by omega)) (fun j _ h31 => h.2 j h31)
theorem frT.fM {w w1 : mmM} (h : frT w w1) : fM w w1 := fun a ha => h.1 a (by omega) (by omega)
def Tk (w : mmM) (nl : Nat) (f : Nat → Nat) : Prop := ∀ l b, l < nl → b < 40 → w (214 + l) b = nI (f (ky b l))
def LnB (w : mmM) (f : Nat → Nat) (x : Nat) : Prop := w 81 31 = nI (cnt f x) ∧ ∀ y, y < x → f y ≠ 0 → w 238 (cnt f y) = nI (kyb y) ∧ w 239 (cnt f y) = nI (kyl y) ∧ w 240 (cnt f y) = nI (f y)
theorem cnt_z {f : Nat → Nat} {a : Nat} : ∀ {b : Nat}, a ≤ b → (∀ y, a ≤ y → y < b → f y = 0) → cnt f b = cnt f a
  | 0, h, _ => by have : a = 0 := by omega
                  subst this; rfl
  | b + 1, h, hz => by
    by_cases e : a = b + 1
    · subst e; rfl
    · rw [cnt_s, if_pos (hz b (by omega) (by omega)), cnt_z (b := b) (by omega) (fun y h1 h2 => hz y h1 (by omega))]
      rfl
theorem ky_inj {b b2 l l2 : Nat} (hb : b < 40) (hb2 : b2 < 40) (hl : l < 24) (hl2 : l2 < 24) (h : ky b l = ky b2 l2) : b = b2 ∧ l = l2 := by
  unfold ky at h
  have e1 : rt b = rt b2 := by omega
  exact ⟨rt_inj hb hb2 e1, by omega⟩
section FM
variable {n : Nat} {s : St} {K : mmO → mmM → Prop}
theorem Tk_up {w : mmM} {nl l p m : Nat} {f : Nat → Nat} (hn : nl ≤ 24) (hl : l < nl) (hp : p < 40) (h : Tk w nl f) : Tk (mm_up w (214 + l) (rt p) (nI m)) nl (updN f (p * 24 + l) m) := by
  intro l2 b hl2 hb
  by_cases e : l2 = l ∧ b = rt p
  · obtain ⟨e1, e2⟩ := e
    subst e1 e2
    rw [mm_up_same, ky_rt hp, updN_at]
  · have e2 : ky b l2 ≠ p * 24 + l := fun z => e (by
      rw [← ky_rt hp] at z
      have := ky_inj hb (rt_lt hp) (by omega) (by omega) z
      exact ⟨this.2, this.1⟩)
    rw [updN_ne e2, ← h l2 b hl2 hb]
    show (if 214 + l2 = 214 + l ∧ b = rt p then _ else _) = _
    rw [if_neg (fun z => e ⟨by omega, z.2⟩)]
theorem k_zeroM {p : Nat} {w0 : mmM} (h : Inw n s) (hw0 : RepM w0 s) {l4 l5 l6 l7 : Value} (g : ∀ w x2 l3, Tk w s.nl (fun _ => 0) → frT w0 w → mm_E kX6_findsLines 39 [.ref 81, .int (nI p), .int x2, l3, l4, l5, l6, l7] [] w 0 K) {l3 : Value} : mm_E kX6_findsLines 2 [.ref 81, .int (nI p), .int (nI 0), l3, l4, l5, l6, l7] [] w0 0 K := by
  have hnl := h.nl_
  have key : ∀ w l3, (∀ l2 b2, l2 < 0 → b2 < 40 → w (214 + l2) b2 = 0) → frT w0 w → mm_E kX6_findsLines 2 [.ref 81, .int (nI p), .int (nI 0), l3, l4, l5, l6, l7] [] w 0 K := by
    refine e_for0 (α := Unit) (n := s.nl) (a0 := ()) (f := fun _ a => a) (E := fun l _ => ∀ w l3, (∀ l2 b2, l2 < l → b2 < 40 → w (214 + l2) b2 = 0) → frT w0 w → mm_E kX6_findsLines 2 [.ref 81, .int (nI p), .int (nI l), l3, l4, l5, l6, l7] [] w 0 K) ?_ ?_
    · intro l _ hl ih w l3 hz hfr
      have hw := hfr.rep hw0
      refine bX6_findsLines_2 (fun q => absurd (hw.nl ▸ q) (ge_nI hl (by omega))) (fun _ => bX6_findsLines_10 ?_)
      have in2 : ∀ w, (∀ l2 b2, l2 < l → b2 < 40 → w (214 + l2) b2 = 0) → (∀ b2, b2 < 0 → w (214 + l) b2 = 0) → frT w0 w → mm_E kX6_findsLines 12 [.ref 81, .int (nI p), .int (nI l), .int (nI 0), l4, l5, l6, l7] [] w 0 K := by
        refine e_for0 (α := Unit) (n := 40) (a0 := ()) (f := fun _ a => a) (E := fun b _ => ∀ w, (∀ l2 b2, l2 < l → b2 < 40 → w (214 + l2) b2 = 0) → (∀ b2, b2 < b → w (214 + l) b2 = 0) → frT w0 w → mm_E kX6_findsLines 12 [.ref 81, .int (nI p), .int (nI l), .int (nI b), l4, l5, l6, l7] [] w 0 K) ?_ ?_
        · intro b _ hb ih2 w hz hz2 hfr
          refine bX6_findsLines_12 (fun q => absurd q (ge_nI hb (by decide))) (fun _ => bX6_findsLines_18 (in_nI (by omega) (by decide)) (in_nI hb (by decide)) ?_)
          rw [nI_1, cl_nI (by omega), cl_nI (by omega)]
          refine ih2 _ (fun l2 b2 h1 h2 => by rw [mm_up_row (by omega)]; exact hz l2 b2 h1 h2) (fun b2 h1 => ?_) (hfr.up (by omega))
          by_cases e : b2 = b
          · subst e; exact mm_up_same
          · rw [mm_up_at]
            exact (if_neg e).trans (hz2 b2 (by omega))
        · intro w hz hz2 hfr
          refine bX6_findsLines_12 (fun _ => bX6_findsLines_33 ?_) (fun q => absurd (le_nI (Nat.le_refl 40) (by decide)) q)
          rw [nI_1]
          refine ih w _ (fun l2 b2 h1 h2 => ?_) hfr
          by_cases e : l2 = l
          · subst e; exact hz2 b2 h2
          · exact hz l2 b2 (by omega) h2
      exact in2 w hz (fun b2 h => absurd h (Nat.not_lt_zero _)) hfr
    · intro w l3 hz hfr
      have hw := hfr.rep hw0
      exact bX6_findsLines_2 (fun _ => g w _ _ (fun l b h1 h2 => hz l b h1 h2) hfr) (fun q => absurd (hw.nl ▸ le_nI (Nat.le_refl s.nl) (by omega)) q)
  exact key w0 l3 (fun l2 b2 h => absurd h (Nat.not_lt_zero _)) frT.rfl
theorem k_itemM {p i : Nat} {f0 : Nat → Nat} {w0 w1 : mmM} (h : Inw n s) (hw0 : RepM w0 s) (hp : p < s.np) (hs : s.st p = 111) (hi : i < s.ni) (hT : Tk w1 s.nl f0) (hfr1 : frT w0 w1) (g : ∀ w x3 x4 l5 l6 l7, Tk w s.nl (lsI s i (s.du p) (s.q p i) f0).2 → frT w0 w → mm_E kX6_findsLines 172 [.ref 81, .int (nI p), .int (nI i), .int x3, .int x4, l5, l6, l7] [] w 0 K) {l3 l4 l5 l6 l7 : Value} : mm_E kX6_findsLines 49 [.ref 81, .int (nI p), .int (nI i), l3, l4, l5, l6, l7] [] w1 0 K := by
  have hnl := h.nl_; have hni := h.ni_; have hnp := h.np_; have hdu := h.du_ p hp hs; have htd := h.td_; have hnn := h.n_
  have hqp := h.qb hp (show i < 6 by omega)
  refine bX6_findsLines_49 (in_nI (by omega) (by decide)) (in_nI (by omega) (by decide)) ?_
  rw [cl_nI (by omega), cl_nI (by omega), (hfr1.rep hw0).q p (by omega) i (by omega)]
  have key : ∀ w l5 l6 l7, Tk w s.nl f0 → frT w0 w → mm_E kX6_findsLines 61 [.ref 81, .int (nI p), .int (nI i), .int (nI (s.q p i)), .int (nI 0), l5, l6, l7] [] w 0 K := by
    refine e_for (n := s.nl) (a0 := ((s.q p i, f0) : PS)) (f := lsK s i (s.du p)) (E := fun k t => ∀ w l5 l6 l7, Tk w s.nl t.2 → frT w0 w → mm_E kX6_findsLines 61 [.ref 81, .int (nI p), .int (nI i), .int (nI t.1), .int (nI k), l5, l6, l7] [] w 0 K) (fun _ t => t.1 ≤ 60) hqp ?_ ?_ ?_
    · intro k t hk ht
      unfold lsK
      split
      · have st : ∀ m, (fo (ls1 s (s.od k)) t m).1 ≤ 60 := by
          intro m
          induction m with
          | zero => exact ht
          | succ m ih => exact Nat.le_trans (Nat.sub_le _ _) ih
        exact st 40
      · exact ht
    · intro k t hk ht ih w l5 l6 l7 hTw hfr
      have hw := hfr.rep hw0
      have hl := h.od_ k hk
      have h2 := h.it_ _ hl; have h4 := h.ex_ _ hl
      have a1 := in_nI (show s.od k < 24 by omega) (by decide)
      refine bX6_findsLines_61 (fun q => absurd (hw.nl ▸ q) (ge_nI hk (by omega))) (fun _ => bX6_findsLines_70 (in_nI (by omega) (by decide)) ?_)
      rw [cl_nI (by omega), hw.od]
      by_cases c : s.it (s.od k) = i ∧ s.du p ≤ s.ex (s.od k)
      · have e : lsK s i (s.du p) k t = lsL s (s.od k) t := if_pos c
        rw [e] at ih
        refine e_for (n := 40) (a0 := t) (f := ls1 s (s.od k)) (E := fun b t => ∀ w l7, Tk w s.nl t.2 → frT w0 w → mm_E kX6_findsLines 82 [.ref 81, .int (nI p), .int (nI i), .int (nI t.1), .int (nI k), .int (nI (s.od k)), .int (nI b), l7] [] w 0 K) (fun _ t => t.1 ≤ 60) ht (fun b t _ ht => Nat.le_trans (Nat.sub_le _ _) ht) ?_ ?_ w l7 hTw hfr
        · intro b t hb ht ih2 w l7 hTw hfr
          have hw := hfr.rep hw0
          have hu := h.unb (l := s.od k) (rt_lt hb)
          have a2 := in_nI (rt_lt hb) (show 40 < 1000000 by decide)
          refine bX6_findsLines_82 (fun q => absurd q (ge_nI hb (by decide))) (fun _ => bX6_findsLines_89 a1 (fun _ => bX6_findsLines_100 a1 (in_nI (by omega) (by decide)) (fun q => ?_) (fun _ => bX6_findsLines_116 (by decide) (m_turned hb (mm_Kr 0 rfl (bX6_findsLines_121 a1 a1 a2 a2 a1 a2 ?_))))) (fun q => ?_))
          · rw [cl_nI (by omega), cl_nI (by omega), hw.ex, hw.du, nI_lti (by omega) (by omega)] at q
            omega
          · rw [cl_nI (i := s.od k) (by omega), cl_nI (i := rt b) (by have := rt_lt hb; omega), mm_up_same, hw.un _ (by omega), min_nI (by omega) (by omega), sub_nI (Nat.min_le_left _ _), nI_1]
            exact ih2 _ _ (Tk_up hnl hl hb hTw) (hfr.up (by omega))
          · rw [cl_nI (by omega), hw.it] at q
            exact absurd ((nI_eq (by omega) (by omega)).mpr c.1) q
        · intro ht w l7 hTw hfr
          refine bX6_findsLines_82 (fun _ => bX6_findsLines_166 ?_) (fun q => absurd (le_nI (Nat.le_refl 40) (by decide)) q)
          rw [nI_1]
          exact ih w _ _ _ hTw hfr
      · have e : lsK s i (s.du p) k t = t := if_neg c
        rw [e] at ih
        have nx : ∀ l6 l7, mm_E kX6_findsLines 166 [.ref 81, .int (nI p), .int (nI i), .int (nI t.1), .int (nI k), .int (nI (s.od k)), .int l6, l7] [] w 0 K := fun l6 l7 => bX6_findsLines_166 (by rw [nI_1]; exact ih w _ _ _ hTw hfr)
        refine bX6_findsLines_82 (fun _ => nx _ _) (fun _ => bX6_findsLines_89 a1 (fun q => bX6_findsLines_100 a1 (in_nI (by omega) (by decide)) (fun _ => nx _ _) (fun q2 => ?_)) (fun _ => nx _ _))
        rw [cl_nI (by omega), hw.it] at q
        rw [cl_nI (by omega), cl_nI (by omega), hw.ex, hw.du, nI_lti (by omega) (by omega)] at q2
        exact absurd ⟨(nI_eq (by omega) (by omega)).mp q, by omega⟩ c
    · intro _ w l5 l6 l7 hTw hfr
      have hw := hfr.rep hw0
      exact bX6_findsLines_61 (fun _ => g w _ _ _ _ _ hTw hfr) (fun q => absurd (hw.nl ▸ le_nI (Nat.le_refl s.nl) (by omega)) q)
  exact key w1 _ _ _ hT hfr1
theorem k_layM {p : Nat} {f : Nat → Nat} {w0 w1 : mmM} (h : Inw n s) (hw0 : RepM w0 s) (hf1 : ∀ y, s.nl ≤ y % 24 → f y = 0) (hf2 : ∀ y, y < 960 → f y ≤ 30) (hc : cnt f 960 ≤ 60) (hT : Tk w1 s.nl f) (hfr1 : frT w0 w1) (g : ∀ w, LnB w f 960 → frT w0 w → K (.inl none) w) {x2 : Int32} {l3 l4 l5 l6 l7 : Value} : mm_E kX6_findsLines 178 [.ref 81, .int (nI p), .int x2, l3, l4, l5, l6, l7] [] w1 0 K := by
  have hnl := h.nl_
  refine bX6_findsLines_178 ?_
  have key : ∀ w l3 l4 l5 l6 l7, Tk w s.nl f → LnB w f (0 * 24) → frT w0 w → mm_E kX6_findsLines 185 [.ref 81, .int (nI p), .int (nI 0), l3, l4, l5, l6, l7] [] w 0 K := by
    refine e_for0 (α := Unit) (n := 40) (a0 := ()) (f := fun _ a => a) (E := fun a _ => ∀ w l3 l4 l5 l6 l7, Tk w s.nl f → LnB w f (a * 24) → frT w0 w → mm_E kX6_findsLines 185 [.ref 81, .int (nI p), .int (nI a), l3, l4, l5, l6, l7] [] w 0 K) ?_ ?_
    · intro a _ ha ih w l3 l4 l5 l6 l7 hTw hLw hfr
      have hra := rt_lt ha
      have a2 := in_nI hra (show 40 < 1000000 by decide)
      refine bX6_findsLines_185 (fun q => absurd q (ge_nI ha (by decide))) (fun _ => bX6_findsLines_191 (by decide) (m_turned ha (mm_Kr 0 rfl (bX6_findsLines_195 ?_))))
      have in2 : ∀ w, Tk w s.nl f → LnB w f (a * 24 + 0) → frT w0 w → mm_E kX6_findsLines 199 [.ref 81, .int (nI p), .int (nI a), .int (nI (rt a)), .int (nI 0), l5, l6, l7] [] w 0 K := by
        refine e_for0 (α := Unit) (n := s.nl) (a0 := ()) (f := fun _ a => a) (E := fun l _ => ∀ w, Tk w s.nl f → LnB w f (a * 24 + l) → frT w0 w → mm_E kX6_findsLines 199 [.ref 81, .int (nI p), .int (nI a), .int (nI (rt a)), .int (nI l), l5, l6, l7] [] w 0 K) ?_ ?_
        · intro l _ hl ih2 w hTw hLw hfr
          have hw := hfr.rep hw0
          have a1 := in_nI (show l < 24 by omega) (by decide)
          have hfx := hf2 (a * 24 + l) (by omega)
          have eT : w (214 + (nI l).toNatClampNeg) (nI (rt a)).toNatClampNeg = nI (f (a * 24 + l)) := by rw [cl_nI (by omega), cl_nI (by omega), hTw l _ hl hra, ky_rt ha]
          have ex : kyb (a * 24 + l) = rt a := by unfold kyb; rw [show (a * 24 + l) / 24 = a by omega]
          have el : kyl (a * 24 + l) = l := by unfold kyl; omega
          refine bX6_findsLines_199 (fun q => absurd (hw.nl ▸ q) (ge_nI hl (by omega))) (fun _ => bX6_findsLines_208 a1 a2 (fun q => ?_) (fun q => ?_)) <;> rw [eT, nI_le0 (by omega)] at q
          · refine bX6_findsLines_269 ?_
            rw [nI_1]
            refine ih2 w hTw ⟨?_, fun y hy hfy => ?_⟩ hfr
            · rw [hLw.1, ← Nat.add_assoc, cnt_s, if_pos q]
              rfl
            · by_cases e : y = a * 24 + l
              · subst e; exact absurd q hfy
              · exact hLw.2 y (by omega) hfy
          · have hlt := cnt_lt (f := f) (show a * 24 + l < 960 by omega) q
            have a3 : mm_in (w 81 31) 60 = true := by rw [hLw.1]; exact in_nI (by omega) (by decide)
            refine bX6_findsLines_220 a3 a3 a1 a2 a3 (bX6_findsLines_269 ?_)
            rw [hLw.1, cl_nI (i := cnt f (a * 24 + l)) (by omega), mm_up_row (show 214 + (nI l).toNatClampNeg ≠ 239 by rw [cl_nI (by omega)]; omega), mm_up_row (show 214 + (nI l).toNatClampNeg ≠ 238 by rw [cl_nI (by omega)]; omega), eT, nI_1, nI_1]
            have m238 : ∀ x1 x2 x3 x4 : Int32, mm_up (mm_up (mm_up (mm_up w 238 (cnt f (a * 24 + l)) x1) 239 (cnt f (a * 24 + l)) x2) 240 (cnt f (a * 24 + l)) x3) 81 31 x4 238 = upd (w 238) (cnt f (a * 24 + l)) x1 := fun x1 x2 x3 x4 => by rw [mm_up_row (by decide), mm_up_row (by decide), mm_up_row (by decide), mm_up_at]
            have m239 : ∀ x1 x2 x3 x4 : Int32, mm_up (mm_up (mm_up (mm_up w 238 (cnt f (a * 24 + l)) x1) 239 (cnt f (a * 24 + l)) x2) 240 (cnt f (a * 24 + l)) x3) 81 31 x4 239 = upd (w 239) (cnt f (a * 24 + l)) x2 := fun x1 x2 x3 x4 => by rw [mm_up_row (by decide), mm_up_row (by decide), mm_up_at, mm_up_row (by decide)]
            have m240 : ∀ x1 x2 x3 x4 : Int32, mm_up (mm_up (mm_up (mm_up w 238 (cnt f (a * 24 + l)) x1) 239 (cnt f (a * 24 + l)) x2) 240 (cnt f (a * 24 + l)) x3) 81 31 x4 240 = upd (w 240) (cnt f (a * 24 + l)) x3 := fun x1 x2 x3 x4 => by rw [mm_up_row (by decide), mm_up_at, mm_up_row (by decide), mm_up_row (by decide)]
            refine ih2 _ (fun l2 b2 h1 h2 => ?_) ⟨?_, fun y hy hfy => ?_⟩ ((((hfr.up (by omega)).up (by omega)).up (by omega)).up31)
            · rw [mm_up_row (by omega), mm_up_row (by omega), mm_up_row (by omega), mm_up_row (by omega)]
              exact hTw l2 b2 h1 h2
            · rw [mm_up_same, ← Nat.add_assoc, cnt_s, if_neg q]
            · rw [m238, m239, m240]
              by_cases e : y = a * 24 + l
              · subst e
                rw [ex, el]
                exact ⟨if_pos rfl, if_pos rfl, if_pos rfl⟩
              · have hy2 : y < a * 24 + l := by omega
                have hlt2 := cnt_lt (f := f) hy2 hfy
                obtain ⟨r1, r2, r3⟩ := hLw.2 y hy2 hfy
                exact ⟨(if_neg (by omega)).trans r1, (if_neg (by omega)).trans r2, (if_neg (by omega)).trans r3⟩
        · intro w hTw hLw hfr
          have hw := hfr.rep hw0
          have hz : ∀ y, a * 24 + s.nl ≤ y → y < (a + 1) * 24 → f y = 0 := fun y h1 h2 => hf1 y (by omega)
          refine bX6_findsLines_199 (fun _ => bX6_findsLines_275 ?_) (fun q => absurd (hw.nl ▸ le_nI (Nat.le_refl s.nl) (by omega)) q)
          rw [nI_1]
          refine ih w _ _ _ _ _ hTw ⟨?_, fun y hy hfy => ?_⟩ hfr
          · rw [hLw.1, cnt_z (by omega) hz]
          · by_cases e : a * 24 + s.nl ≤ y
            · exact absurd (hz y e hy) hfy
            · exact hLw.2 y (by omega) hfy
      exact in2 w hTw hLw hfr
    · intro w l3 l4 l5 l6 l7 hTw hLw hfr
      exact bX6_findsLines_185 (fun _ => bX6_findsLines_281 (g w hLw hfr)) (fun q => absurd (le_nI (Nat.le_refl 40) (by decide)) q)
  refine key _ _ _ _ _ _ (fun l b h1 h2 => ?_) ⟨mm_up_same, fun y hy => absurd hy (by omega)⟩ hfr1.up31
  rw [mm_up_row (by omega)]
  exact hT l b h1 h2
theorem k_findM {p : Nat} {w0 : mmM} (h : Inw n s) (hw0 : RepM w0 s) (hp : p < s.np) (hs : s.st p = 111) (g : ∀ w', LnB w' (lsP s p) 960 → frT w0 w' → K (.inl none) w') : mm_M kX6_findsLines [.ref 81, .int (nI p)] w0 K := by
  have hni := h.ni_; have hnl := h.nl_
  obtain ⟨hH, _, hc⟩ := lsP_ok h hp
  refine bX6_findsLines_0 (k_zeroM h hw0 (fun w x2 l3 hT hfr => bX6_findsLines_39 ?_))
  refine e_for0 (n := s.ni) (a0 := (fun _ => 0 : Nat → Nat)) (f := fun i f => (lsI s i (s.du p) (s.q p i) f).2) (E := fun i f => ∀ w l3 l4 l5 l6 l7, Tk w s.nl f → frT w0 w → mm_E kX6_findsLines 41 [.ref 81, .int (nI p), .int (nI i), l3, l4, l5, l6, l7] [] w 0 K) ?_ ?_ w _ _ _ _ _ hT hfr
  · intro i f hi ih w l3 l4 l5 l6 l7 hTw hfr
    have hw := hfr.rep hw0
    refine bX6_findsLines_41 (fun q => absurd (hw.ni ▸ q) (ge_nI hi (by omega))) (fun _ => k_itemM h hw0 hp hs hi hTw hfr (fun w' x3 x4 l5 l6 l7 hT' hfr' => bX6_findsLines_172 ?_))
    rw [nI_1]
    exact ih w' _ _ _ _ _ hT' hfr'
  · intro w l3 l4 l5 l6 l7 hTw hfr
    have hw := hfr.rep hw0
    refine bX6_findsLines_41 (fun _ => k_layM h hw0 (fun y hy => hH.1 y (fun z => absurd z (by omega))) (fun y hy => ?_) hc hTw hfr g) (fun q => absurd (hw.ni ▸ le_nI (Nat.le_refl s.ni) (by omega)) q)
    by_cases c : y % 24 < s.nl
    · have h1 := hH.2.1 (y % 24) c (h.it_ _ c) (y / 24) (by omega)
      rw [show y / 24 * 24 + y % 24 = y by omega] at h1
      have := h.unb (l := y % 24) (rt_lt (show y / 24 < 40 by omega))
      exact Nat.le_trans h1 this
    · rw [hH.1 y (fun z => absurd z c)]
      exact Nat.zero_le _
end FM
