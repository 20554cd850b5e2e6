/-! the class inserts a line -/
section IN
variable {K : mmO → mmM → Prop}
theorem k_insLoop {f : Nat → Nat} {b l q S : Nat} (hb : b < 40) (hl : l < 24) (hf : f (ky b l) = 0) (hS : cnt f 960 = S) (hsz : S < 60) {w0 : mmM} (g : ∀ w', w' 5 0 = nI (S + 1) → Ln (w' 78) (w' 79) (w' 80) (updN f (ky b l) q) → (∀ a, a ≠ 5 → (a < 78 ∨ 80 < a) → w' a = w0 a) → K (.inl none) w') (hq : q ≠ 0) : ∀ p w, cnt f (ky b l) ≤ p → p ≤ S → w 5 0 = nI S → (∀ a, a ≠ 5 → (a < 78 ∨ 80 < a) → w a = w0 a) →
    (∀ x, x < 960 → f x ≠ 0 → (cnt f x < p → w 78 (cnt f x) = nI (kyb x) ∧ w 79 (cnt f x) = nI (kyl x) ∧ w 80 (cnt f x) = nI (f x)) ∧ (p ≤ cnt f x → w 78 (cnt f x + 1) = nI (kyb x) ∧ w 79 (cnt f x + 1) = nI (kyl x) ∧ w 80 (cnt f x + 1) = nI (f x))) →
    mm_E kX3_insert 16 [.ref 5, .int (nI b), .int (nI l), .int (nI q), .int (nI p)] [] w 0 K := by
  have hk := ky_lt hb hl
  have stop : ∀ w, w 5 0 = nI S → (∀ a, a ≠ 5 → (a < 78 ∨ 80 < a) → w a = w0 a) → cnt f (ky b l) ≤ S → (∀ x, x < 960 → f x ≠ 0 → (cnt f x < cnt f (ky b l) → w 78 (cnt f x) = nI (kyb x) ∧ w 79 (cnt f x) = nI (kyl x) ∧ w 80 (cnt f x) = nI (f x)) ∧ (cnt f (ky b l) ≤ cnt f x → w 78 (cnt f x + 1) = nI (kyb x) ∧ w 79 (cnt f x + 1) = nI (kyl x) ∧ w 80 (cnt f x + 1) = nI (f x))) → mm_E kX3_insert 88 [.ref 5, .int (nI b), .int (nI l), .int (nI q), .int (nI (cnt f (ky b l)))] [] w 0 K := by
    intro w h5 hfr hp hx
    have a1 := in_nI (show cnt f (ky b l) < 60 by omega) (by decide)
    refine bX3_insert_88 a1 a1 a1 ?_
    rw [cl_nI (by omega), h5, nI_1]
    refine g _ mm_up_same ?_ (fun a h1 h2 => ?_)
    · intro x hx960 hfx
      have m78 : mm_up (mm_up (mm_up (mm_up w 78 (cnt f (ky b l)) (nI b)) 79 (cnt f (ky b l)) (nI l)) 80 (cnt f (ky b l)) (nI q)) 5 0 (nI (S + 1)) 78 = upd (w 78) (cnt f (ky b l)) (nI b) := by rw [mm_up_row (by decide), mm_up_row (by decide), mm_up_row (by decide), mm_up_at]
      have m79 : mm_up (mm_up (mm_up (mm_up w 78 (cnt f (ky b l)) (nI b)) 79 (cnt f (ky b l)) (nI l)) 80 (cnt f (ky b l)) (nI q)) 5 0 (nI (S + 1)) 79 = upd (w 79) (cnt f (ky b l)) (nI l) := by rw [mm_up_row (by decide), mm_up_row (by decide), mm_up_at, mm_up_row (by decide)]
      have m80 : mm_up (mm_up (mm_up (mm_up w 78 (cnt f (ky b l)) (nI b)) 79 (cnt f (ky b l)) (nI l)) 80 (cnt f (ky b l)) (nI q)) 5 0 (nI (S + 1)) 80 = upd (w 80) (cnt f (ky b l)) (nI q) := by rw [mm_up_row (by decide), mm_up_at, mm_up_row (by decide), mm_up_row (by decide)]
      rw [m78, m79, m80, cnt_upd hf hq]
      by_cases e : x = ky b l
      · subst e
        rw [if_neg (Nat.lt_irrefl _), Nat.add_zero, updN_at, kyb_ky hb hl, kyl_ky hl]
        exact ⟨if_pos rfl, if_pos rfl, if_pos rfl⟩
      · rw [updN_ne e] at hfx
        rw [updN_ne e]
        obtain ⟨g1, g2⟩ := hx x hx960 hfx
        by_cases z : ky b l < x
        · rw [if_pos z]
          have hm := cnt_mono (f := f) (Nat.le_of_lt z)
          obtain ⟨r1, r2, r3⟩ := g2 hm
          exact ⟨(if_neg (by omega)).trans r1, (if_neg (by omega)).trans r2, (if_neg (by omega)).trans r3⟩
        · rw [if_neg z, Nat.add_zero]
          have hm := cnt_lt (f := f) (show x < ky b l by omega) hfx
          obtain ⟨r1, r2, r3⟩ := g1 hm
          exact ⟨(if_neg (by omega)).trans r1, (if_neg (by omega)).trans r2, (if_neg (by omega)).trans r3⟩
    · rw [mm_up_row h1, mm_up_row (by omega), mm_up_row (by omega), mm_up_row (by omega)]
      exact hfr a h1 h2
  intro p
  induction p with
  | zero =>
    intro w h0 hp h5 hfr hx
    have e : cnt f (ky b l) = 0 := by omega
    refine bX3_insert_16 (fun _ => ?_) (fun z => absurd (le_nI (Nat.le_refl 0) (by decide)) z)
    have := stop w h5 hfr (by omega) (by rw [e]; exact hx)
    rw [e] at this
    exact this
  | succ p ih =>
    intro w h0 hp h5 hfr hx
    obtain ⟨x, hx1, hx2, hx3⟩ := cnt_at (f := f) (i := p) (n := 960) (by omega)
    obtain ⟨g1, _⟩ := hx x hx1 hx2
    obtain ⟨r1, r2, r3⟩ := g1 (by omega)
    rw [hx3] at r1 r2 r3
    have hne : x ≠ ky b l := fun e => hx2 (e ▸ hf)
    have ek := aft_ky hx1 hb hl
    have e1 : nI (p + 1) - 1 = nI p := nI_pred p
    refine bX3_insert_16 (fun z => absurd z (nI_nle (by omega) (by omega))) (fun _ => bX3_insert_21 (by decide) ?_)
    rw [e1]
    refine k_isAfter (by omega) r1 r2 (kyb_lt hx1) hb (by have := kyl_lt x; omega) (by omega) (fun z => mm_Kr 0 rfl (bX3_insert_31 (fun y => absurd y (by decide)) (fun _ => ?_))) (fun z => mm_Kr 0 rfl (bX3_insert_31 (fun _ => ?_) (fun y => absurd rfl y)))
    · have z := ek.mp z
      have hm := cnt_mono (f := f) (Nat.le_of_lt z)
      have a1 := in_nI (show p < 60 by omega) (by decide)
      have a2 := in_nI (show p + 1 < 60 by omega) (by decide)
      refine bX3_insert_34 (by rw [e1]; exact a1) a2 (by rw [e1]; exact a1) a2 (by rw [e1]; exact a1) a2 ?_
      rw [e1, cl_nI (i := p) (by omega), cl_nI (i := p + 1) (by omega), r1, r2, r3, pk_m1]
      refine ih _ (by omega) (by omega) (by rw [mm_up_row (by decide), mm_up_row (by decide), mm_up_row (by decide)]; exact h5) (fun a h1 h2 => by rw [mm_up_row (by omega), mm_up_row (by omega), mm_up_row (by omega)]; exact hfr a h1 h2) (fun y hy1 hy2 => ?_)
      have m78 : mm_up (mm_up (mm_up w 78 (p + 1) (nI (kyb x))) 79 (p + 1) (nI (kyl x))) 80 (p + 1) (nI (f x)) 78 = upd (w 78) (p + 1) (nI (kyb x)) := by rw [mm_up_row (by decide), mm_up_row (by decide), mm_up_at]
      have m79 : mm_up (mm_up (mm_up w 78 (p + 1) (nI (kyb x))) 79 (p + 1) (nI (kyl x))) 80 (p + 1) (nI (f x)) 79 = upd (w 79) (p + 1) (nI (kyl x)) := by rw [mm_up_row (by decide), mm_up_at, mm_up_row (by decide)]
      have m80 : mm_up (mm_up (mm_up w 78 (p + 1) (nI (kyb x))) 79 (p + 1) (nI (kyl x))) 80 (p + 1) (nI (f x)) 80 = upd (w 80) (p + 1) (nI (f x)) := by rw [mm_up_at, mm_up_row (by decide), mm_up_row (by decide)]
      rw [m78, m79, m80]
      obtain ⟨s1, s2⟩ := hx y hy1 hy2
      refine ⟨fun hlt => ?_, fun hge => ?_⟩
      · obtain ⟨t1, t2, t3⟩ := s1 (by omega)
        exact ⟨(if_neg (by omega)).trans t1, (if_neg (by omega)).trans t2, (if_neg (by omega)).trans t3⟩
      · by_cases e : cnt f y = p
        · have exy : y = x := cnt_inj hy2 hx2 (by omega)
          subst exy
          rw [e]
          exact ⟨if_pos rfl, if_pos rfl, if_pos rfl⟩
        · obtain ⟨t1, t2, t3⟩ := s2 (by omega)
          exact ⟨(if_neg (by omega)).trans t1, (if_neg (by omega)).trans t2, (if_neg (by omega)).trans t3⟩
    · have z : x < ky b l := by
        have : ¬ ky b l < x := fun y => z (ek.mpr y)
        omega
      have hm := cnt_lt (f := f) z hx2
      have e : cnt f (ky b l) = p + 1 := by omega
      have := stop w h5 hfr (by omega) (by rw [e]; exact hx)
      rw [e] at this
      exact this
end IN
section IK
variable {K : mmO → mmM → Prop}
theorem k_insert {f : Nat → Nat} {b l q : Nat} {w : mmM} (h : LnC w f) (hb : b < 40) (hl : l < 24) (hf : f (ky b l) = 0) (hsz : cnt f 960 < 60) (hq : q ≠ 0) (g : ∀ w', LnC w' (updN f (ky b l) q) → (∀ a, a ≠ 5 → (a < 78 ∨ 80 < a) → w' a = w a) → K (.inl none) w') : mm_M kX3_insert [.ref 5, .int (nI b), .int (nI l), .int (nI q)] w K := by
  have hk := ky_lt hb hl
  refine bX3_insert_0 (fun _ => bX3_insert_10 ?_) (fun z => absurd (by rw [h.1]; exact nI_lt (b := 60) hsz (by decide)) z)
  rw [h.1]
  refine k_insLoop hb hl hf rfl hsz (w0 := w) (fun w' h5 hL hfr => g w' ⟨?_, hL⟩ hfr) hq (cnt f 960) w (cnt_mono (Nat.le_of_lt hk)) (Nat.le_refl _) h.1 (fun _ _ _ => rfl) (fun x hx hfx => ⟨fun _ => h.2 x hx hfx, fun hge => absurd (cnt_lt (f := f) hx hfx) (by omega)⟩)
  rw [h5, cnt_upd hf hq, if_pos hk]
end IK
