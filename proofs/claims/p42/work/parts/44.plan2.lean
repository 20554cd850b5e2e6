/-! the plan: both walks -/
theorem min_nI {a b : Nat} (ha : a < 1000000) (hb : b < 1000000) : (if nI b < nI a then nI b else nI a) = nI (min a b) := by
  have e : (nI b < nI a) ↔ b < a := nI_lti hb ha
  by_cases q : b < a
  · rw [if_pos (e.mpr q), Nat.min_eq_right (Nat.le_of_lt q)]
  · rw [if_neg (fun z => q (e.mp z)), Nat.min_eq_left (by omega)]
def pmC (w0 w : mmM) (t : PS) : Prop := (∀ a, a ≠ 6 → w a = w0 a) ∧ ∀ j, j < 6 → w 6 j = nI (t.2 j)
def pmM (w0 w : mmM) (t : PS) : Prop := (∀ a, a ≠ 241 → w a = w0 a) ∧ ∀ j, j < 6 → w 241 j = nI (t.2 j)
section P2
variable {n : Nat} {s : St}
theorem pmC.rep {w0 w : mmM} {t : PS} (h : pmC w0 w t) (hw : RepC w0 s) : RepC w s := hw.keep (fun a ha => h.1 a (by omega))
theorem Inv.lab (h : Inv n s) {o k : Nat} : s.la o k ≤ 28800 := Nat.le_trans la_le (Nat.le_trans (Nat.sub_le _ _) (h.1.skb o s.td))
theorem k_part {w0 w : mmM} {K : mmO → mmM → Prop} {k o : Nat} {t : PS} (h : Inv n s) (hw0 : RepC w0 s) (hp : pmC w0 w t) (ho : o < s.ni) (hk : k ≤ 60) (ht : t.1 ≤ 60) (hz : t.2 o = 0) (g : ∀ w', pmC w0 w' (gv s k o t) → K (.inl (some (.int (nI (gv s k o t).1)))) w') : mm_M kX5_planPart [.ref 0, .int (nI o), .int (nI t.1), .int (nI (s.td + k))] w K := by
  have hni := h.ni_
  have a1 := in_nI (show o < 6 by omega) (by decide)
  have hw := hp.rep hw0
  have hla := h.lab (o := o) (k := k)
  refine bX5_planPart_0 (fun q => ?_) (fun q => ?_) <;> rw [nI_le0 (by omega)] at q
  · refine bX5_planPart_20 a1 ?_
    rw [cl_nI (by omega), hp.2 o (by omega), hz, q]
    have e : gv s k o t = (0, t.2) := by
      unfold gv
      rw [q, Nat.zero_min]
      refine Prod.ext rfl ?_
      show updN t.2 o 0 = t.2
      funext j
      by_cases z : j = o
      · subst z; rw [updN_at, hz]
      · rw [updN_ne z]
    rw [e] at g
    rw [show nI 0 - nI 0 = nI 0 by decide]
    exact g w hp
  · refine bX5_planPart_4 (by decide) (k_least h hw ho hk (mm_Kr 0 rfl (bX5_planPart_16 a1 (bX5_planPart_20 a1 ?_))))
    rw [cl_nI (by omega), mm_up_same, min_nI (by omega) (by omega), sub_nI (Nat.min_le_left _ _)]
    refine g _ ⟨fun a ha => ?_, fun j hj => ?_⟩
    · rw [mm_up_row ha]
      exact hp.1 a ha
    · show mm_up w 6 o (nI (min t.1 (s.la o k))) 6 j = nI (updN t.2 o (min t.1 (s.la o k)) j)
      by_cases z : j = o
      · subst z; rw [mm_up_same, updN_at]
      · rw [updN_ne z, mm_up_at]
        exact (if_neg z).trans (hp.2 j hj)
theorem k_planC {w0 : mmM} {K : mmO → mmM → Prop} {i q k : Nat} {x4 : Int32} (h : Inv n s) (hw0 : RepC w0 s) (hi : i < s.ni) (hk : k ≤ 60) (hq : q ≤ 60) (g : ∀ w', pmC w0 w' (plan s i q k (decide (x4 ≠ 0))) → K (.inl (some (.int (nI (plan s i q k (decide (x4 ≠ 0))).1)))) w') : mm_M kX5_planPromise [.ref 0, .int (nI i), .int (nI q), .int (nI (s.td + k)), .int x4] w0 K := by
  have hni := h.ni_
  refine bX5_planPromise_0 ?_
  have zero : ∀ m j w l6 l7, j + m = 6 → (∀ a, a ≠ 6 → w a = w0 a) → (∀ b, b < j → w 6 b = 0) → (∀ w l6 l7, pmC w0 w (q, fun _ => 0) → mm_E kX5_planPromise 24 [.ref 0, .int (nI i), .int (nI q), .int (nI (s.td + k)), .int x4, .int (nI 6), l6, l7] [] w 0 K) → mm_E kX5_planPromise 3 [.ref 0, .int (nI i), .int (nI q), .int (nI (s.td + k)), .int x4, .int (nI j), l6, l7] [] w 0 K := by
    intro m
    induction m with
    | zero =>
      intro j w l6 l7 hj h1 h2 g
      have e : j = 6 := by omega
      subst e
      exact bX5_planPromise_3 (fun _ => g w _ _ ⟨h1, h2⟩) (fun q => absurd (le_nI (Nat.le_refl 6) (by decide)) q)
    | succ m ih =>
      intro j w l6 l7 hj h1 h2 g
      refine bX5_planPromise_3 (fun q => absurd q (ge_nI (n := 6) (by omega) (by decide))) (fun _ => bX5_planPromise_10 (in_nI (by omega) (by decide)) ?_)
      rw [nI_1, cl_nI (by omega)]
      refine ih (j + 1) _ _ _ (by omega) (fun a ha => by rw [mm_up_row ha]; exact h1 a ha) (fun b hb => ?_) g
      by_cases z : b = j
      · subst z; rw [mm_up_same]
      · rw [mm_up_at]
        exact (if_neg z).trans (h2 b (by omega))
  refine zero 6 0 w0 _ _ rfl (fun _ _ => rfl) (fun b hb => absurd hb (Nat.not_lt_zero _)) (fun w l6 l7 hp => ?_)
  refine bX5_planPromise_24 (by decide) (k_part (t := (q, fun _ => 0)) h hw0 hp hi hk hq rfl (fun w1 hp1 => mm_Kr 0 rfl ?_))
  by_cases hx : x4 = 0
  · have e : plan s i q k (decide (x4 ≠ 0)) = gv s k i (q, fun _ => 0) := by rw [show decide (x4 ≠ 0) = false from decide_eq_false (fun z => z hx)]; rfl
    rw [e] at g
    exact bX5_planPromise_31 (fun _ => bX5_planPromise_38 (g w1 hp1)) (fun z => absurd hx z)
  · have e : plan s i q k (decide (x4 ≠ 0)) = fo (fun r t => plR s i k (r + 1) t) (plan0 s i q k) 9 := by rw [show decide (x4 ≠ 0) = true from decide_eq_true hx]; rfl
    rw [e] at g
    refine bX5_planPromise_31 (fun z => absurd z hx) (fun _ => bX5_planPromise_41 ?_)
    refine e_for (n := 9) (a0 := plan0 s i q k) (E := fun r t => ∀ w l7, pmC w0 w t → mm_E kX5_planPromise 44 [.ref 0, .int (nI i), .int (nI q), .int (nI (s.td + k)), .int x4, .int (nI t.1), .int (nI (r + 1)), l7] [] w 0 K) (f := fun r t => plR s i k (r + 1) t) (fun r t => plOK s i q k (r + 1) 0 t ∧ ∀ j, 6 ≤ j → t.2 j = 0) (plan0_ok h hi) ?_ ?_ ?_ w1 _ hp1
    · rintro r t hr ⟨h1, h2⟩
      have g1 := plR_ok hni h1 s.ni (Nat.le_refl _)
      have g2 := plR_6 (s := s) (i := i) (k := k) (r := r + 1) hni h2 s.ni (Nat.le_refl _)
      exact ⟨plR_nx g1 (fun j hj hj6 => (g1.2.1 j hj6).2 hj) g2, g2⟩
    · rintro r t hr ⟨h1, h2⟩ ih w l7 hp
      refine bX5_planPromise_44 (fun z => absurd z (nI_nlt (a := 9) (by omega) (by omega))) (fun _ => bX5_planPromise_51 ?_)
      refine e_for (n := s.ni) (a0 := t) (E := fun o t => ∀ w, pmC w0 w t → mm_E kX5_planPromise 54 [.ref 0, .int (nI i), .int (nI q), .int (nI (s.td + k)), .int x4, .int (nI t.1), .int (nI (r + 1)), .int (nI o)] [] w 0 K) (f := plI s i k (r + 1)) (fun o t => plOK s i q k (r + 1) o t) h1 (fun o t ho ht => plI_ok ho hni ht) ?_ ?_ w hp
      · intro o t ho ht ih2 w hp
        have hw := hp.rep hw0
        have hrk := h.rk_ i o
        have t60 : t.1 ≤ 60 := by have := ht.1; omega
        refine bX5_planPromise_54 (fun z => absurd (hw.ni ▸ z) (ge_nI ho (by omega))) (fun _ => ?_)
        have er : w (10 + (nI i).toNatClampNeg) (nI o).toNatClampNeg = nI (s.rk i o) := by rw [cl_nI (by omega), cl_nI (by omega), hw.rk i (by omega)]
        refine bX5_planPromise_66 (in_nI (by omega) (by decide)) (in_nI (by omega) (by decide)) (fun z => ?_) (fun z => ?_) <;> rw [er, nI_eq (by omega) (by omega)] at z
        · have e2 : plI s i k (r + 1) o t = gv s k o t := if_pos z
          rw [e2] at ih2
          refine bX5_planPromise_83 (by decide) (k_part h hw0 hp ho hk t60 (ht.2.2 o (Or.inr ⟨z, Nat.le_refl _⟩)) (fun w2 hp2 => mm_Kr 0 rfl (bX5_planPromise_92 (bX5_planPromise_94 ?_))))
          rw [nI_1]
          exact ih2 w2 hp2
        · have e2 : plI s i k (r + 1) o t = t := if_neg z
          rw [e2] at ih2
          refine bX5_planPromise_94 ?_
          rw [nI_1]
          exact ih2 w hp
      · intro _ w hp
        have hw := hp.rep hw0
        refine bX5_planPromise_54 (fun _ => bX5_planPromise_100 ?_) (fun z => absurd (hw.ni ▸ le_nI (Nat.le_refl s.ni) (by omega)) z)
        rw [nI_1]
        exact ih w _ hp
    · intro _ w l7 hp
      exact bX5_planPromise_44 (fun _ => bX5_planPromise_106 (g w hp)) (fun z => absurd (nI_lt (a := 9) (b := 10) (by decide) (by decide)) z)
end P2
