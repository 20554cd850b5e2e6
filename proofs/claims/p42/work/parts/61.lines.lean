/-! the lines of a promise as both find them: units taken, by key -/
theorem e_fors {α : Type} {n : Nat} {f : Nat → α → α} {a0 : α} {E : Nat → α → Prop} (I : Nat → α → Prop) (S : α → Prop) (h0 : I 0 a0) (hI : ∀ i a, i < n → I i a → I (i + 1) (f i a)) (hst : ∀ i a, i < n → I i a → S a → f i a = a) (hs : ∀ i a, i < n → I i a → ¬ S a → E (i + 1) (f i a) → E i a) (hx : ∀ i, i ≤ n → I i (fo f a0 n) → (i = n ∨ S (fo f a0 n)) → E i (fo f a0 n)) : E 0 a0 := by
  have key : ∀ i, i ≤ n → I i (fo f a0 i) := by
    intro i
    induction i with
    | zero => intro _; exact h0
    | succ i ih => intro hi; exact hI i _ hi (ih (Nat.le_of_lt hi))
  have stay : ∀ m i, i + m = n → S (fo f a0 i) → fo f a0 n = fo f a0 i := by
    intro m
    induction m with
    | zero => intro i hi _; have : i = n := by omega
              subst this; rfl
    | succ m ih =>
      intro i hi hS
      have e : fo f a0 (i + 1) = fo f a0 i := hst i _ (by omega) (key i (by omega)) hS
      rw [ih (i + 1) (by omega) (by rw [e]; exact hS), e]
  have go : ∀ m i, i + m = n → E i (fo f a0 i) := by
    intro m
    induction m with
    | zero => intro i hi; have : i = n := by omega
              subst this; exact hx _ (Nat.le_refl _) (key _ (Nat.le_refl _)) (Or.inl rfl)
    | succ m ih =>
      intro i hi
      by_cases hS : S (fo f a0 i)
      · have e := stay (m + 1) i hi hS
        have := hx i (by omega) (by rw [e]; exact key i (by omega)) (Or.inr (by rw [e]; exact hS))
        rw [e] at this
        exact this
      · exact hs i _ (by omega) (key i (by omega)) hS (ih (i + 1) (by omega))
  exact go n 0 (by omega)
theorem sm_rt (f : Nat → Nat) : sm (fun p => f (rt p)) 40 = sm f 40 := by
  show ((((((((((((((((((((((((((((((((((((((((0 + f 0) + f 1) + f 2) + f 3) + f 4) + f 5) + f 6) + f 7) + f 8) + f 9) + f 19) + f 18) + f 17) + f 16) + f 15) + f 14) + f 13) + f 12) + f 11) + f 10) + f 20) + f 21) + f 22) + f 23) + f 24) + f 25) + f 26) + f 27) + f 28) + f 29) + f 39) + f 38) + f 37) + f 36) + f 35) + f 34) + f 33) + f 32) + f 31) + f 30) = ((((((((((((((((((((((((((((((((((((((((0 + f 0) + f 1) + f 2) + f 3) + f 4) + f 5) + f 6) + f 7) + f 8) + f 9) + f 10) + f 11) + f 12) + f 13) + f 14) + f 15) + f 16) + f 17) + f 18) + f 19) + f 20) + f 21) + f 22) + f 23) + f 24) + f 25) + f 26) + f 27) + f 28) + f 29) + f 30) + f 31) + f 32) + f 33) + f 34) + f 35) + f 36) + f 37) + f 38) + f 39)
  omega
def ls1 (s : St) (l p : Nat) (t : PS) : PS := (t.1 - min t.1 (s.un l (rt p)), updN t.2 (p * 24 + l) (min t.1 (s.un l (rt p))))
def lsL (s : St) (l : Nat) (t : PS) : PS := fo (ls1 s l) t 40
def lsK (s : St) (i d k : Nat) (t : PS) : PS := if s.it (s.od k) = i ∧ d ≤ s.ex (s.od k) then lsL s (s.od k) t else t
def lsI (s : St) (i d q : Nat) (f : Nat → Nat) : PS := fo (lsK s i d) (q, f) s.nl
def lsP (s : St) (p : Nat) : Nat → Nat := fo (fun i f => (lsI s i (s.du p) (s.q p i) f).2) (fun _ => 0) s.ni
/-- what lies in the lots that come before -/
def ukf (s : St) (i d k : Nat) : Nat := if s.it (s.od k) = i ∧ d ≤ s.ex (s.od k) then s.lu (s.od k) else 0
def uk (s : St) (i d k : Nat) : Nat := sm (ukf s i d) k
theorem sm_two {f : Nat → Nat} {j k : Nat} (hjk : j ≠ k) : ∀ {n : Nat}, j < n → k < n → f j + f k ≤ sm f n
  | 0, h, _ => absurd h (Nat.not_lt_zero _)
  | n + 1, h, h2 => by
    show f j + f k ≤ sm f n + f n
    by_cases e : j = n
    · subst e
      have := sm_at (f := f) (j := k) (n := j) (by omega)
      omega
    · by_cases e2 : k = n
      · subst e2
        have := sm_at (f := f) (j := j) (n := k) (by omega)
        omega
      · have := sm_two (f := f) hjk (n := n) (by omega) (by omega)
        omega
theorem sm_ind {a n : Nat} (h : a < n) : sm (fun l => if l = a then 1 else 0) n = 1 := by
  have := sm_one (f := fun _ => 0) (g := fun l => if l = a then 1 else 0) (j := a) h (fun i hi => if_neg hi)
  rw [sm_0 (f := fun _ => 0) (fun _ _ => rfl), if_pos rfl] at this
  omega
theorem cnt_sm {f : Nat → Nat} : ∀ n, cnt f n ≤ sm f n
  | 0 => Nat.le_refl _
  | n + 1 => by
    rw [cnt_s]
    have := cnt_sm (f := f) n
    show _ ≤ sm f n + f n
    split <;> omega
section LP
variable {n : Nat} {s : St}
theorem Inw.od_inj (h : Inw n s) {j k : Nat} (hj : j < s.nl) (hk : k < s.nl) (e : s.od j = s.od k) : j = k := by
  by_cases hjk : j = k
  · exact hjk
  · have h1 := h.ods_ (fun l => if l = s.od j then 1 else 0)
    rw [sm_ind (h.od_ j hj)] at h1
    have h2 := sm_two (f := fun k => if s.od k = s.od j then 1 else 0) hjk hj hk
    rw [if_pos rfl, if_pos e.symm] at h2
    have h1 : sm (fun k => if s.od k = s.od j then 1 else 0) s.nl = 1 := h1
    omega
theorem Inw.od_sur (h : Inw n s) {l : Nat} (hl : l < s.nl) : ∃ k, k < s.nl ∧ s.od k = l := by
  have h1 := h.ods_ (fun a => if a = l then 1 else 0)
  rw [sm_ind hl] at h1
  have h1 : sm (fun k => if s.od k = l then 1 else 0) s.nl = 1 := h1
  obtain ⟨k, hk, hp⟩ := sm_pos (f := fun k => if s.od k = l then 1 else 0) (n := s.nl) (by omega)
  refine ⟨k, hk, ?_⟩
  by_cases e : s.od k = l
  · exact e
  · have hp : 0 < (if s.od k = l then 1 else 0) := hp
    rw [if_neg e] at hp
    omega
/-- what holds while a lot is gone through -/
def lsJ (s : St) (l : Nat) (t0 : PS) (p : Nat) (t : PS) : Prop := t.1 = t0.1 - sm (fun p => s.un l (rt p)) p ∧ (∀ y, y % 24 ≠ l → t.2 y = t0.2 y) ∧ (∀ a, p ≤ a → a < 40 → t.2 (a * 24 + l) = 0) ∧ (∀ a, a < p → t.2 (a * 24 + l) ≤ s.un l (rt a)) ∧ sm (fun a => t.2 (a * 24 + l)) p + t.1 = t0.1 ∧ t.1 + sm t.2 960 = t0.1 + sm t0.2 960
theorem lsJ_0 {l : Nat} {t0 : PS} (hf : ∀ a, a < 40 → t0.2 (a * 24 + l) = 0) : lsJ s l t0 0 t0 := ⟨rfl, fun _ _ => rfl, fun a _ h => hf a h, fun a h => absurd h (Nat.not_lt_zero _), Nat.zero_add _, rfl⟩
theorem lsJ_s {l p : Nat} {t0 t : PS} (hl : l < 24) (hp : p < 40) (h : lsJ s l t0 p t) : lsJ s l t0 (p + 1) (ls1 s l p t) := by
  obtain ⟨h1, h2, h3, h4, h5, h6⟩ := h
  have hz := h3 p (Nat.le_refl _) hp
  have hm : min t.1 (s.un l (rt p)) ≤ t.1 := Nat.min_le_left _ _
  refine ⟨?_, fun y hy => ?_, fun a h1 h2 => ?_, fun a ha => ?_, ?_, ?_⟩
  · show t.1 - min t.1 (s.un l (rt p)) = t0.1 - (sm (fun p => s.un l (rt p)) p + s.un l (rt p))
    omega
  · show updN t.2 _ _ y = _
    rw [updN_ne (by intro e; subst e; omega)]
    exact h2 y hy
  · show updN t.2 _ _ _ = _
    rw [updN_ne (by omega)]
    exact h3 a (by omega) h2
  · show updN t.2 _ _ _ ≤ _
    by_cases e : a = p
    · subst e
      rw [updN_at]
      exact Nat.min_le_right _ _
    · rw [updN_ne (by omega)]
      exact h4 a (by omega)
  · show sm (fun a => updN t.2 (p * 24 + l) (min t.1 (s.un l (rt p))) (a * 24 + l)) p + updN t.2 (p * 24 + l) (min t.1 (s.un l (rt p))) (p * 24 + l) + (t.1 - min t.1 (s.un l (rt p))) = t0.1
    rw [updN_at, sm_cong (g := fun a => t.2 (a * 24 + l)) (fun a ha => updN_ne (by omega))]
    omega
  · show t.1 - min t.1 (s.un l (rt p)) + sm (updN t.2 (p * 24 + l) (min t.1 (s.un l (rt p)))) 960 = _
    have := sm_one (f := t.2) (g := updN t.2 (p * 24 + l) (min t.1 (s.un l (rt p)))) (j := p * 24 + l) (n := 960) (by omega) (fun i hi => updN_ne hi)
    rw [updN_at, hz] at this
    omega
theorem lsJ_z {l p : Nat} {t0 t : PS} (hp : p < 40) (h : lsJ s l t0 p t) (hm : min t.1 (s.un l (rt p)) = 0) : ls1 s l p t = t := by
  unfold ls1
  rw [hm]
  refine Prod.ext (Nat.sub_zero _) ?_
  show updN t.2 (p * 24 + l) 0 = t.2
  funext y
  by_cases e : y = p * 24 + l
  · subst e
    rw [updN_at, h.2.2.1 p (Nat.le_refl _) hp]
  · rw [updN_ne e]
theorem lsJ_all {l : Nat} {t0 : PS} (hl : l < 24) (hf : ∀ a, a < 40 → t0.2 (a * 24 + l) = 0) : ∀ p, p ≤ 40 → lsJ s l t0 p (fo (ls1 s l) t0 p) := by
  intro p
  induction p with
  | zero => intro _; exact lsJ_0 hf
  | succ p ih => intro hp; exact lsJ_s hl (by omega) (ih (by omega))
theorem lsL_ok {l : Nat} {t0 : PS} (hl : l < 24) (hf : ∀ a, a < 40 → t0.2 (a * 24 + l) = 0) : (lsL s l t0).1 = t0.1 - s.lu l ∧ (∀ y, y % 24 ≠ l → (lsL s l t0).2 y = t0.2 y) ∧ (∀ a, a < 40 → (lsL s l t0).2 (a * 24 + l) ≤ s.un l (rt a)) ∧ sm (fun a => (lsL s l t0).2 (a * 24 + l)) 40 = min t0.1 (s.lu l) ∧ (lsL s l t0).1 + sm (lsL s l t0).2 960 = t0.1 + sm t0.2 960 := by
  obtain ⟨h1, h2, h3, h4, h5, h6⟩ := lsJ_all (s := s) hl hf 40 (Nat.le_refl _)
  rw [sm_rt (s.un l)] at h1
  have h1 : (lsL s l t0).1 = t0.1 - s.lu l := h1
  have h5 : sm (fun a => (lsL s l t0).2 (a * 24 + l)) 40 + (lsL s l t0).1 = t0.1 := h5
  exact ⟨h1, h2, h4, by omega, h6⟩
/-- what holds while the lots of an item are gone through -/
def lsG (s : St) (i d q : Nat) (f0 : Nat → Nat) (k : Nat) (t : PS) : Prop := t.1 = q - uk s i d k ∧ (∀ y, (∀ j, j < k → s.it (s.od j) = i → y % 24 ≠ s.od j) → t.2 y = f0 y) ∧ (∀ j, j < k → s.it (s.od j) = i → ∀ a, a < 40 → t.2 (a * 24 + s.od j) ≤ s.un (s.od j) (rt a)) ∧ (∀ j, j < k → s.it (s.od j) = i → sm (fun a => t.2 (a * 24 + s.od j)) 40 = if d ≤ s.ex (s.od j) then min (q - uk s i d j) (s.lu (s.od j)) else 0) ∧ t.1 + sm t.2 960 = q + sm f0 960
theorem lsG_0 {i d q : Nat} {f0 : Nat → Nat} : lsG s i d q f0 0 (q, f0) := ⟨rfl, fun _ _ => rfl, fun j h => absurd h (Nat.not_lt_zero _), fun j h => absurd h (Nat.not_lt_zero _), rfl⟩
theorem lsG_f (hI : Inw n s) {i d q k : Nat} {f0 : Nat → Nat} {t : PS} (hf : ∀ j, j < s.nl → s.it (s.od j) = i → ∀ a, a < 40 → f0 (a * 24 + s.od j) = 0) (h : lsG s i d q f0 k t) : ∀ m, k ≤ m → m < s.nl → s.it (s.od m) = i → ∀ a, a < 40 → t.2 (a * 24 + s.od m) = 0 := by
  intro m hkm hm hi a ha
  have hl := hI.od_ m hm
  have hn := hI.nl_
  rw [h.2.1 _ (fun j hj _ e => ?_)]
  · exact hf m hm hi a ha
  · have : s.od m = s.od j := by omega
    have := hI.od_inj hm (by omega) this
    omega
theorem lsG_s (hI : Inw n s) {i d q k : Nat} {f0 : Nat → Nat} {t : PS} (hf : ∀ j, j < s.nl → s.it (s.od j) = i → ∀ a, a < 40 → f0 (a * 24 + s.od j) = 0) (hk : k < s.nl) (h : lsG s i d q f0 k t) : lsG s i d q f0 (k + 1) (lsK s i d k t) := by
  have hl := hI.od_ k hk
  have hn := hI.nl_
  have hfr := lsG_f hI hf h k (Nat.le_refl _) hk
  obtain ⟨h1, h2, h3, h4, h5⟩ := h
  by_cases c : s.it (s.od k) = i ∧ d ≤ s.ex (s.od k)
  · have e : lsK s i d k t = lsL s (s.od k) t := if_pos c
    have eu : uk s i d (k + 1) = uk s i d k + s.lu (s.od k) := by
      show uk s i d k + (if _ then _ else _) = _
      rw [if_pos c]
    obtain ⟨g1, g2, g3, g4, g5⟩ := lsL_ok (s := s) (l := s.od k) (t0 := t) (by omega) (hfr c.1)
    rw [e]
    have ne : ∀ j, j < k → s.od j ≠ s.od k := fun j hj e => by
      have := hI.od_inj (by omega) hk e
      omega
    have ne2 : ∀ j, j < k → ∀ a, (a * 24 + s.od j) % 24 ≠ s.od k := fun j hj a => by
      have := ne j hj
      have := hI.od_ j (by omega)
      omega
    refine ⟨by rw [g1, eu]; omega, fun y hy => ?_, fun j hj hji a ha => ?_, fun j hj hji => ?_, by omega⟩
    · rw [g2 y (hy k (by omega) c.1)]
      exact h2 y (fun j hj hji => hy j (by omega) hji)
    · by_cases e2 : j = k
      · subst e2
        exact g3 a ha
      · rw [g2 _ (ne2 j (by omega) a)]
        exact h3 j (by omega) hji a ha
    · by_cases e2 : j = k
      · subst e2
        rw [g4, if_pos c.2, h1]
      · rw [sm_cong (g := fun a => t.2 (a * 24 + s.od j)) (fun a _ => g2 _ (ne2 j (by omega) a))]
        exact h4 j (by omega) hji
  · have e : lsK s i d k t = t := if_neg c
    have eu : uk s i d (k + 1) = uk s i d k := by
      show uk s i d k + (if _ then _ else _) = _
      rw [if_neg c]
      rfl
    rw [e]
    refine ⟨by rw [eu]; exact h1, fun y hy => h2 y (fun j hj => hy j (by omega)), fun j hj hji a ha => ?_, fun j hj hji => ?_, h5⟩
    · by_cases e2 : j = k
      · subst e2
        rw [hfr hji a ha]
        exact Nat.zero_le _
      · exact h3 j (by omega) hji a ha
    · by_cases e2 : j = k
      · subst e2
        rw [if_neg (fun z => c ⟨hji, z⟩)]
        exact sm_0 (fun a ha => hfr hji a ha)
      · exact h4 j (by omega) hji
theorem lsG_all (hI : Inw n s) {i d q : Nat} {f0 : Nat → Nat} (hf : ∀ j, j < s.nl → s.it (s.od j) = i → ∀ a, a < 40 → f0 (a * 24 + s.od j) = 0) : ∀ k, k ≤ s.nl → lsG s i d q f0 k (fo (lsK s i d) (q, f0) k) := by
  intro k
  induction k with
  | zero => intro _; exact lsG_0
  | succ k ih => intro hk; exact lsG_s hI hf (by omega) (ih (by omega))
/-- what holds while the items are gone through -/
def lsH (s : St) (p i : Nat) (f : Nat → Nat) : Prop := (∀ y, (y % 24 < s.nl → i ≤ s.it (y % 24)) → f y = 0) ∧ (∀ l, l < s.nl → s.it l < i → ∀ a, a < 40 → f (a * 24 + l) ≤ s.un l (rt a)) ∧ (∀ k, k < s.nl → s.it (s.od k) < i → sm (fun a => f (a * 24 + s.od k)) 40 = if s.du p ≤ s.ex (s.od k) then min (s.q p (s.it (s.od k)) - uk s (s.it (s.od k)) (s.du p) k) (s.lu (s.od k)) else 0) ∧ sm f 960 ≤ sm (s.q p) i
theorem lsH_f {p i : Nat} {f : Nat → Nat} (hI : Inw n s) (h : lsH s p i f) : ∀ j, j < s.nl → s.it (s.od j) = i → ∀ a, a < 40 → f (a * 24 + s.od j) = 0 := by
  intro j hj hji a ha
  have := hI.od_ j hj
  have := hI.nl_
  refine h.1 _ (fun _ => ?_)
  rw [show (a * 24 + s.od j) % 24 = s.od j by omega, hji]
  exact Nat.le_refl _
theorem lsH_s (hI : Inw n s) {p i : Nat} {f : Nat → Nat} (h : lsH s p i f) : lsH s p (i + 1) (lsI s i (s.du p) (s.q p i) f).2 := by
  have hn := hI.nl_
  obtain ⟨g1, g2, g3, g4, g5⟩ := lsG_all hI (lsH_f hI h) (d := s.du p) (q := s.q p i) s.nl (Nat.le_refl _)
  obtain ⟨h1, h2, h3, h4⟩ := h
  have ne : ∀ l, l < s.nl → s.it l ≠ i → ∀ a, ∀ j, j < s.nl → s.it (s.od j) = i → (a * 24 + l) % 24 ≠ s.od j := fun l hl hli a j hj hji e => by
    rw [show (a * 24 + l) % 24 = l by omega] at e
    rw [e] at hli
    exact hli hji
  refine ⟨fun y hy => ?_, fun l hl hli a ha => ?_, fun k hk hki => ?_, ?_⟩
  · have e : (lsI s i (s.du p) (s.q p i) f).2 y = f y := g2 y (fun j hj hji e => by
      have := hI.od_ j hj
      have := hy (by omega)
      rw [e, hji] at this
      omega)
    rw [e]
    exact h1 y (fun z => by have := hy z; omega)
  · by_cases e : s.it l = i
    · obtain ⟨k, hk, e2⟩ := hI.od_sur hl
      subst e2
      exact g3 k hk e a ha
    · have e2 : (lsI s i (s.du p) (s.q p i) f).2 (a * 24 + l) = f (a * 24 + l) := g2 _ (ne l hl e a)
      rw [e2]
      exact h2 l hl (by omega) a ha
  · by_cases e : s.it (s.od k) = i
    · rw [e]
      exact g4 k hk e
    · exact (sm_cong (f := fun a => (lsI s i (s.du p) (s.q p i) f).2 (a * 24 + s.od k)) (g := fun a => f (a * 24 + s.od k)) (fun a _ => g2 _ (ne _ (hI.od_ k hk) e a))).trans (h3 k hk (by omega))
  · have g5 : (lsI s i (s.du p) (s.q p i) f).1 + sm (lsI s i (s.du p) (s.q p i) f).2 960 = s.q p i + sm f 960 := g5
    show _ ≤ sm (s.q p) i + s.q p i
    omega
theorem lsH_0 {p : Nat} : lsH s p 0 (fun _ => 0) := ⟨fun _ _ => rfl, fun l _ h => absurd h (Nat.not_lt_zero _), fun l _ h => absurd h (Nat.not_lt_zero _), by rw [sm_0 (fun _ _ => rfl)]; exact Nat.le_refl _⟩
theorem lsH_all (hI : Inw n s) {p : Nat} : ∀ i, lsH s p i (fo (fun i f => (lsI s i (s.du p) (s.q p i) f).2) (fun _ => 0) i) := by
  intro i
  induction i with
  | zero => exact lsH_0
  | succ i ih => exact lsH_s hI ih
theorem lsP_ok (hI : Inw n s) {p : Nat} (hp : p < s.np) : lsH s p s.ni (lsP s p) ∧ sm (lsP s p) 960 ≤ 60 ∧ cnt (lsP s p) 960 ≤ 60 := by
  have h := lsH_all hI (p := p) s.ni
  have h1 := hI.q_ p hp
  have h2 := hI.ni_
  have h3 : sm (s.q p) s.ni ≤ sm (s.q p) 6 := by
    have : ∀ m, s.ni + m ≤ 6 → sm (s.q p) s.ni ≤ sm (s.q p) (s.ni + m) := by
      intro m
      induction m with
      | zero => intro _; exact Nat.le_refl _
      | succ m ih => intro hm; exact Nat.le_trans (ih (by omega)) (Nat.le_add_right _ _)
    have := this (6 - s.ni) (by omega)
    rw [show s.ni + (6 - s.ni) = 6 by omega] at this
    exact this
  have h4 := h.2.2.2
  have h5 : sm (lsP s p) 960 ≤ 60 := Nat.le_trans h4 (by omega)
  exact ⟨h, h5, Nat.le_trans (cnt_sm 960) h5⟩
end LP
