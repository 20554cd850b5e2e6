/-! available, by trying -/
theorem sm_swap {f : Nat → Nat → Nat} {m : Nat} : ∀ {n : Nat}, sm (fun l => sm (f l) m) n = sm (fun b => sm (fun l => f l b) n) m
  | 0 => (sm_0 (f := fun _ => 0) (fun _ _ => rfl)).symm
  | n + 1 => by
    show sm (fun l => sm (f l) m) n + sm (f n) m = sm (fun b => sm (fun l => f l b) n + f n b) m
    rw [sm_add (f := fun b => sm (fun l => f l b) n) (g := f n), sm_swap]
theorem Inw.sk1200 {n : Nat} {s : St} (h : Inw n s) (i d : Nat) : s.sk i d ≤ 1200 := by
  have hn := h.nl_
  have h1 : s.sk i d ≤ sm s.lu s.nl := sm_mono fun l _ => by
    show (if _ then _ else _) ≤ _
    split
    · exact Nat.le_refl _
    · exact Nat.zero_le _
  have h2 : ∀ m, s.nl + m ≤ 24 → sm s.lu s.nl ≤ sm s.lu (s.nl + m) := by
    intro m
    induction m with
    | zero => intro _; exact Nat.le_refl _
    | succ m ih => intro hm; exact Nat.le_trans (ih (by omega)) (Nat.le_add_right _ _)
  have h3 := h2 (24 - s.nl) (by omega)
  rw [show s.nl + (24 - s.nl) = 24 by omega] at h3
  have h4 : sm s.lu 24 = sm s.bl 40 := sm_swap (f := s.un) (m := 40) (n := 24)
  have h5 := sm_le_mul (f := s.bl) (c := 30) (n := 40) (fun b hb => h.bl_ b hb)
  omega
/-- units that are given: what is left to give, what is left of the lots -/
def gkf (s : St) (x : Nat → Nat) (i u k : Nat) : Nat := if s.it (s.od k) = i ∧ u ≤ s.ex (s.od k) then x (s.od k) else 0
def gk (s : St) (x : Nat → Nat) (i u k : Nat) : Nat := sm (gkf s x i u) k
def gvs (s : St) (i u k : Nat) (t : PS) : PS := if s.it (s.od k) = i ∧ u ≤ s.ex (s.od k) then (t.1 - min t.1 (t.2 (s.od k)), updN t.2 (s.od k) (t.2 (s.od k) - min t.1 (t.2 (s.od k)))) else t
def gvx (s : St) (i u q : Nat) (x : Nat → Nat) : Nat → Nat := (fo (gvs s i u) ((q, x) : PS) s.nl).2
def gvJ (s : St) (i u q : Nat) (x : Nat → Nat) (k : Nat) (t : PS) : Prop := t.1 = q - gk s x i u k ∧ (∀ l, (∀ j, j < k → s.od j ≠ l) → t.2 l = x l) ∧ (∀ j, j < k → t.2 (s.od j) = x (s.od j) - (if s.it (s.od j) = i ∧ u ≤ s.ex (s.od j) then min (q - gk s x i u j) (x (s.od j)) else 0)) ∧ ∀ l, t.2 l ≤ x l
section TR
variable {n : Nat} {s : St}
theorem gvJ_0 {i u q : Nat} {x : Nat → Nat} : gvJ s i u q x 0 (q, x) := ⟨rfl, fun _ _ => rfl, fun j h => absurd h (Nat.not_lt_zero _), fun _ => Nat.le_refl _⟩
theorem gvJ_s (h : Inw n s) {i u q k : Nat} {x : Nat → Nat} {t : PS} (hk : k < s.nl) (g : gvJ s i u q x k t) : gvJ s i u q x (k + 1) (gvs s i u k t) := by
  obtain ⟨g1, g2, g3, g4⟩ := g
  have ne : ∀ j, j < k → s.od j ≠ s.od k := fun j hj e => by
    have := h.od_inj (by omega) hk e
    omega
  have hx : t.2 (s.od k) = x (s.od k) := g2 _ ne
  by_cases c : s.it (s.od k) = i ∧ u ≤ s.ex (s.od k)
  · have e : gvs s i u k t = (t.1 - min t.1 (t.2 (s.od k)), updN t.2 (s.od k) (t.2 (s.od k) - min t.1 (t.2 (s.od k)))) := if_pos c
    have eu : gk s x i u (k + 1) = gk s x i u k + x (s.od k) := by
      show gk s x i u k + (if _ then _ else _) = _
      rw [if_pos c]
    rw [e, hx]
    refine ⟨?_, fun l hl => ?_, fun j hj => ?_, fun l => ?_⟩
    · show t.1 - min t.1 (x (s.od k)) = _
      rw [eu]
      omega
    · show updN t.2 _ _ l = _
      rw [updN_ne (hl k (by omega)).symm]
      exact g2 l (fun j hj => hl j (by omega))
    · show updN t.2 _ _ _ = _
      by_cases e2 : j = k
      · subst e2
        rw [updN_at, if_pos c, g1]
      · rw [updN_ne (ne j (by omega))]
        exact g3 j (by omega)
    · show updN t.2 _ _ l ≤ _
      by_cases e2 : l = s.od k
      · subst e2
        rw [updN_at]
        exact Nat.sub_le _ _
      · rw [updN_ne e2]
        exact g4 l
  · have e : gvs s i u k t = t := if_neg c
    have eu : gk s x i u (k + 1) = gk s x i u k := by
      show gk s x i u k + (if _ then _ else _) = _
      rw [if_neg c]
      rfl
    rw [e]
    refine ⟨by rw [eu]; exact g1, fun l hl => g2 l (fun j hj => hl j (by omega)), fun j hj => ?_, g4⟩
    by_cases e2 : j = k
    · subst e2
      rw [if_neg c, hx]
      rfl
    · exact g3 j (by omega)
theorem gvJ_all (h : Inw n s) {i u q : Nat} {x : Nat → Nat} : ∀ k, k ≤ s.nl → gvJ s i u q x k (fo (gvs s i u) ((q, x) : PS) k) := by
  intro k
  induction k with
  | zero => intro _; exact gvJ_0
  | succ k ih => intro hk; exact gvJ_s h (by omega) (ih (by omega))
/-- the stock of the units that are left -/
def sx (s : St) (x : Nat → Nat) (i d : Nat) : Nat := gk s x i d s.nl
theorem sx_lu (h : Inw n s) (i d : Nat) : sx s s.lu i d = s.sk i d := uk_sk h i d
def gT (s : St) (x : Nat → Nat) (i u d q k : Nat) : Nat := if s.it (s.od k) = i ∧ d ≤ s.ex (s.od k) ∧ u ≤ s.ex (s.od k) then min (q - gk s x i u k) (x (s.od k)) else 0
def gV (s : St) (x : Nat → Nat) (i u d k : Nat) : Nat := if s.it (s.od k) = i ∧ u ≤ s.ex (s.od k) ∧ s.ex (s.od k) < d then x (s.od k) else 0
theorem g_claim (h : Inw n s) {x : Nat → Nat} {i u d q : Nat} : ∀ k, k ≤ s.nl → sm (gT s x i u d q) k + min q (sm (gV s x i u d) k) = min q (gk s x i u k) ∧ ((∃ j, j < k ∧ d ≤ s.ex (s.od j)) ∨ (sm (gT s x i u d q) k = 0 ∧ gk s x i u k = sm (gV s x i u d) k)) := by
  intro k
  induction k with
  | zero => intro _; exact ⟨by show 0 + min q 0 = min q 0; omega, Or.inr ⟨rfl, rfl⟩⟩
  | succ k ih =>
    intro hk
    obtain ⟨h1, h2⟩ := ih (by omega)
    have eT : sm (gT s x i u d q) (k + 1) = sm (gT s x i u d q) k + gT s x i u d q k := rfl
    have eV : sm (gV s x i u d) (k + 1) = sm (gV s x i u d) k + gV s x i u d k := rfl
    have eU : gk s x i u (k + 1) = gk s x i u k + gkf s x i u k := rfl
    rw [eT, eV, eU]
    by_cases c : s.it (s.od k) = i ∧ u ≤ s.ex (s.od k)
    · have e3 : gkf s x i u k = x (s.od k) := if_pos c
      by_cases c2 : d ≤ s.ex (s.od k)
      · have e1 : gT s x i u d q k = min (q - gk s x i u k) (x (s.od k)) := if_pos ⟨c.1, c2, c.2⟩
        have e2 : gV s x i u d k = 0 := if_neg (fun z => by omega)
        rw [e1, e2, e3]
        clear h2
        exact ⟨by omega, Or.inl ⟨k, by omega, c2⟩⟩
      · have e1 : gT s x i u d q k = 0 := if_neg (fun z => c2 z.2.1)
        have e2 : gV s x i u d k = x (s.od k) := if_pos ⟨c.1, c.2, by omega⟩
        rw [e1, e2, e3]
        rcases h2 with ⟨j, hj, hd⟩ | ⟨h3, h4⟩
        · have := h.odl_ j k (by omega) (by omega)
          omega
        · exact ⟨by omega, Or.inr ⟨by omega, by omega⟩⟩
    · have e1 : gT s x i u d q k = 0 := if_neg (fun z => c ⟨z.1, z.2.2⟩)
      have e2 : gV s x i u d k = 0 := if_neg (fun z => c ⟨z.1, z.2.1⟩)
      have e3 : gkf s x i u k = 0 := if_neg c
      rw [e1, e2, e3]
      refine ⟨by clear h2; omega, ?_⟩
      rcases h2 with ⟨j, hj, hd⟩ | ⟨h3, h4⟩
      · exact Or.inl ⟨j, by omega, hd⟩
      · exact Or.inr ⟨by omega, by omega⟩
theorem gv_ok2 (h : Inw n s) {x : Nat → Nat} {i u q : Nat} (hq : q ≤ sx s x i u) (d : Nat) : (d ≤ u → sx s (gvx s i u q x) i d + q = sx s x i d) ∧ (u < d → sx s (gvx s i u q x) i d ≤ sx s x i d ∧ (sx s (gvx s i u q x) i d = sx s x i d ∨ sx s (gvx s i u q x) i d + q = sx s x i u)) := by
  obtain ⟨j1, j2, j3, j4⟩ := gvJ_all h (i := i) (u := u) (q := q) (x := x) s.nl (Nat.le_refl _)
  have h1 := (g_claim h (x := x) (i := i) (u := u) (d := d) (q := q) s.nl (Nat.le_refl _)).1
  have h1 : sm (gT s x i u d q) s.nl + min q (sm (gV s x i u d) s.nl) = min q (sx s x i u) := h1
  have hT : sx s (gvx s i u q x) i d + sm (gT s x i u d q) s.nl = sx s x i d := by
    show sm (gkf s (gvx s i u q x) i d) s.nl + sm (gT s x i u d q) s.nl = sm (gkf s x i d) s.nl
    rw [← sm_add]
    refine sm_cong fun k hk => ?_
    have e := j3 k hk
    have e : gvx s i u q x (s.od k) = x (s.od k) - (if s.it (s.od k) = i ∧ u ≤ s.ex (s.od k) then min (q - gk s x i u k) (x (s.od k)) else 0) := e
    unfold gkf gT
    rw [e]
    have hm : min (q - gk s x i u k) (x (s.od k)) ≤ x (s.od k) := Nat.min_le_right _ _
    by_cases c : s.it (s.od k) = i ∧ d ≤ s.ex (s.od k)
    · rw [if_pos c, if_pos c]
      by_cases c2 : u ≤ s.ex (s.od k)
      · rw [if_pos ⟨c.1, c2⟩, if_pos ⟨c.1, c.2, c2⟩]
        omega
      · rw [if_neg (fun z => c2 z.2), if_neg (fun z => c2 z.2.2)]
        rfl
    · rw [if_neg c, if_neg c, if_neg (fun z => c ⟨z.1, z.2.1⟩)]
  constructor
  · intro hd
    have hV : sm (gV s x i u d) s.nl = 0 := sm_0 fun k _ => if_neg (fun z => by omega)
    rw [hV] at h1
    omega
  · intro hd
    have hV : sx s x i u = sm (gV s x i u d) s.nl + sx s x i d := by
      show sm (gkf s x i u) s.nl = _ + sm (gkf s x i d) s.nl
      rw [← sm_add]
      refine sm_cong fun k _ => ?_
      unfold gkf gV
      by_cases z : s.it (s.od k) = i
      · by_cases z2 : d ≤ s.ex (s.od k)
        · rw [if_pos ⟨z, by omega⟩, if_neg (fun y => by omega), if_pos ⟨z, z2⟩, Nat.zero_add]
        · by_cases z3 : u ≤ s.ex (s.od k)
          · rw [if_pos ⟨z, z3⟩, if_pos ⟨z, z3, by omega⟩, if_neg (fun y => z2 y.2), Nat.add_zero]
          · rw [if_neg (fun y => z3 y.2), if_neg (fun y => z3 y.2.1), if_neg (fun y => z2 y.2)]
      · rw [if_neg (fun y => z y.1), if_neg (fun y => z y.1), if_neg (fun y => z y.1)]
    omega
/-- what stays promised from the m-th promise on -/
def prr (s : St) (i d m : Nat) : Nat := sm (fun p => if m ≤ p ∧ s.st p = 111 ∧ d ≤ s.du p then s.q p i else 0) s.np
theorem prr_0 (i d : Nat) : prr s i d 0 = s.pr i d := sm_cong fun p _ => by
  show (if 0 ≤ p ∧ s.st p = 111 ∧ d ≤ s.du p then _ else _) = (if s.st p = 111 ∧ d ≤ s.du p then _ else _)
  by_cases c : s.st p = 111 ∧ d ≤ s.du p
  · rw [if_pos ⟨Nat.zero_le _, c⟩, if_pos c]
  · rw [if_neg (fun z => c z.2), if_neg c]
theorem prr_n (i d : Nat) : prr s i d s.np = 0 := sm_0 fun p hp => if_neg (fun z => by omega)
theorem prr_s {i d m : Nat} (hm : m < s.np) : prr s i d m = prr s i d (m + 1) + (if s.st m = 111 ∧ d ≤ s.du m then s.q m i else 0) := by
  have := sm_one (f := fun p => if m ≤ p ∧ s.st p = 111 ∧ d ≤ s.du p then s.q p i else 0) (g := fun p => if m + 1 ≤ p ∧ s.st p = 111 ∧ d ≤ s.du p then s.q p i else 0) (j := m) hm (fun p hp => by
    show (if m + 1 ≤ p ∧ s.st p = 111 ∧ d ≤ s.du p then _ else _) = (if m ≤ p ∧ s.st p = 111 ∧ d ≤ s.du p then _ else _)
    by_cases c : m ≤ p ∧ s.st p = 111 ∧ d ≤ s.du p
    · rw [if_pos c, if_pos ⟨by omega, c.2⟩]
    · rw [if_neg c, if_neg (fun z => c ⟨by omega, z.2⟩)])
  rw [if_neg (show ¬ (m + 1 ≤ m ∧ s.st m = 111 ∧ d ≤ s.du m) by omega)] at this
  have e : (if m ≤ m ∧ s.st m = 111 ∧ d ≤ s.du m then s.q m i else 0) = (if s.st m = 111 ∧ d ≤ s.du m then s.q m i else 0) := by
    by_cases c : s.st m = 111 ∧ d ≤ s.du m
    · rw [if_pos ⟨Nat.le_refl _, c⟩, if_pos c]
    · rw [if_neg (fun z => c z.2), if_neg c]
  rw [e] at this
  exact this.symm
theorem prr_mono {i d d2 m : Nat} (h : d ≤ d2) : prr s i d2 m ≤ prr s i d m := sm_mono fun p _ => by
  show (if m ≤ p ∧ s.st p = 111 ∧ d2 ≤ s.du p then _ else _) ≤ (if m ≤ p ∧ s.st p = 111 ∧ d ≤ s.du p then _ else _)
  by_cases c : m ≤ p ∧ s.st p = 111 ∧ d2 ≤ s.du p
  · rw [if_pos c, if_pos ⟨c.1, c.2.1, by omega⟩]
    exact Nat.le_refl _
  · rw [if_neg c]
    exact Nat.zero_le _
/-- what stays promised is there; or it isn't on some day -/
def gA (s : St) (i : Nat) (x : Nat → Nat) (m : Nat) : Prop := ∀ d, s.td ≤ d → prr s i d m ≤ sx s x i d
def gB (s : St) (i : Nat) (x : Nat → Nat) (m : Nat) : Prop := ∃ d, s.td ≤ d ∧ sx s x i d < prr s i d m
theorem gA_s (h : Inw n s) {i m : Nat} {x : Nat → Nat} (hm : m < s.np) (hs : s.st m = 111) (g : gA s i x m) : s.q m i ≤ sx s x i (s.du m) ∧ gA s i (gvx s i (s.du m) (s.q m i) x) (m + 1) := by
  have hd := h.du_ m hm hs
  have e0 := prr_s (s := s) (i := i) (d := s.du m) hm
  rw [if_pos ⟨hs, Nat.le_refl _⟩] at e0
  have g0 := g _ hd.1
  have hq : s.q m i ≤ sx s x i (s.du m) := by omega
  refine ⟨hq, fun d htd => ?_⟩
  obtain ⟨o1, o2⟩ := gv_ok2 h hq d
  have e1 := prr_s (s := s) (i := i) (d := d) hm
  have g1 := g d htd
  by_cases c : d ≤ s.du m
  · rw [if_pos ⟨hs, c⟩] at e1
    have := o1 c
    omega
  · rw [if_neg (fun z => c z.2)] at e1
    have hmono := prr_mono (s := s) (i := i) (m := m + 1) (show s.du m ≤ d by omega)
    rcases (o2 (by omega)).2 with z | z <;> omega
theorem gA_n {i m : Nat} {x : Nat → Nat} (hm : m < s.np) (hs : s.st m ≠ 111) (g : gA s i x m) : gA s i x (m + 1) := fun d hd => by
  have e1 := prr_s (s := s) (i := i) (d := d) hm
  rw [if_neg (fun z => hs z.1)] at e1
  have := g d hd
  omega
theorem gB_s (h : Inw n s) {i m : Nat} {x : Nat → Nat} (hm : m < s.np) (hs : s.st m = 111) (hq : s.q m i ≤ sx s x i (s.du m)) (g : gB s i x m) : gB s i (gvx s i (s.du m) (s.q m i) x) (m + 1) := by
  obtain ⟨d, hd, g⟩ := g
  refine ⟨d, hd, ?_⟩
  obtain ⟨o1, o2⟩ := gv_ok2 h hq d
  have e1 := prr_s (s := s) (i := i) (d := d) hm
  by_cases c : d ≤ s.du m
  · rw [if_pos ⟨hs, c⟩] at e1
    have := o1 c
    omega
  · rw [if_neg (fun z => c z.2)] at e1
    have := (o2 (by omega)).1
    omega
theorem gB_n {i m : Nat} {x : Nat → Nat} (hm : m < s.np) (hs : s.st m ≠ 111) (g : gB s i x m) : gB s i x (m + 1) := by
  obtain ⟨d, hd, g⟩ := g
  refine ⟨d, hd, ?_⟩
  have e1 := prr_s (s := s) (i := i) (d := d) hm
  rw [if_neg (fun z => hs z.1)] at e1
  omega
theorem la_ex {s : St} {i c : Nat} : ∀ {k : Nat}, s.la i k < c → ∃ j, j ≤ k ∧ s.df i (s.td + j) < c
  | 0, h => ⟨0, Nat.le_refl _, h⟩
  | k + 1, h => by
    have h : (if s.df i (s.td + (k + 1)) < s.la i k then s.df i (s.td + (k + 1)) else s.la i k) < c := h
    by_cases q : s.df i (s.td + (k + 1)) < s.la i k
    · rw [if_pos q] at h
      exact ⟨k + 1, Nat.le_refl _, h⟩
    · rw [if_neg q] at h
      obtain ⟨j, hj, hd⟩ := la_ex h
      exact ⟨j, by omega, hd⟩
theorem g_first (h : Inv n s) {i k q : Nat} (hi : i < 6) : (q ≤ s.la i k → q ≤ sx s s.lu i (s.td + k) ∧ gA s i (gvx s i (s.td + k) q s.lu) 0) ∧ (s.la i k < q → q ≤ sx s s.lu i (s.td + k) → gB s i (gvx s i (s.td + k) q s.lu) 0) := by
  constructor
  · intro hq
    have hdf : ∀ d, s.td ≤ d → d ≤ s.td + k → q + s.pr i d ≤ s.sk i d := fun d h1 h2 => by
      have := la_le_at (s := s) (i := i) (k := k) (j := d - s.td) (by omega)
      rw [show s.td + (d - s.td) = d by omega] at this
      have h4 : s.df i d = s.sk i d - s.pr i d := rfl
      have h5 := h.cv_ i d hi h1
      omega
    have hu := hdf (s.td + k) (by omega) (Nat.le_refl _)
    have hq2 : q ≤ sx s s.lu i (s.td + k) := by
      rw [sx_lu h.1]
      omega
    refine ⟨hq2, fun d htd => ?_⟩
    obtain ⟨o1, o2⟩ := gv_ok2 h.1 hq2 d
    rw [sx_lu h.1, sx_lu h.1] at o2
    rw [sx_lu h.1] at o1
    rw [prr_0]
    by_cases c : d ≤ s.td + k
    · have := o1 c
      have := hdf d htd c
      omega
    · have h5 := h.cv_ i d hi htd
      have hmono := prr_mono (s := s) (i := i) (m := 0) (show s.td + k ≤ d by omega)
      rw [prr_0, prr_0] at hmono
      rcases (o2 (by omega)).2 with z | z <;> omega
  · intro hq hq2
    obtain ⟨j, hj, hd⟩ := la_ex hq
    refine ⟨s.td + j, by omega, ?_⟩
    obtain ⟨o1, _⟩ := gv_ok2 h.1 hq2 (s.td + j)
    have := o1 (by omega)
    rw [sx_lu h.1] at this
    rw [prr_0]
    have h4 : s.df i (s.td + j) = s.sk i (s.td + j) - s.pr i (s.td + j) := rfl
    omega
end TR
