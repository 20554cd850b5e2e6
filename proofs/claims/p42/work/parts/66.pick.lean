/-! a promise is picked: what is left is enough -/
theorem sm_drop {f g : Nat → Nat} {j : Nat} : ∀ {n : Nat}, (∀ i, i < n → g i ≤ f i) → j < n → g j = 0 → sm g n + f j ≤ sm f n
  | 0, _, h, _ => absurd h (Nat.not_lt_zero _)
  | n + 1, h, hj, hz => by
    show sm g n + g n + f j ≤ sm f n + f n
    by_cases e : j = n
    · subst e
      have := sm_mono (f := g) (g := f) (n := j) (fun i hi => h i (by omega))
      omega
    · have := sm_drop (f := f) (g := g) (j := j) (n := n) (fun i hi => h i (by omega)) (by omega) hz
      have := h n (by omega)
      omega
theorem set_ne {s : St} {k i : Nat} {g : Nat → Nat → Nat} (h : i ≠ k) : s.set k g i = s i := if_neg h
/-- what is taken from the lots that expire on day d or later; what lies in those that come before -/
def tkT (s : St) (i u d q k : Nat) : Nat := if s.it (s.od k) = i ∧ d ≤ s.ex (s.od k) ∧ u ≤ s.ex (s.od k) then min (q - uk s i u k) (s.lu (s.od k)) else 0
def tkV (s : St) (i u d k : Nat) : Nat := if s.it (s.od k) = i ∧ u ≤ s.ex (s.od k) ∧ s.ex (s.od k) < d then s.lu (s.od k) else 0
section PT
variable {n : Nat} {s : St}
theorem tk_claim (h : Inw n s) {i u d q : Nat} : ∀ k, k ≤ s.nl → sm (tkT s i u d q) k + min q (sm (tkV s i u d) k) = min q (uk s i u k) ∧ ((∃ j, j < k ∧ d ≤ s.ex (s.od j)) ∨ (sm (tkT s i u d q) k = 0 ∧ uk s i u k = sm (tkV s i u d) k)) := by
  intro k
  induction k with
  | zero => intro _; exact ⟨by show 0 + min q 0 = min q 0; omega, Or.inr ⟨rfl, rfl⟩⟩
  | succ k ih =>
    intro hk
    obtain ⟨h1, h2⟩ := ih (by omega)
    have eT : sm (tkT s i u d q) (k + 1) = sm (tkT s i u d q) k + tkT s i u d q k := rfl
    have eV : sm (tkV s i u d) (k + 1) = sm (tkV s i u d) k + tkV s i u d k := rfl
    have eU : uk s i u (k + 1) = uk s i u k + ukf s i u k := rfl
    rw [eT, eV, eU]
    by_cases c : s.it (s.od k) = i ∧ u ≤ s.ex (s.od k)
    · have e3 : ukf s i u k = s.lu (s.od k) := if_pos c
      by_cases c2 : d ≤ s.ex (s.od k)
      · have e1 : tkT s i u d q k = min (q - uk s i u k) (s.lu (s.od k)) := if_pos ⟨c.1, c2, c.2⟩
        have e2 : tkV s i u d k = 0 := if_neg (fun z => by omega)
        rw [e1, e2, e3]
        clear h2
        exact ⟨by omega, Or.inl ⟨k, by omega, c2⟩⟩
      · have e1 : tkT s i u d q k = 0 := if_neg (fun z => c2 z.2.1)
        have e2 : tkV s i u d k = s.lu (s.od k) := if_pos ⟨c.1, c.2, by omega⟩
        rw [e1, e2, e3]
        rcases h2 with ⟨j, hj, hd⟩ | ⟨h3, h4⟩
        · have := h.odl_ j k (by omega) (by omega)
          omega
        · exact ⟨by omega, Or.inr ⟨by omega, by omega⟩⟩
    · have e1 : tkT s i u d q k = 0 := if_neg (fun z => c ⟨z.1, z.2.2⟩)
      have e2 : tkV s i u d k = 0 := if_neg (fun z => c ⟨z.1, z.2.1⟩)
      have e3 : ukf s i u k = 0 := if_neg c
      rw [e1, e2, e3]
      refine ⟨by clear h2; omega, ?_⟩
      rcases h2 with ⟨j, hj, hd⟩ | ⟨h3, h4⟩
      · exact Or.inl ⟨j, by omega, hd⟩
      · exact Or.inr ⟨by omega, by omega⟩
theorem uk_sk (h : Inw n s) (i u : Nat) : uk s i u s.nl = s.sk i u := h.ods_ (fun l => if s.it l = i ∧ u ≤ s.ex l then s.lu l else 0)
/-- the units of a lot that the lines take -/
def lsU (f : Nat → Nat) (l : Nat) : Nat := sm (fun b => f (ky b l)) 40
theorem lsU_eq (f : Nat → Nat) (l : Nat) : lsU f l = sm (fun a => f (a * 24 + l)) 40 := sm_rt (fun a => f (a * 24 + l))
/-- what is taken of an item on a day is so much that the rest is enough for what stays promised -/
theorem pick_cv (h : Inv n s) {p : Nat} (hp : p < s.np) (hs : s.st p = 111) {i d : Nat} (hi : i < 6) (hd : s.td ≤ d) {pr' sk' : Nat} (hpr : pr' + (if d ≤ s.du p then s.q p i else 0) = s.pr i d) (hsk : sk' + sm (fun l => if s.it l = i ∧ d ≤ s.ex l then lsU (lsP s p) l else 0) s.nl = s.sk i d) : pr' ≤ sk' := by
  obtain ⟨hH, _, _⟩ := lsP_ok h.1 hp
  have hdu := h.du_ p hp hs
  have eT : sm (fun l => if s.it l = i ∧ d ≤ s.ex l then lsU (lsP s p) l else 0) s.nl = sm (tkT s i (s.du p) d (s.q p i)) s.nl := by
    rw [← h.ods_ (fun l => if s.it l = i ∧ d ≤ s.ex l then lsU (lsP s p) l else 0)]
    refine sm_cong fun k hk => ?_
    have hl := h.od_ k hk
    show (if s.it (s.od k) = i ∧ d ≤ s.ex (s.od k) then lsU (lsP s p) (s.od k) else 0) = tkT s i (s.du p) d (s.q p i) k
    unfold tkT
    by_cases c : s.it (s.od k) = i ∧ d ≤ s.ex (s.od k)
    · rw [if_pos c, lsU_eq, hH.2.2.1 k hk (h.it_ _ hl), c.1]
      by_cases c2 : s.du p ≤ s.ex (s.od k)
      · rw [if_pos c2, if_pos ⟨rfl, c.2, c2⟩]
      · rw [if_neg c2, if_neg (fun z => c2 z.2.2)]
    · rw [if_neg c, if_neg (fun z => c ⟨z.1, z.2.1⟩)]
  rw [eT] at hsk
  obtain ⟨h1, _⟩ := tk_claim h.1 (i := i) (u := s.du p) (d := d) (q := s.q p i) s.nl (Nat.le_refl _)
  rw [uk_sk h.1] at h1
  have h2 := h.cv_ i d hi hd
  by_cases c : d ≤ s.du p
  · rw [if_pos c] at hpr
    omega
  · rw [if_neg c] at hpr
    have h3 := h.cv_ i (s.du p) hi hdu.1
    have h4 : s.pr i d + s.q p i ≤ s.pr i (s.du p) := by
      have := sm_drop (f := fun p2 => if s.st p2 = 111 ∧ s.du p ≤ s.du p2 then s.q p2 i else 0) (g := fun p2 => if s.st p2 = 111 ∧ d ≤ s.du p2 then s.q p2 i else 0) (j := p) (n := s.np) (fun p2 _ => by
        show (if s.st p2 = 111 ∧ d ≤ s.du p2 then s.q p2 i else 0) ≤ (if s.st p2 = 111 ∧ s.du p ≤ s.du p2 then s.q p2 i else 0)
        by_cases z : s.st p2 = 111 ∧ d ≤ s.du p2
        · rw [if_pos z, if_pos ⟨z.1, by omega⟩]
          exact Nat.le_refl _
        · rw [if_neg z]
          exact Nat.zero_le _) hp (if_neg (fun z => c z.2))
      rw [if_pos ⟨hs, Nat.le_refl _⟩] at this
      exact this
    have h5 : s.sk i (s.du p) = sm (tkV s i (s.du p) d) s.nl + s.sk i d := by
      rw [← uk_sk h.1 i (s.du p), ← uk_sk h.1 i d]
      show sm (ukf s i (s.du p)) s.nl = _ + sm (ukf s i d) s.nl
      rw [← sm_add]
      refine sm_cong fun k _ => ?_
      show (if _ then _ else _) = (if _ then _ else _) + (if _ then _ else _)
      by_cases z : s.it (s.od k) = i
      · by_cases z2 : d ≤ s.ex (s.od k)
        · rw [if_pos ⟨z, by omega⟩, if_neg (fun y => by omega), if_pos ⟨z, z2⟩, Nat.zero_add]
        · by_cases z3 : s.du p ≤ s.ex (s.od k)
          · rw [if_pos ⟨z, z3⟩, if_pos ⟨z, z3, by omega⟩, if_neg (fun y => z2 y.2), Nat.add_zero]
          · rw [if_neg (fun y => z3 y.2), if_neg (fun y => z3 y.2.1), if_neg (fun y => z2 y.2)]
      · rw [if_neg (fun y => z y.1), if_neg (fun y => z y.1), if_neg (fun y => z y.1)]
    omega
/-- the state while a promise is picked -/
noncomputable def pk1 (s : St) (p : Nat) : St := (s.set 15 (fun _ => updN s.fe p s.ne)).set 16 (fun _ => updN s.lc p (vN s p))
noncomputable def pks (s : St) (p k : Nat) : St := fo (fun k t => t.tk 112 (vL s p k) (vB s p k) (vQ s p k)) (pk1 s p) k
noncomputable def pkE (s : St) (p : Nat) : St := (pks s p (vN s p)).set 13 (fun _ => updN s.st p 112)
def pkG (n : Nat) (s : St) (p k : Nat) (t : St) : Prop := Inw n t ∧ t.ne = s.ne + k ∧ (∀ i, i ≠ 10 → i ≠ 3 → (i < 17 ∨ 22 < i) → t i = pk1 s p i) ∧ (∀ l b, (∀ j, j < k → ¬ (vL s p j = l ∧ vB s p j = b)) → t.un l b = s.un l b) ∧ (∀ j, j < k → t.un (vL s p j) (vB s p j) = s.un (vL s p j) (vB s p j) - vQ s p j) ∧ (∀ j, j < k → t.jf (s.ne + j) = vB s p j + 1 ∧ t.jl (s.ne + j) = vL s p j ∧ t.jq (s.ne + j) = vQ s p j)
theorem vw_open {p : Nat} (hs : s.st p = 111) : vN s p = cnt (lsP s p) 960 ∧ (∀ k, vB s p k = kyb (kx (lsP s p) k)) ∧ (∀ k, vL s p k = kyl (kx (lsP s p) k)) ∧ ∀ k, vQ s p k = lsP s p (kx (lsP s p) k) := ⟨if_pos hs, fun _ => if_pos hs, fun _ => if_pos hs, fun _ => if_pos hs⟩
theorem ky_kx {x : Nat} (hx : x < 960) : ky (kyb x) (kyl x) = x := by
  unfold ky kyb kyl
  rw [rt_rt (by omega)]
  omega
theorem vw_ne {p : Nat} (hs : s.st p = 111) {j k : Nat} (hj : j < vN s p) (hk : k < vN s p) (hjk : j ≠ k) : ¬ (vL s p j = vL s p k ∧ vB s p j = vB s p k) := by
  obtain ⟨e1, e2, e3, _⟩ := vw_open hs
  rw [e1] at hj hk
  rw [e2, e2, e3, e3]
  rintro ⟨z1, z2⟩
  obtain ⟨a1, a2, a3⟩ := kx_ok hj
  obtain ⟨b1, b2, b3⟩ := kx_ok hk
  have e : kx (lsP s p) j = kx (lsP s p) k := by rw [← ky_kx a1, ← ky_kx b1, z1, z2]
  rw [← a3, ← b3, e] at hjk
  exact hjk rfl
theorem vw_un (h : Inw n s) {p : Nat} (hp : p < s.np) (hs : s.st p = 111) {k : Nat} (hk : k < vN s p) : vQ s p k ≤ s.un (vL s p k) (vB s p k) := by
  obtain ⟨e1, e2, e3, e4⟩ := vw_open hs
  obtain ⟨hH, _, _⟩ := lsP_ok h hp
  have hb := (vw_ok h hp (Or.inl hs)).2 k hk
  rw [e1] at hk
  obtain ⟨a1, a2, a3⟩ := kx_ok hk
  have hl : kyl (kx (lsP s p) k) < s.nl := by rw [← e3]; exact hb.2.1
  have := hH.2.1 _ hl (h.it_ _ hl) (kx (lsP s p) k / 24) (by omega)
  rw [e2, e3, e4]
  have e5 : kx (lsP s p) k / 24 * 24 + kyl (kx (lsP s p) k) = kx (lsP s p) k := by unfold kyl; omega
  rw [e5] at this
  exact this
theorem Inw.c_fe_lc {z_fe z_lc : Nat → Nat} (h : Inw n s) (i_pk : ∀ p, p < s.np → s.st p = 112 → z_lc p ≤ 60 ∧ z_fe p + z_lc p ≤ s.ne ∧ (∀ k, k < z_lc p → 0 < s.jf (z_fe p + k)) ∧ ∀ k, k + 1 < z_lc p → lx (s.jf (z_fe p + k) - 1) (s.jl (z_fe p + k)) (s.jf (z_fe p + (k + 1)) - 1) (s.jl (z_fe p + (k + 1)))) : Inw n ((s.set 15 (fun _ => z_fe)).set 16 (fun _ => z_lc)) := ⟨h.n_, h.ni_, h.nl_, h.np_, h.ne_, h.td_, h.ct_, h.rk_, h.rk0_, h.it_, h.ex_, h.od_, h.ods_, h.odl_, h.un_, h.bl_, h.cn_, h.du_, h.q_, h.st_, h.jl_, h.jf_, h.jt_, h.jq_, h.jd_, h.kd_, h.js_, i_pk⟩
theorem pkG_0 (h : Inw n s) {p : Nat} (hs : s.st p = 111) : pkG n s p 0 (pk1 s p) := by
  refine ⟨h.c_fe_lc (fun p2 hp2 hs2 => ?_), rfl, fun _ _ _ _ => rfl, fun _ _ _ => rfl, fun j hj => absurd hj (Nat.not_lt_zero _), fun j hj => absurd hj (Nat.not_lt_zero _)⟩
  have e : p2 ≠ p := fun e => by subst e; omega
  rw [updN_ne e, updN_ne e]
  exact h.pk_ p2 hp2 hs2
theorem pkG_s (h : Inw n s) {p : Nat} (hp : p < s.np) (hs : s.st p = 111) (hsp : s.ne + vN s p ≤ 150) {k : Nat} {t : St} (hk : k < vN s p) (g : pkG n s p k t) : pkG n s p (k + 1) (t.tk 112 (vL s p k) (vB s p k) (vQ s p k)) := by
  obtain ⟨g1, g2, g3, g4, g5, g6⟩ := g
  obtain ⟨hB, hL, hQ⟩ := (vw_ok h hp (Or.inl hs)).2 k hk
  have enl : t.nl = s.nl := by
    show t 1 0 0 = s 1 0 0
    rw [g3 1 (by decide) (by decide) (by decide)]
    rfl
  have eun : t.un (vL s p k) (vB s p k) = s.un (vL s p k) (vB s p k) := g4 _ _ (fun j hj => vw_ne hs (by omega) hk (by omega))
  have hq := vw_un h hp hs hk
  refine ⟨g1.tk (by omega) (by decide) (by rw [enl]; exact hL) hB (by rw [eun]; exact hq), ?_, fun i h1 h2 h3 => ?_, fun l b hlb => ?_, fun j hj => ?_, fun j hj => ?_⟩
  · show t.ne + 1 = _
    rw [g2]
    omega
  · rw [← g3 i h1 h2 h3]
    unfold St.tk St.jn
    rw [set_ne (by omega), set_ne (by omega), set_ne (by omega), set_ne (by omega), set_ne (by omega), set_ne (by omega), set_ne h2, set_ne h1]
  · show upd2 t.un (vL s p k) (vB s p k) _ l b = _
    unfold upd2
    rw [if_neg (fun z => hlb k (by omega) ⟨z.1.symm, z.2.symm⟩)]
    exact g4 l b (fun j hj => hlb j (by omega))
  · show upd2 t.un (vL s p k) (vB s p k) _ _ _ = _
    unfold upd2
    by_cases e : j = k
    · subst e
      rw [if_pos ⟨rfl, rfl⟩, eun]
    · rw [if_neg (vw_ne hs (by omega) hk e)]
      exact g5 j (by omega)
  · show updN t.jf t.ne _ _ = _ ∧ updN t.jl t.ne _ _ = _ ∧ updN t.jq t.ne _ _ = _
    rw [g2]
    by_cases e : j = k
    · subst e
      rw [updN_at, updN_at, updN_at]
      exact ⟨rfl, rfl, rfl⟩
    · rw [updN_ne (by omega), updN_ne (by omega), updN_ne (by omega)]
      exact g6 j (by omega)
theorem pkG_all (h : Inw n s) {p : Nat} (hp : p < s.np) (hs : s.st p = 111) (hsp : s.ne + vN s p ≤ 150) : ∀ k, k ≤ vN s p → pkG n s p k (pks s p k) := by
  intro k
  induction k with
  | zero => intro _; exact pkG_0 h hs
  | succ k ih => intro hk; exact pkG_s h hp hs hsp (by omega) (ih (by omega))
theorem pkE_I (h : Inv n s) {p : Nat} (hp : p < s.np) (hs : s.st p = 111) (hsp : s.ne + vN s p ≤ 150) : Inv n (pkE s p) := by
  obtain ⟨g1, g2, g3, g4, g5, g6⟩ := pkG_all h.1 hp hs hsp _ (Nat.le_refl _)
  unfold pkE
  generalize pks s p (vN s p) = t at g1 g2 g3 g4 g5 g6
  have f3 := fun i h1 h2 h3 => g3 i h1 h2 h3
  obtain ⟨hN, hV⟩ := vw_ok h.1 hp (Or.inl hs)
  obtain ⟨o1, o2, o3, o4⟩ := vw_open hs
  have e1 : t.nl = s.nl := by show t 1 0 0 = _; rw [g3 1 (by decide) (by decide) (by decide)]; rfl
  have e2 : t.np = s.np := by show t 2 0 0 = _; rw [g3 2 (by decide) (by decide) (by decide)]; rfl
  have e4 : t.td = s.td := by show t 4 0 0 = _; rw [g3 4 (by decide) (by decide) (by decide)]; rfl
  have e7 : t.it = s.it := by funext j; show t 7 0 j = _; rw [g3 7 (by decide) (by decide) (by decide)]; rfl
  have e8 : t.ex = s.ex := by funext j; show t 8 0 j = _; rw [g3 8 (by decide) (by decide) (by decide)]; rfl
  have e12 : t.du = s.du := by funext j; show t 12 0 j = _; rw [g3 12 (by decide) (by decide) (by decide)]; rfl
  have e13 : t.st = s.st := by funext j; show t 13 0 j = _; rw [g3 13 (by decide) (by decide) (by decide)]; rfl
  have e14 : t.q = s.q := by funext i j; show t 14 i j = _; rw [g3 14 (by decide) (by decide) (by decide)]; rfl
  have e15 : t.fe = updN s.fe p s.ne := by funext j; show t 15 0 j = _; rw [g3 15 (by decide) (by decide) (by decide)]; rfl
  have e16 : t.lc = updN s.lc p (vN s p) := by funext j; show t 16 0 j = _; rw [g3 16 (by decide) (by decide) (by decide)]; rfl
  refine ⟨g1.c_st (fun p2 hp2 hs2 => ?_) (fun p2 => ?_) (fun p2 hp2 hs2 => ?_), fun i d hi hd => ?_⟩
  · have e : p2 ≠ p := fun e => by subst e; rw [updN_at] at hs2; omega
    rw [updN_ne e] at hs2
    rw [e2] at hp2
    rw [e4, e12]
    exact h.du_ p2 hp2 hs2
  · by_cases e : p2 = p
    · subst e; rw [updN_at]; omega
    · rw [updN_ne e]; exact h.st_ p2
  · by_cases e : p2 = p
    · subst e
      rw [e15, e16, updN_at, updN_at, g2]
      refine ⟨hN, Nat.le_refl _, fun k hk => ?_, fun k hk => ?_⟩
      · rw [(g6 k hk).1]
        omega
      · rw [(g6 k (by omega)).1, (g6 k (by omega)).2.1, (g6 (k + 1) hk).1, (g6 (k + 1) hk).2.1, Nat.add_sub_cancel, Nat.add_sub_cancel, o2, o2, o3, o3]
        rw [o1] at hk
        have hlt : kx (lsP s p2) k < kx (lsP s p2) (k + 1) := kx_lt (Nat.lt_succ_self k) hk
        obtain ⟨a1, a2, a3⟩ := kx_ok hk
        have r1 : rt (kyb (kx (lsP s p2) k)) = kx (lsP s p2) k / 24 := rt_rt (by omega)
        have r2 : rt (kyb (kx (lsP s p2) (k + 1))) = kx (lsP s p2) (k + 1) / 24 := rt_rt (by omega)
        unfold lx
        rw [r1, r2]
        by_cases z : kx (lsP s p2) k / 24 < kx (lsP s p2) (k + 1) / 24
        · exact Or.inl z
        · right
          have : kx (lsP s p2) k / 24 = kx (lsP s p2) (k + 1) / 24 := by omega
          refine ⟨by unfold kyb; rw [this], ?_⟩
          unfold kyl
          omega
    · rw [updN_ne e] at hs2
      have hk := g1.pk_ p2 hp2 (by rw [e13]; exact hs2)
      exact hk
  · have hd : s.td ≤ d := by
      have : t.td ≤ d := hd
      omega
    have eun : ∀ l b, l < s.nl → b < 40 → t.un l b + lsP s p (ky b l) = s.un l b := by
      intro l b hl hb
      have hl24 : l < 24 := by have := h.nl_; omega
      by_cases z : lsP s p (ky b l) = 0
      · rw [z, Nat.add_zero]
        refine g4 l b (fun j hj q => ?_)
        rw [o2, o3] at q
        rw [o1] at hj
        obtain ⟨a1, a2, a3⟩ := kx_ok hj
        rw [← ky_kx a1, q.1, q.2] at a2
        exact a2 z
      · have hx := ky_lt hb hl24
        have hj := cnt_lt (f := lsP s p) hx z
        obtain ⟨a1, a2, a3⟩ := kx_ok hj
        have ee := cnt_inj a2 z a3
        have hb1 := g5 _ (by rw [o1]; exact hj)
        have hu := vw_un h.1 hp hs (k := cnt (lsP s p) (ky b l)) (by rw [o1]; exact hj)
        rw [o2, o3, o4, ee, kyb_ky hb hl24, kyl_ky hl24] at hb1 hu
        omega
    refine pick_cv h hp hs hi hd ?_ ?_
    · show sm (fun p2 => if updN s.st p 112 p2 = 111 ∧ d ≤ t.du p2 then t.q p2 i else 0) t.np + _ = s.pr i d
      rw [e12, e14, e2]
      have := sm_one (f := fun p2 => if s.st p2 = 111 ∧ d ≤ s.du p2 then s.q p2 i else 0) (g := fun p2 => if updN s.st p 112 p2 = 111 ∧ d ≤ s.du p2 then s.q p2 i else 0) (j := p) (n := s.np) hp (fun p2 hp2 => by
        show (if updN s.st p 112 p2 = 111 ∧ d ≤ s.du p2 then s.q p2 i else 0) = _
        rw [updN_ne hp2])
      rw [updN_at, if_neg (show ¬ ((112 : Nat) = 111 ∧ d ≤ s.du p) by omega)] at this
      have e : (if s.st p = 111 ∧ d ≤ s.du p then s.q p i else 0) = (if d ≤ s.du p then s.q p i else 0) := by
        by_cases z : d ≤ s.du p
        · rw [if_pos ⟨hs, z⟩, if_pos z]
        · rw [if_neg (fun y => z y.2), if_neg z]
      rw [← e]
      exact this
    · show sm (fun l => if t.it l = i ∧ d ≤ t.ex l then t.lu l else 0) t.nl + _ = s.sk i d
      rw [e7, e8, e1, ← sm_add]
      refine sm_cong fun l hl => ?_
      show (if s.it l = i ∧ d ≤ s.ex l then t.lu l else 0) + (if s.it l = i ∧ d ≤ s.ex l then lsU (lsP s p) l else 0) = _
      by_cases z : s.it l = i ∧ d ≤ s.ex l
      · rw [if_pos z, if_pos z, if_pos z]
        show sm (t.un l) 40 + sm (fun b => lsP s p (ky b l)) 40 = sm (s.un l) 40
        rw [← sm_add]
        exact sm_cong fun b hb => eun l b hl hb
      · rw [if_neg z, if_neg z, if_neg z]
end PT
