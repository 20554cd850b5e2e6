/-! sums; the state that both the class and the model hold -/
def sm (f : Nat → Nat) : Nat → Nat
  | 0 => 0
  | n + 1 => sm f n + f n
theorem sm_cong {f g : Nat → Nat} : ∀ {n : Nat}, (∀ i, i < n → f i = g i) → sm f n = sm g n
  | 0, _ => rfl
  | n + 1, h => by
    show sm f n + f n = sm g n + g n
    rw [sm_cong (fun i hi => h i (by omega)), h n (by omega)]
theorem sm_mono {f g : Nat → Nat} : ∀ {n : Nat}, (∀ i, i < n → f i ≤ g i) → sm f n ≤ sm g n
  | 0, _ => Nat.le_refl _
  | n + 1, h => by
    show sm f n + f n ≤ sm g n + g n
    have := sm_mono (n := n) (fun i hi => h i (by omega))
    have := h n (by omega)
    omega
theorem sm_0 {f : Nat → Nat} : ∀ {n : Nat}, (∀ i, i < n → f i = 0) → sm f n = 0
  | 0, _ => rfl
  | n + 1, h => by
    show sm f n + f n = 0
    rw [sm_0 (fun i hi => h i (by omega)), h n (by omega)]
theorem sm_add {f g : Nat → Nat} : ∀ {n : Nat}, sm (fun i => f i + g i) n = sm f n + sm g n
  | 0 => rfl
  | n + 1 => by
    show sm (fun i => f i + g i) n + (f n + g n) = sm f n + f n + (sm g n + g n)
    rw [sm_add]
    omega
theorem sm_le_mul {f : Nat → Nat} {c : Nat} : ∀ {n : Nat}, (∀ i, i < n → f i ≤ c) → sm f n ≤ n * c
  | 0, _ => by rw [Nat.zero_mul]; exact Nat.le_refl _
  | n + 1, h => by
    show sm f n + f n ≤ (n + 1) * c
    have := sm_le_mul (n := n) (fun i hi => h i (by omega))
    have := h n (by omega)
    rw [Nat.succ_mul]
    omega
theorem sm_at {f : Nat → Nat} {j : Nat} : ∀ {n : Nat}, j < n → f j ≤ sm f n
  | 0, h => absurd h (Nat.not_lt_zero _)
  | n + 1, h => by
    show f j ≤ sm f n + f n
    by_cases e : j = n
    · subst e; omega
    · have := sm_at (f := f) (j := j) (n := n) (by omega)
      omega
theorem sm_pos {f : Nat → Nat} : ∀ {n : Nat}, 0 < sm f n → ∃ i, i < n ∧ 0 < f i
  | 0, h => absurd h (Nat.not_lt_zero _)
  | n + 1, h => by
    by_cases e : 0 < f n
    · exact ⟨n, by omega, e⟩
    · obtain ⟨i, hi, hp⟩ := sm_pos (f := f) (n := n) (by
        have h : 0 < sm f n + f n := h
        omega)
      exact ⟨i, by omega, hp⟩
/-- one summand changes -/
theorem sm_one {f g : Nat → Nat} {j : Nat} : ∀ {n : Nat}, j < n → (∀ i, i ≠ j → g i = f i) → sm g n + f j = sm f n + g j
  | 0, h, _ => absurd h (Nat.not_lt_zero _)
  | n + 1, h, he => by
    show sm g n + g n + f j = sm f n + f n + g j
    by_cases e : j = n
    · subst e
      rw [sm_cong (f := g) (g := f) (fun i hi => he i (by omega))]
      omega
    · have := sm_one (f := f) (g := g) (j := j) (n := n) (by omega) he
      have := he n (by omega)
      omega
theorem sm_ne {f g : Nat → Nat} {j n : Nat} (h : n ≤ j) (he : ∀ i, i ≠ j → g i = f i) : sm g n = sm f n := sm_cong fun i hi => he i (by omega)
theorem fo_nI {c : Nat → Prop} [DecidablePred c] {y : Nat → Nat} {a0 : Nat} : ∀ {n : Nat}, fo (fun i a => if c i then a + nI (y i) else a) (nI a0) n = nI (a0 + sm (fun i => if c i then y i else 0) n)
  | 0 => by rfl
  | n + 1 => by
    show (if c n then fo (fun i a => if c i then a + nI (y i) else a) (nI a0) n + nI (y n) else fo (fun i a => if c i then a + nI (y i) else a) (nI a0) n) = nI (a0 + (sm (fun i => if c i then y i else 0) n + if c n then y n else 0))
    rw [fo_nI]
    by_cases h : c n
    · rw [if_pos h, if_pos h, nI_add, Nat.add_assoc]
    · rw [if_neg h, if_neg h, Nat.add_zero]
def St : Type := Nat → Nat → Nat → Nat
def St.ni (s : St) : Nat := s 0 0 0
def St.nl (s : St) : Nat := s 1 0 0
def St.np (s : St) : Nat := s 2 0 0
def St.ne (s : St) : Nat := s 3 0 0
def St.td (s : St) : Nat := s 4 0 0
def St.ct (s : St) (j : Nat) : Nat := s 5 0 j
def St.it (s : St) (j : Nat) : Nat := s 7 0 j
def St.ex (s : St) (j : Nat) : Nat := s 8 0 j
def St.od (s : St) (j : Nat) : Nat := s 9 0 j
def St.cn (s : St) (j : Nat) : Nat := s 11 0 j
def St.du (s : St) (j : Nat) : Nat := s 12 0 j
def St.st (s : St) (j : Nat) : Nat := s 13 0 j
def St.fe (s : St) (j : Nat) : Nat := s 15 0 j
def St.lc (s : St) (j : Nat) : Nat := s 16 0 j
def St.kd (s : St) (j : Nat) : Nat := s 17 0 j
def St.jl (s : St) (j : Nat) : Nat := s 18 0 j
def St.jf (s : St) (j : Nat) : Nat := s 19 0 j
def St.jt (s : St) (j : Nat) : Nat := s 20 0 j
def St.jq (s : St) (j : Nat) : Nat := s 21 0 j
def St.jd (s : St) (j : Nat) : Nat := s 22 0 j
def St.rk (s : St) (i j : Nat) : Nat := s 6 i j
def St.un (s : St) (i j : Nat) : Nat := s 10 i j
def St.q (s : St) (i j : Nat) : Nat := s 14 i j
def St.set (s : St) (k : Nat) (g : Nat → Nat → Nat) : St := fun i => if i = k then g else s i
def St.lu (s : St) (l : Nat) : Nat := sm (s.un l) 40
def St.bl (s : St) (b : Nat) : Nat := sm (fun l => s.un l b) 24
def RepC (v : mmM) (s : St) : Prop := (v 1 0 = nI s.ni) ∧ (v 2 0 = nI s.nl) ∧ (v 3 0 = nI s.np) ∧ (v 4 0 = nI s.ne) ∧ (v 0 7 = nI s.td) ∧ (v 8 = fun j => nI (s.ct j)) ∧ (∀ i, i < 6 → v (10 + i) = fun j => nI (s.rk i j)) ∧ (v 16 = fun l => nI (s.it l)) ∧ (v 17 = fun l => nI (s.ex l)) ∧ (v 18 = fun l => nI (s.od l)) ∧ (∀ l, l < 24 → v (20 + l) = fun b => nI (s.un l b)) ∧ (v 44 = fun l => nI (s.lu l)) ∧ (v 45 = fun b => nI (s.bl b)) ∧ (v 46 = fun b => nI (s.cn b)) ∧ (v 47 = fun p => nI (s.du p)) ∧ (v 48 = fun p => nI (s.st p)) ∧ (∀ p, p < 20 → ∀ i, i < 6 → v (50 + p) i = nI (s.q p i)) ∧ (v 70 = fun p => nI (s.fe p)) ∧ (v 71 = fun p => nI (s.lc p)) ∧ (v 72 = fun e => nI (s.kd e)) ∧ (v 73 = fun e => nI (s.jl e)) ∧ (v 74 = fun e => nI (s.jf e) - 1) ∧ (v 75 = fun e => nI (s.jt e) - 1) ∧ (v 76 = fun e => nI (s.jq e)) ∧ (v 77 = fun e => nI (s.jd e))
theorem RepC.ni {v : mmM} {s : St} (h : RepC v s) : v 1 0 = nI s.ni := h.1
theorem RepC.nl {v : mmM} {s : St} (h : RepC v s) : v 2 0 = nI s.nl := h.2.1
theorem RepC.np {v : mmM} {s : St} (h : RepC v s) : v 3 0 = nI s.np := h.2.2.1
theorem RepC.ne {v : mmM} {s : St} (h : RepC v s) : v 4 0 = nI s.ne := h.2.2.2.1
theorem RepC.td {v : mmM} {s : St} (h : RepC v s) : v 0 7 = nI s.td := h.2.2.2.2.1
theorem RepC.ct {v : mmM} {s : St} (h : RepC v s) : v 8 = fun j => nI (s.ct j) := h.2.2.2.2.2.1
theorem RepC.rk {v : mmM} {s : St} (h : RepC v s) : ∀ i, i < 6 → v (10 + i) = fun j => nI (s.rk i j) := h.2.2.2.2.2.2.1
theorem RepC.it {v : mmM} {s : St} (h : RepC v s) : v 16 = fun l => nI (s.it l) := h.2.2.2.2.2.2.2.1
theorem RepC.ex {v : mmM} {s : St} (h : RepC v s) : v 17 = fun l => nI (s.ex l) := h.2.2.2.2.2.2.2.2.1
theorem RepC.od {v : mmM} {s : St} (h : RepC v s) : v 18 = fun l => nI (s.od l) := h.2.2.2.2.2.2.2.2.2.1
theorem RepC.un {v : mmM} {s : St} (h : RepC v s) : ∀ l, l < 24 → v (20 + l) = fun b => nI (s.un l b) := h.2.2.2.2.2.2.2.2.2.2.1
theorem RepC.lu {v : mmM} {s : St} (h : RepC v s) : v 44 = fun l => nI (s.lu l) := h.2.2.2.2.2.2.2.2.2.2.2.1
theorem RepC.bl {v : mmM} {s : St} (h : RepC v s) : v 45 = fun b => nI (s.bl b) := h.2.2.2.2.2.2.2.2.2.2.2.2.1
theorem RepC.cn {v : mmM} {s : St} (h : RepC v s) : v 46 = fun b => nI (s.cn b) := h.2.2.2.2.2.2.2.2.2.2.2.2.2.1
theorem RepC.du {v : mmM} {s : St} (h : RepC v s) : v 47 = fun p => nI (s.du p) := h.2.2.2.2.2.2.2.2.2.2.2.2.2.2.1
theorem RepC.st {v : mmM} {s : St} (h : RepC v s) : v 48 = fun p => nI (s.st p) := h.2.2.2.2.2.2.2.2.2.2.2.2.2.2.2.1
theorem RepC.q {v : mmM} {s : St} (h : RepC v s) : ∀ p, p < 20 → ∀ i, i < 6 → v (50 + p) i = nI (s.q p i) := h.2.2.2.2.2.2.2.2.2.2.2.2.2.2.2.2.1
theorem RepC.fe {v : mmM} {s : St} (h : RepC v s) : v 70 = fun p => nI (s.fe p) := h.2.2.2.2.2.2.2.2.2.2.2.2.2.2.2.2.2.1
theorem RepC.lc {v : mmM} {s : St} (h : RepC v s) : v 71 = fun p => nI (s.lc p) := h.2.2.2.2.2.2.2.2.2.2.2.2.2.2.2.2.2.2.1
theorem RepC.kd {v : mmM} {s : St} (h : RepC v s) : v 72 = fun e => nI (s.kd e) := h.2.2.2.2.2.2.2.2.2.2.2.2.2.2.2.2.2.2.2.1
theorem RepC.jl {v : mmM} {s : St} (h : RepC v s) : v 73 = fun e => nI (s.jl e) := h.2.2.2.2.2.2.2.2.2.2.2.2.2.2.2.2.2.2.2.2.1
theorem RepC.jf {v : mmM} {s : St} (h : RepC v s) : v 74 = fun e => nI (s.jf e) - 1 := h.2.2.2.2.2.2.2.2.2.2.2.2.2.2.2.2.2.2.2.2.2.1
theorem RepC.jt {v : mmM} {s : St} (h : RepC v s) : v 75 = fun e => nI (s.jt e) - 1 := h.2.2.2.2.2.2.2.2.2.2.2.2.2.2.2.2.2.2.2.2.2.2.1
theorem RepC.jq {v : mmM} {s : St} (h : RepC v s) : v 76 = fun e => nI (s.jq e) := h.2.2.2.2.2.2.2.2.2.2.2.2.2.2.2.2.2.2.2.2.2.2.2.1
theorem RepC.jd {v : mmM} {s : St} (h : RepC v s) : v 77 = fun e => nI (s.jd e) := h.2.2.2.2.2.2.2.2.2.2.2.2.2.2.2.2.2.2.2.2.2.2.2.2
/-- what a call of the class, or of the model, leaves as it was -/
def fC (v v' : mmM) : Prop := ∀ i, 81 ≤ i → v' i = v i
theorem fC.rfl {v : mmM} : fC v v := fun _ _ => Eq.refl _
theorem fC.tr {v w x : mmM} (h : fC v w) (h2 : fC w x) : fC v x := fun i hi => (h2 i hi).trans (h i hi)
theorem RepC.keep {v v' : mmM} {s : St} (h : RepC v s) (hk : ∀ i, i < 81 ∧ i ≠ 5 ∧ i ≠ 6 ∧ i ≠ 7 ∧ i ≠ 78 ∧ i ≠ 79 ∧ i ≠ 80 → v' i = v i) : RepC v' s := by
  refine ⟨(by rw [hk 1 (by decide)]; exact h.ni), (by rw [hk 2 (by decide)]; exact h.nl), (by rw [hk 3 (by decide)]; exact h.np), (by rw [hk 4 (by decide)]; exact h.ne), (by rw [hk 0 (by decide)]; exact h.td), (by rw [hk 8 (by decide)]; exact h.ct), (fun i hi => by rw [hk (10 + i) (by omega)]; exact h.rk i hi), (by rw [hk 16 (by decide)]; exact h.it), (by rw [hk 17 (by decide)]; exact h.ex), (by rw [hk 18 (by decide)]; exact h.od), (fun i hi => by rw [hk (20 + i) (by omega)]; exact h.un i hi), (by rw [hk 44 (by decide)]; exact h.lu), (by rw [hk 45 (by decide)]; exact h.bl), (by rw [hk 46 (by decide)]; exact h.cn), (by rw [hk 47 (by decide)]; exact h.du), (by rw [hk 48 (by decide)]; exact h.st), (fun p hp i hi => by rw [hk (50 + p) (by omega)]; exact h.q p hp i hi), (by rw [hk 70 (by decide)]; exact h.fe), (by rw [hk 71 (by decide)]; exact h.lc), (by rw [hk 72 (by decide)]; exact h.kd), (by rw [hk 73 (by decide)]; exact h.jl), (by rw [hk 74 (by decide)]; exact h.jf), (by rw [hk 75 (by decide)]; exact h.jt), (by rw [hk 76 (by decide)]; exact h.jq), (by rw [hk 77 (by decide)]; exact h.jd)⟩
theorem RepC.c_ni_ct {v v' : mmM} {s : St} {z_ni : Nat} {z_ct : Nat → Nat} (h : RepC v s) (hk : ∀ i, i < 81 ∧ i ≠ 5 ∧ i ≠ 6 ∧ i ≠ 7 ∧ i ≠ 78 ∧ i ≠ 79 ∧ i ≠ 80 ∧ i ≠ 1 ∧ i ≠ 8 → v' i = v i) (e_ni : v' 1 0 = nI z_ni) (e_ct : v' 8 = fun j => nI (z_ct j)) : RepC v' ((s.set 0 (fun _ _ => z_ni)).set 5 (fun _ => z_ct)) := by
  exact ⟨e_ni, (by rw [hk 2 (by decide)]; exact h.nl), (by rw [hk 3 (by decide)]; exact h.np), (by rw [hk 4 (by decide)]; exact h.ne), (by rw [hk 0 (by decide)]; exact h.td), e_ct, (fun i hi => by rw [hk (10 + i) (by omega)]; exact h.rk i hi), (by rw [hk 16 (by decide)]; exact h.it), (by rw [hk 17 (by decide)]; exact h.ex), (by rw [hk 18 (by decide)]; exact h.od), (fun i hi => by rw [hk (20 + i) (by omega)]; exact h.un i hi), (by rw [hk 44 (by decide)]; exact h.lu), (by rw [hk 45 (by decide)]; exact h.bl), (by rw [hk 46 (by decide)]; exact h.cn), (by rw [hk 47 (by decide)]; exact h.du), (by rw [hk 48 (by decide)]; exact h.st), (fun p hp i hi => by rw [hk (50 + p) (by omega)]; exact h.q p hp i hi), (by rw [hk 70 (by decide)]; exact h.fe), (by rw [hk 71 (by decide)]; exact h.lc), (by rw [hk 72 (by decide)]; exact h.kd), (by rw [hk 73 (by decide)]; exact h.jl), (by rw [hk 74 (by decide)]; exact h.jf), (by rw [hk 75 (by decide)]; exact h.jt), (by rw [hk 76 (by decide)]; exact h.jq), (by rw [hk 77 (by decide)]; exact h.jd)⟩
theorem RepC.c_rk {v v' : mmM} {s : St} {z_rk : Nat → Nat → Nat} (h : RepC v s) (hk : ∀ i, i < 81 ∧ i ≠ 5 ∧ i ≠ 6 ∧ i ≠ 7 ∧ i ≠ 78 ∧ i ≠ 79 ∧ i ≠ 80 ∧ (i < 10 ∨ 16 ≤ i) → v' i = v i) (e_rk : ∀ i, i < 6 → v' (10 + i) = fun j => nI (z_rk i j)) : RepC v' (s.set 6 z_rk) := by
  exact ⟨(by rw [hk 1 (by decide)]; exact h.ni), (by rw [hk 2 (by decide)]; exact h.nl), (by rw [hk 3 (by decide)]; exact h.np), (by rw [hk 4 (by decide)]; exact h.ne), (by rw [hk 0 (by decide)]; exact h.td), (by rw [hk 8 (by decide)]; exact h.ct), e_rk, (by rw [hk 16 (by decide)]; exact h.it), (by rw [hk 17 (by decide)]; exact h.ex), (by rw [hk 18 (by decide)]; exact h.od), (fun i hi => by rw [hk (20 + i) (by omega)]; exact h.un i hi), (by rw [hk 44 (by decide)]; exact h.lu), (by rw [hk 45 (by decide)]; exact h.bl), (by rw [hk 46 (by decide)]; exact h.cn), (by rw [hk 47 (by decide)]; exact h.du), (by rw [hk 48 (by decide)]; exact h.st), (fun p hp i hi => by rw [hk (50 + p) (by omega)]; exact h.q p hp i hi), (by rw [hk 70 (by decide)]; exact h.fe), (by rw [hk 71 (by decide)]; exact h.lc), (by rw [hk 72 (by decide)]; exact h.kd), (by rw [hk 73 (by decide)]; exact h.jl), (by rw [hk 74 (by decide)]; exact h.jf), (by rw [hk 75 (by decide)]; exact h.jt), (by rw [hk 76 (by decide)]; exact h.jq), (by rw [hk 77 (by decide)]; exact h.jd)⟩
theorem RepC.c_nl_it_ex_od {v v' : mmM} {s : St} {z_nl : Nat} {z_it : Nat → Nat} {z_ex : Nat → Nat} {z_od : Nat → Nat} (h : RepC v s) (hk : ∀ i, i < 81 ∧ i ≠ 5 ∧ i ≠ 6 ∧ i ≠ 7 ∧ i ≠ 78 ∧ i ≠ 79 ∧ i ≠ 80 ∧ i ≠ 2 ∧ i ≠ 16 ∧ i ≠ 17 ∧ i ≠ 18 → v' i = v i) (e_nl : v' 2 0 = nI z_nl) (e_it : v' 16 = fun l => nI (z_it l)) (e_ex : v' 17 = fun l => nI (z_ex l)) (e_od : v' 18 = fun l => nI (z_od l)) : RepC v' ((((s.set 1 (fun _ _ => z_nl)).set 7 (fun _ => z_it)).set 8 (fun _ => z_ex)).set 9 (fun _ => z_od)) := by
  exact ⟨(by rw [hk 1 (by decide)]; exact h.ni), e_nl, (by rw [hk 3 (by decide)]; exact h.np), (by rw [hk 4 (by decide)]; exact h.ne), (by rw [hk 0 (by decide)]; exact h.td), (by rw [hk 8 (by decide)]; exact h.ct), (fun i hi => by rw [hk (10 + i) (by omega)]; exact h.rk i hi), e_it, e_ex, e_od, (fun i hi => by rw [hk (20 + i) (by omega)]; exact h.un i hi), (by rw [hk 44 (by decide)]; exact h.lu), (by rw [hk 45 (by decide)]; exact h.bl), (by rw [hk 46 (by decide)]; exact h.cn), (by rw [hk 47 (by decide)]; exact h.du), (by rw [hk 48 (by decide)]; exact h.st), (fun p hp i hi => by rw [hk (50 + p) (by omega)]; exact h.q p hp i hi), (by rw [hk 70 (by decide)]; exact h.fe), (by rw [hk 71 (by decide)]; exact h.lc), (by rw [hk 72 (by decide)]; exact h.kd), (by rw [hk 73 (by decide)]; exact h.jl), (by rw [hk 74 (by decide)]; exact h.jf), (by rw [hk 75 (by decide)]; exact h.jt), (by rw [hk 76 (by decide)]; exact h.jq), (by rw [hk 77 (by decide)]; exact h.jd)⟩
theorem RepC.c_un {v v' : mmM} {s : St} {z_un : Nat → Nat → Nat} (h : RepC v s) (hk : ∀ i, i < 81 ∧ i ≠ 5 ∧ i ≠ 6 ∧ i ≠ 7 ∧ i ≠ 78 ∧ i ≠ 79 ∧ i ≠ 80 ∧ (i < 20 ∨ 44 ≤ i) ∧ i ≠ 44 ∧ i ≠ 45 → v' i = v i) (e_un : ∀ l, l < 24 → v' (20 + l) = fun b => nI (z_un l b)) (e_lu : v' 44 = fun l => nI (St.lu (s.set 10 z_un) l)) (e_bl : v' 45 = fun b => nI (St.bl (s.set 10 z_un) b)) : RepC v' (s.set 10 z_un) := by
  exact ⟨(by rw [hk 1 (by decide)]; exact h.ni), (by rw [hk 2 (by decide)]; exact h.nl), (by rw [hk 3 (by decide)]; exact h.np), (by rw [hk 4 (by decide)]; exact h.ne), (by rw [hk 0 (by decide)]; exact h.td), (by rw [hk 8 (by decide)]; exact h.ct), (fun i hi => by rw [hk (10 + i) (by omega)]; exact h.rk i hi), (by rw [hk 16 (by decide)]; exact h.it), (by rw [hk 17 (by decide)]; exact h.ex), (by rw [hk 18 (by decide)]; exact h.od), e_un, e_lu, e_bl, (by rw [hk 46 (by decide)]; exact h.cn), (by rw [hk 47 (by decide)]; exact h.du), (by rw [hk 48 (by decide)]; exact h.st), (fun p hp i hi => by rw [hk (50 + p) (by omega)]; exact h.q p hp i hi), (by rw [hk 70 (by decide)]; exact h.fe), (by rw [hk 71 (by decide)]; exact h.lc), (by rw [hk 72 (by decide)]; exact h.kd), (by rw [hk 73 (by decide)]; exact h.jl), (by rw [hk 74 (by decide)]; exact h.jf), (by rw [hk 75 (by decide)]; exact h.jt), (by rw [hk 76 (by decide)]; exact h.jq), (by rw [hk 77 (by decide)]; exact h.jd)⟩
theorem RepC.c_ne_kd_jl_jf_jt_jq_jd {v v' : mmM} {s : St} {z_ne : Nat} {z_kd : Nat → Nat} {z_jl : Nat → Nat} {z_jf : Nat → Nat} {z_jt : Nat → Nat} {z_jq : Nat → Nat} {z_jd : Nat → Nat} (h : RepC v s) (hk : ∀ i, i < 81 ∧ i ≠ 5 ∧ i ≠ 6 ∧ i ≠ 7 ∧ i ≠ 78 ∧ i ≠ 79 ∧ i ≠ 80 ∧ i ≠ 4 ∧ i ≠ 72 ∧ i ≠ 73 ∧ i ≠ 74 ∧ i ≠ 75 ∧ i ≠ 76 ∧ i ≠ 77 → v' i = v i) (e_ne : v' 4 0 = nI z_ne) (e_kd : v' 72 = fun e => nI (z_kd e)) (e_jl : v' 73 = fun e => nI (z_jl e)) (e_jf : v' 74 = fun e => nI (z_jf e) - 1) (e_jt : v' 75 = fun e => nI (z_jt e) - 1) (e_jq : v' 76 = fun e => nI (z_jq e)) (e_jd : v' 77 = fun e => nI (z_jd e)) : RepC v' (((((((s.set 3 (fun _ _ => z_ne)).set 17 (fun _ => z_kd)).set 18 (fun _ => z_jl)).set 19 (fun _ => z_jf)).set 20 (fun _ => z_jt)).set 21 (fun _ => z_jq)).set 22 (fun _ => z_jd)) := by
  exact ⟨(by rw [hk 1 (by decide)]; exact h.ni), (by rw [hk 2 (by decide)]; exact h.nl), (by rw [hk 3 (by decide)]; exact h.np), e_ne, (by rw [hk 0 (by decide)]; exact h.td), (by rw [hk 8 (by decide)]; exact h.ct), (fun i hi => by rw [hk (10 + i) (by omega)]; exact h.rk i hi), (by rw [hk 16 (by decide)]; exact h.it), (by rw [hk 17 (by decide)]; exact h.ex), (by rw [hk 18 (by decide)]; exact h.od), (fun i hi => by rw [hk (20 + i) (by omega)]; exact h.un i hi), (by rw [hk 44 (by decide)]; exact h.lu), (by rw [hk 45 (by decide)]; exact h.bl), (by rw [hk 46 (by decide)]; exact h.cn), (by rw [hk 47 (by decide)]; exact h.du), (by rw [hk 48 (by decide)]; exact h.st), (fun p hp i hi => by rw [hk (50 + p) (by omega)]; exact h.q p hp i hi), (by rw [hk 70 (by decide)]; exact h.fe), (by rw [hk 71 (by decide)]; exact h.lc), e_kd, e_jl, e_jf, e_jt, e_jq, e_jd⟩
theorem RepC.c_cn {v v' : mmM} {s : St} {z_cn : Nat → Nat} (h : RepC v s) (hk : ∀ i, i < 81 ∧ i ≠ 5 ∧ i ≠ 6 ∧ i ≠ 7 ∧ i ≠ 78 ∧ i ≠ 79 ∧ i ≠ 80 ∧ i ≠ 46 → v' i = v i) (e_cn : v' 46 = fun b => nI (z_cn b)) : RepC v' (s.set 11 (fun _ => z_cn)) := by
  exact ⟨(by rw [hk 1 (by decide)]; exact h.ni), (by rw [hk 2 (by decide)]; exact h.nl), (by rw [hk 3 (by decide)]; exact h.np), (by rw [hk 4 (by decide)]; exact h.ne), (by rw [hk 0 (by decide)]; exact h.td), (by rw [hk 8 (by decide)]; exact h.ct), (fun i hi => by rw [hk (10 + i) (by omega)]; exact h.rk i hi), (by rw [hk 16 (by decide)]; exact h.it), (by rw [hk 17 (by decide)]; exact h.ex), (by rw [hk 18 (by decide)]; exact h.od), (fun i hi => by rw [hk (20 + i) (by omega)]; exact h.un i hi), (by rw [hk 44 (by decide)]; exact h.lu), (by rw [hk 45 (by decide)]; exact h.bl), e_cn, (by rw [hk 47 (by decide)]; exact h.du), (by rw [hk 48 (by decide)]; exact h.st), (fun p hp i hi => by rw [hk (50 + p) (by omega)]; exact h.q p hp i hi), (by rw [hk 70 (by decide)]; exact h.fe), (by rw [hk 71 (by decide)]; exact h.lc), (by rw [hk 72 (by decide)]; exact h.kd), (by rw [hk 73 (by decide)]; exact h.jl), (by rw [hk 74 (by decide)]; exact h.jf), (by rw [hk 75 (by decide)]; exact h.jt), (by rw [hk 76 (by decide)]; exact h.jq), (by rw [hk 77 (by decide)]; exact h.jd)⟩
theorem RepC.c_np_du_st_q {v v' : mmM} {s : St} {z_np : Nat} {z_du : Nat → Nat} {z_st : Nat → Nat} {z_q : Nat → Nat → Nat} (h : RepC v s) (hk : ∀ i, i < 81 ∧ i ≠ 5 ∧ i ≠ 6 ∧ i ≠ 7 ∧ i ≠ 78 ∧ i ≠ 79 ∧ i ≠ 80 ∧ i ≠ 3 ∧ i ≠ 47 ∧ i ≠ 48 ∧ (i < 50 ∨ 70 ≤ i) → v' i = v i) (e_np : v' 3 0 = nI z_np) (e_du : v' 47 = fun p => nI (z_du p)) (e_st : v' 48 = fun p => nI (z_st p)) (e_q : ∀ p, p < 20 → ∀ i, i < 6 → v' (50 + p) i = nI (z_q p i)) : RepC v' ((((s.set 2 (fun _ _ => z_np)).set 12 (fun _ => z_du)).set 13 (fun _ => z_st)).set 14 z_q) := by
  exact ⟨(by rw [hk 1 (by decide)]; exact h.ni), (by rw [hk 2 (by decide)]; exact h.nl), e_np, (by rw [hk 4 (by decide)]; exact h.ne), (by rw [hk 0 (by decide)]; exact h.td), (by rw [hk 8 (by decide)]; exact h.ct), (fun i hi => by rw [hk (10 + i) (by omega)]; exact h.rk i hi), (by rw [hk 16 (by decide)]; exact h.it), (by rw [hk 17 (by decide)]; exact h.ex), (by rw [hk 18 (by decide)]; exact h.od), (fun i hi => by rw [hk (20 + i) (by omega)]; exact h.un i hi), (by rw [hk 44 (by decide)]; exact h.lu), (by rw [hk 45 (by decide)]; exact h.bl), (by rw [hk 46 (by decide)]; exact h.cn), e_du, e_st, e_q, (by rw [hk 70 (by decide)]; exact h.fe), (by rw [hk 71 (by decide)]; exact h.lc), (by rw [hk 72 (by decide)]; exact h.kd), (by rw [hk 73 (by decide)]; exact h.jl), (by rw [hk 74 (by decide)]; exact h.jf), (by rw [hk 75 (by decide)]; exact h.jt), (by rw [hk 76 (by decide)]; exact h.jq), (by rw [hk 77 (by decide)]; exact h.jd)⟩
theorem RepC.c_st {v v' : mmM} {s : St} {z_st : Nat → Nat} (h : RepC v s) (hk : ∀ i, i < 81 ∧ i ≠ 5 ∧ i ≠ 6 ∧ i ≠ 7 ∧ i ≠ 78 ∧ i ≠ 79 ∧ i ≠ 80 ∧ i ≠ 48 → v' i = v i) (e_st : v' 48 = fun p => nI (z_st p)) : RepC v' (s.set 13 (fun _ => z_st)) := by
  exact ⟨(by rw [hk 1 (by decide)]; exact h.ni), (by rw [hk 2 (by decide)]; exact h.nl), (by rw [hk 3 (by decide)]; exact h.np), (by rw [hk 4 (by decide)]; exact h.ne), (by rw [hk 0 (by decide)]; exact h.td), (by rw [hk 8 (by decide)]; exact h.ct), (fun i hi => by rw [hk (10 + i) (by omega)]; exact h.rk i hi), (by rw [hk 16 (by decide)]; exact h.it), (by rw [hk 17 (by decide)]; exact h.ex), (by rw [hk 18 (by decide)]; exact h.od), (fun i hi => by rw [hk (20 + i) (by omega)]; exact h.un i hi), (by rw [hk 44 (by decide)]; exact h.lu), (by rw [hk 45 (by decide)]; exact h.bl), (by rw [hk 46 (by decide)]; exact h.cn), (by rw [hk 47 (by decide)]; exact h.du), e_st, (fun p hp i hi => by rw [hk (50 + p) (by omega)]; exact h.q p hp i hi), (by rw [hk 70 (by decide)]; exact h.fe), (by rw [hk 71 (by decide)]; exact h.lc), (by rw [hk 72 (by decide)]; exact h.kd), (by rw [hk 73 (by decide)]; exact h.jl), (by rw [hk 74 (by decide)]; exact h.jf), (by rw [hk 75 (by decide)]; exact h.jt), (by rw [hk 76 (by decide)]; exact h.jq), (by rw [hk 77 (by decide)]; exact h.jd)⟩
theorem RepC.c_td {v v' : mmM} {s : St} {z_td : Nat} (h : RepC v s) (hk : ∀ i, i < 81 ∧ i ≠ 5 ∧ i ≠ 6 ∧ i ≠ 7 ∧ i ≠ 78 ∧ i ≠ 79 ∧ i ≠ 80 ∧ i ≠ 0 → v' i = v i) (e_td : v' 0 7 = nI z_td) : RepC v' (s.set 4 (fun _ _ => z_td)) := by
  exact ⟨(by rw [hk 1 (by decide)]; exact h.ni), (by rw [hk 2 (by decide)]; exact h.nl), (by rw [hk 3 (by decide)]; exact h.np), (by rw [hk 4 (by decide)]; exact h.ne), e_td, (by rw [hk 8 (by decide)]; exact h.ct), (fun i hi => by rw [hk (10 + i) (by omega)]; exact h.rk i hi), (by rw [hk 16 (by decide)]; exact h.it), (by rw [hk 17 (by decide)]; exact h.ex), (by rw [hk 18 (by decide)]; exact h.od), (fun i hi => by rw [hk (20 + i) (by omega)]; exact h.un i hi), (by rw [hk 44 (by decide)]; exact h.lu), (by rw [hk 45 (by decide)]; exact h.bl), (by rw [hk 46 (by decide)]; exact h.cn), (by rw [hk 47 (by decide)]; exact h.du), (by rw [hk 48 (by decide)]; exact h.st), (fun p hp i hi => by rw [hk (50 + p) (by omega)]; exact h.q p hp i hi), (by rw [hk 70 (by decide)]; exact h.fe), (by rw [hk 71 (by decide)]; exact h.lc), (by rw [hk 72 (by decide)]; exact h.kd), (by rw [hk 73 (by decide)]; exact h.jl), (by rw [hk 74 (by decide)]; exact h.jf), (by rw [hk 75 (by decide)]; exact h.jt), (by rw [hk 76 (by decide)]; exact h.jq), (by rw [hk 77 (by decide)]; exact h.jd)⟩
theorem RepC.c_fe_lc {v v' : mmM} {s : St} {z_fe : Nat → Nat} {z_lc : Nat → Nat} (h : RepC v s) (hk : ∀ i, i < 81 ∧ i ≠ 5 ∧ i ≠ 6 ∧ i ≠ 7 ∧ i ≠ 78 ∧ i ≠ 79 ∧ i ≠ 80 ∧ i ≠ 70 ∧ i ≠ 71 → v' i = v i) (e_fe : v' 70 = fun p => nI (z_fe p)) (e_lc : v' 71 = fun p => nI (z_lc p)) : RepC v' ((s.set 15 (fun _ => z_fe)).set 16 (fun _ => z_lc)) := by
  exact ⟨(by rw [hk 1 (by decide)]; exact h.ni), (by rw [hk 2 (by decide)]; exact h.nl), (by rw [hk 3 (by decide)]; exact h.np), (by rw [hk 4 (by decide)]; exact h.ne), (by rw [hk 0 (by decide)]; exact h.td), (by rw [hk 8 (by decide)]; exact h.ct), (fun i hi => by rw [hk (10 + i) (by omega)]; exact h.rk i hi), (by rw [hk 16 (by decide)]; exact h.it), (by rw [hk 17 (by decide)]; exact h.ex), (by rw [hk 18 (by decide)]; exact h.od), (fun i hi => by rw [hk (20 + i) (by omega)]; exact h.un i hi), (by rw [hk 44 (by decide)]; exact h.lu), (by rw [hk 45 (by decide)]; exact h.bl), (by rw [hk 46 (by decide)]; exact h.cn), (by rw [hk 47 (by decide)]; exact h.du), (by rw [hk 48 (by decide)]; exact h.st), (fun p hp i hi => by rw [hk (50 + p) (by omega)]; exact h.q p hp i hi), e_fe, e_lc, (by rw [hk 72 (by decide)]; exact h.kd), (by rw [hk 73 (by decide)]; exact h.jl), (by rw [hk 74 (by decide)]; exact h.jf), (by rw [hk 75 (by decide)]; exact h.jt), (by rw [hk 76 (by decide)]; exact h.jq), (by rw [hk 77 (by decide)]; exact h.jd)⟩
