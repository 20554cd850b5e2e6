/-! walks are not short; the next count comes first; journal, items and bins come to the same units -/
section PU
variable {n : Nat} {s : St}
theorem lstA_ge {B : Nat → Nat} : ∀ {N k : Nat}, k < N → B k / 10 ≤ lstA B N
  | 0, _, h => absurd h (Nat.not_lt_zero _)
  | N + 1, k, h => by
    show B k / 10 ≤ max (lstA B N) (B N / 10)
    by_cases e : k = N
    · subst e; omega
    · have := lstA_ge (B := B) (N := N) (k := k) (by omega)
      omega
theorem rF_ge {B : Nat → Nat} {a : Nat} : ∀ {N k : Nat}, k < N → B k / 10 = a → 1 ≤ rF B N a
  | 0, _, h, _ => absurd h (Nat.not_lt_zero _)
  | N + 1, k, h, ha => by
    show 1 ≤ (if B N / 10 = a then max (rF B N a) (B N % 10 + 1) else rF B N a)
    by_cases e : k = N
    · subst e
      rw [if_pos ha]
      omega
    · have := rF_ge (B := B) (a := a) (N := N) (k := k) (by omega) ha
      split <;> omega
theorem wk_ge {B : Nat → Nat} {N : Nat} (hN : 1 ≤ N) : 2 ≤ (wkc B N (lstA B N + 1)).1 + 8 * lstA B N := by
  by_cases z : lstA B N = 0
  · have h0 := lstA_ge (B := B) (N := N) (k := 0) (by omega)
    have h1 := rF_ge (B := B) (a := 0) (N := N) (k := 0) (by omega) (by omega)
    rw [z]
    show 2 ≤ min (0 + 2 * rF B N 0) (1000000 + 11) + 8 * 0
    omega
  · omega
theorem wkN_ok (h : Inv n s) {p : Nat} (hp : p < s.np) (hs : s.st p = 111 ∨ s.st p = 112) (hN : 1 ≤ vN s p) : 2 ≤ wkN s p ∧ wkN s p < 1000 := by
  obtain ⟨h1, h2⟩ := vw_ok h.1 hp hs
  refine ⟨wk_ge hN, ?_⟩
  have a1 := lstA_le (B := vB s p) (N := vN s p) (fun k hk => (h2 k hk).1)
  have a2 := (wkc_b (B := vB s p) (N := vN s p) (lstA (vB s p) (vN s p) + 1)).1
  unfold wkN
  omega
theorem nc_ok (s : St) : ∀ m, m ≤ 40 → (fo (ncf s) 0 m ≤ 40 ∧ (fo (ncf s) 0 m ≠ 0 → s.bl (fo (ncf s) 0 m - 1) ≠ 0)) ∧ ∀ i, i < m → s.bl (rt i) ≠ 0 → fo (ncf s) 0 m ≠ 0 ∧ s.dd (fo (ncf s) 0 m - 1) ≤ s.dd (rt i) := by
  intro m
  induction m with
  | zero => intro _; exact ⟨⟨Nat.zero_le _, fun h => absurd rfl h⟩, fun i hi => absurd hi (Nat.not_lt_zero _)⟩
  | succ m ih =>
    intro hm
    obtain ⟨h1, h2⟩ := ih (by omega)
    refine ⟨ncf_I (s := s) (i := m) (by omega) h1, fun i hi hb => ?_⟩
    show ncf s m (fo (ncf s) 0 m) ≠ 0 ∧ s.dd (ncf s m (fo (ncf s) 0 m) - 1) ≤ s.dd (rt i)
    generalize fo (ncf s) 0 m = a at h1 h2 ⊢
    unfold ncf
    by_cases q : s.bl (rt m) = 0
    · rw [if_pos q]
      by_cases e : i = m
      · subst e; exact absurd q hb
      · exact h2 i (by omega) hb
    · rw [if_neg q]
      by_cases q2 : a = 0 ∨ s.dd (rt m) < s.dd (a - 1)
      · rw [if_pos q2]
        refine ⟨by omega, ?_⟩
        rw [Nat.add_sub_cancel]
        by_cases e : i = m
        · subst e; exact Nat.le_refl _
        · have := h2 i (by omega) hb
          rcases q2 with z | z
          · exact absurd z this.1
          · omega
      · rw [if_neg q2]
        by_cases e : i = m
        · subst e; exact ⟨fun z => q2 (Or.inl z), by omega⟩
        · exact h2 i (by omega) hb
theorem nc_min {b : Nat} (hb : b < 40) (hl : s.bl b ≠ 0) : s.nc ≠ 0 ∧ s.nc - 1 < 40 ∧ s.bl (s.nc - 1) ≠ 0 ∧ s.dd (s.nc - 1) ≤ s.dd b := by
  obtain ⟨h1, h2⟩ := nc_ok s 40 (Nat.le_refl _)
  have r : rt (rt b) = b := rt_rt hb
  have := h2 (rt b) (rt_lt hb) (by rw [r]; exact hl)
  rw [r] at this
  have h3 : s.nc ≤ 40 := h1.1
  have h4 : s.nc ≠ 0 := this.1
  exact ⟨h4, by omega, h1.2 h4, this.2⟩
theorem smx_swap {g : Nat → Nat → Nat} {m : Nat} : ∀ n, sm (fun l => sm (g l) m) n = sm (fun e => sm (fun l => g l e) n) m
  | 0 => (sm_0 (fun _ _ => rfl)).symm
  | n + 1 => by
    show sm (fun l => sm (g l) m) n + sm (g n) m = sm (fun e => sm (fun l => g l e) n + g n e) m
    rw [smx_swap n, ← sm_add]
theorem sm_if1 {j n x : Nat} (hj : j < n) : sm (fun i => if i = j then x else 0) n = x := by
  have := sm_one (f := fun _ => 0) (g := fun i => if i = j then x else 0) (j := j) (n := n) hj (fun i hi => if_neg hi)
  rw [sm_0 (f := fun _ => 0) (fun _ _ => rfl), if_pos rfl] at this
  omega
theorem jsum (h : Inw n s) {j : Nat → Nat} (hj : ∀ e, e < s.ne → j e ≤ 40) (i : Nat) : sm (fun e => if s.it (s.jl e) = i then (if j e = 0 then 0 else s.jq e) else 0) s.ne = sm (fun l => if s.it l = i then sm (fun b => sm (fun e => if s.jl e = l ∧ j e = b + 1 then s.jq e else 0) s.ne) 40 else 0) s.nl := by
  have e1 : ∀ l, (if s.it l = i then sm (fun b => sm (fun e => if s.jl e = l ∧ j e = b + 1 then s.jq e else 0) s.ne) 40 else 0) = sm (fun e => if s.it l = i then sm (fun b => if s.jl e = l ∧ j e = b + 1 then s.jq e else 0) 40 else 0) s.ne := by
    intro l
    by_cases q : s.it l = i
    · rw [if_pos q, smx_swap (g := fun b e => if s.jl e = l ∧ j e = b + 1 then s.jq e else 0)]
      exact sm_cong (fun e _ => by rw [if_pos q])
    · rw [if_neg q, sm_0 (fun e _ => if_neg q)]
  rw [sm_cong (fun l _ => e1 l), smx_swap (g := fun l e => if s.it l = i then sm (fun b => if s.jl e = l ∧ j e = b + 1 then s.jq e else 0) 40 else 0)]
  refine sm_cong (fun e he => ?_)
  have h1 := h.jl_ e he
  have h2 := hj e he
  have e2 : ∀ l, (if s.it l = i then sm (fun b => if s.jl e = l ∧ j e = b + 1 then s.jq e else 0) 40 else 0) = if l = s.jl e then (if s.it (s.jl e) = i then (if j e = 0 then 0 else s.jq e) else 0) else 0 := by
    intro l
    by_cases q : l = s.jl e
    · subst q
      rw [if_pos rfl]
      by_cases q2 : s.it (s.jl e) = i
      · rw [if_pos q2, if_pos q2]
        by_cases q3 : j e = 0
        · rw [if_pos q3]
          exact sm_0 (fun b _ => if_neg (fun z => by omega))
        · rw [if_neg q3]
          refine Eq.trans (sm_cong (fun b _ => ?_)) (sm_if1 (j := j e - 1) (n := 40) (x := s.jq e) (by omega))
          by_cases q4 : b = j e - 1
          · rw [if_pos q4, if_pos ⟨rfl, by omega⟩]
          · rw [if_neg q4, if_neg (fun z => by omega)]
      · rw [if_neg q2, if_neg q2]
    · rw [if_neg q]
      split
      · exact sm_0 (fun b _ => if_neg (fun z => q z.1.symm))
      · rfl
  rw [sm_cong (fun l _ => e2 l), sm_if1 h1]
/-- units of an item, of all its days -/
def St.uu (s : St) (i : Nat) : Nat := sm (fun l => if s.it l = i then s.lu l else 0) s.nl
theorem uu_eq (s : St) (i d : Nat) : s.uu i = s.sk i d + s.xp i d := by
  unfold St.uu St.sk St.xp
  rw [← sm_add]
  refine sm_cong (fun l _ => ?_)
  by_cases q : s.it l = i
  · by_cases q2 : d ≤ s.ex l
    · rw [if_pos q, if_pos ⟨q, q2⟩, if_neg (fun z => by omega), Nat.add_zero]
    · rw [if_pos q, if_neg (fun z => q2 z.2), if_pos ⟨q, by omega⟩, Nat.zero_add]
  · rw [if_neg q, if_neg (fun z => q z.1), if_neg (fun z => q z.1)]
theorem s32_sub {a b : Nat → Nat} : ∀ n, s32 (fun e => nI (a e) - nI (b e)) n = nI (sm a n) - nI (sm b n)
  | 0 => by show (0 : Int32) = nI 0 - nI 0; decide
  | n + 1 => by
    show s32 (fun e => nI (a e) - nI (b e)) n + (nI (a n) - nI (b n)) = nI (sm a n + a n) - nI (sm b n + b n)
    rw [s32_sub n, ← nI_add, ← nI_add]
    rw [Int32.sub_eq_add_neg, Int32.sub_eq_add_neg, Int32.sub_eq_add_neg, Int32.neg_add, add4, Int32.sub_eq_add_neg]
theorem ho_eq (h : Inw n s) (i : Nat) : s.ho i s.td = nI (s.uu i) := by
  have hjt := jsum h (j := s.jt) h.jt_ i
  have hjf := jsum h (j := s.jf) h.jf_ i
  have e1 : sm (fun e => if s.it (s.jl e) = i then (if s.jt e = 0 then 0 else s.jq e) else 0) s.ne = s.uu i + sm (fun e => if s.it (s.jl e) = i then (if s.jf e = 0 then 0 else s.jq e) else 0) s.ne := by
    rw [hjt, hjf]
    unfold St.uu
    rw [← sm_add]
    refine sm_cong (fun l hl => ?_)
    by_cases q : s.it l = i
    · rw [if_pos q, if_pos q, if_pos q]
      show _ = sm (s.un l) 40 + _
      rw [← sm_add]
      exact sm_cong (fun b hb => h.js_ l b hl hb)
    · rw [if_neg q, if_neg q, if_neg q]
  have e2 : s.ho i s.td = s32 (fun e => nI (if s.it (s.jl e) = i then (if s.jt e = 0 then 0 else s.jq e) else 0) - nI (if s.it (s.jl e) = i then (if s.jf e = 0 then 0 else s.jq e) else 0)) s.ne := by
    refine s32_cong (fun e he => ?_)
    have h1 := h.jt_ e he
    have h2 := h.jf_ e he
    have h3 := h.jd_ e he
    by_cases q : s.it (s.jl e) = i
    · rw [if_pos ⟨q, h3⟩, if_pos q, if_pos q]
      show (if nI (s.jt e) - 1 = -1 then 0 else nI (s.jq e)) - (if nI (s.jf e) - 1 = -1 then 0 else nI (s.jq e)) = _
      by_cases q1 : s.jt e = 0
      · by_cases q2 : s.jf e = 0
        · rw [if_pos ((m1_nI (by omega)).mpr q1), if_pos ((m1_nI (by omega)).mpr q2), if_pos q1, if_pos q2]
          rfl
        · rw [if_pos ((m1_nI (by omega)).mpr q1), if_neg (fun z => q2 ((m1_nI (by omega)).mp z)), if_pos q1, if_neg q2]
          rfl
      · by_cases q2 : s.jf e = 0
        · rw [if_neg (fun z => q1 ((m1_nI (by omega)).mp z)), if_pos ((m1_nI (by omega)).mpr q2), if_neg q1, if_pos q2]
          rfl
        · rw [if_neg (fun z => q1 ((m1_nI (by omega)).mp z)), if_neg (fun z => q2 ((m1_nI (by omega)).mp z)), if_neg q1, if_neg q2]
    · rw [if_neg (fun z => q z.1), if_neg q, if_neg q]
      rfl
  rw [e2, s32_sub, e1, i32_cancel]
theorem all_eq (h : Inw n s) : sm s.bl 40 = sm s.uu s.ni := by
  have e1 : sm s.bl 40 = sm s.lu s.nl := by
    rw [sm_cong (fun b _ => h.bln b)]
    exact (smx_swap (g := s.un) s.nl).symm
  rw [e1]
  unfold St.uu
  rw [smx_swap (g := fun i l => if s.it l = i then s.lu l else 0)]
  refine sm_cong (fun l hl => ?_)
  have h1 := h.it_ l hl
  refine (Eq.trans (sm_cong (fun i _ => ?_)) (sm_if1 (j := s.it l) (n := s.ni) (x := s.lu l) h1)).symm
  by_cases q : i = s.it l
  · rw [if_pos q, if_pos q.symm]
  · rw [if_neg q, if_neg (fun z => q z.symm)]
end PU
