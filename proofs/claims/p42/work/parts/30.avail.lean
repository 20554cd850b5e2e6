/-! what is available -/
theorem fo_succ {α : Type} {f : Nat → α → α} {a : α} : ∀ {k : Nat}, fo f a (k + 1) = fo (fun j => f (j + 1)) (f 0 a) k
  | 0 => rfl
  | k + 1 => by
    show f (k + 1) (fo f a (k + 1)) = f (k + 1) (fo (fun j => f (j + 1)) (f 0 a) k)
    rw [fo_succ]
theorem sub_nI {a b : Nat} (h : b ≤ a) : nI a - nI b = nI (a - b) := by
  have := i32_cancel (a := a - b) (b := b)
  rw [Nat.sub_add_cancel h] at this
  exact this
theorem sub_nIt {a b : Nat} (ha : a < 1000000) (hb : b < 1000000) : (nI a - nI b).toInt = (a : Int) - b := by
  rw [Int32.toInt_sub, nI_toInt (by omega), nI_toInt (by omega)]
  simp only [Int.bmod]
  split <;> omega
theorem sub_le0 {a b : Nat} (ha : a < 1000000) (hb : b < 1000000) : (0 ≤ nI a - nI b) ↔ b ≤ a := by
  rw [Int32.le_iff_toInt_le, sub_nIt ha hb]
  show (0 : Int) ≤ _ ↔ _
  omega
theorem Inw.lub {n : Nat} {s : St} (h : Inw n s) (l : Nat) : s.lu l ≤ 1200 := by
  have := sm_le_mul (f := s.un l) (c := 30) (n := 40) (fun b hb => h.unb hb)
  exact this
theorem Inv.lub {n : Nat} {s : St} (h : Inv n s) (l : Nat) : s.lu l ≤ 1200 := h.1.lub l
theorem Inw.skb {n : Nat} {s : St} (h : Inw n s) (i d : Nat) : s.sk i d ≤ 28800 := by
  have := sm_le_mul (f := fun l => if s.it l = i ∧ d ≤ s.ex l then s.lu l else 0) (c := 1200) (n := s.nl) (fun l _ => by
    show (if _ then _ else _) ≤ _
    split
    · exact h.lub l
    · omega)
  have h2 := h.nl_
  unfold St.sk
  omega
theorem Inv.skb {n : Nat} {s : St} (h : Inv n s) (i d : Nat) : s.sk i d ≤ 28800 := h.1.skb i d
theorem Inw.qb {n : Nat} {s : St} (h : Inw n s) {p i : Nat} (hp : p < s.np) (hi : i < 6) : s.q p i ≤ 60 := Nat.le_trans (sm_at (f := s.q p) hi) (h.q_ p hp)
theorem Inv.qb {n : Nat} {s : St} (h : Inv n s) {p i : Nat} (hp : p < s.np) (hi : i < 6) : s.q p i ≤ 60 := h.1.qb hp hi
theorem Inw.prb {n : Nat} {s : St} (h : Inw n s) {i : Nat} (hi : i < 6) (d : Nat) : s.pr i d ≤ 1200 := by
  have := sm_le_mul (f := fun p => if s.st p = 111 ∧ d ≤ s.du p then s.q p i else 0) (c := 60) (n := s.np) (fun p hp => by
    show (if _ then _ else _) ≤ _
    split
    · exact h.qb hp hi
    · omega)
  have h2 := h.np_
  unfold St.pr
  omega
theorem Inv.prb {n : Nat} {s : St} (h : Inv n s) {i : Nat} (hi : i < 6) (d : Nat) : s.pr i d ≤ 1200 := h.1.prb hi d
def St.df (s : St) (i d : Nat) : Nat := s.sk i d - s.pr i d
def laf (s : St) (i j a : Nat) : Nat := if s.df i (s.td + (j + 1)) < a then s.df i (s.td + (j + 1)) else a
/-- the least of what is left on the days from today to k days ahead -/
def St.la (s : St) (i k : Nat) : Nat := fo (laf s i) (s.df i s.td) k
theorem la_le {s : St} {i : Nat} : ∀ {k : Nat}, s.la i k ≤ s.df i s.td
  | 0 => Nat.le_refl _
  | k + 1 => by
    have := la_le (s := s) (i := i) (k := k)
    show (if s.df i (s.td + (k + 1)) < s.la i k then s.df i (s.td + (k + 1)) else s.la i k) ≤ s.df i s.td
    split <;> omega
theorem la_le_at {s : St} {i : Nat} : ∀ {k j : Nat}, j ≤ k → s.la i k ≤ s.df i (s.td + j)
  | 0, j, h => by have : j = 0 := by omega
                  subst this; exact Nat.le_refl _
  | k + 1, j, h => by
    show (if s.df i (s.td + (k + 1)) < s.la i k then s.df i (s.td + (k + 1)) else s.la i k) ≤ _
    by_cases e : j = k + 1
    · subst e; split <;> omega
    · have := la_le_at (s := s) (i := i) (k := k) (j := j) (by omega)
      split <;> omega
theorem le_la {s : St} {i c : Nat} : ∀ {k : Nat}, (∀ j, j ≤ k → c ≤ s.df i (s.td + j)) → c ≤ s.la i k
  | 0, h => h 0 (Nat.le_refl _)
  | k + 1, h => by
    show c ≤ (if s.df i (s.td + (k + 1)) < s.la i k then s.df i (s.td + (k + 1)) else s.la i k)
    have h1 := le_la (s := s) (i := i) (c := c) (k := k) (fun j hj => h j (by omega))
    have h2 := h (k + 1) (Nat.le_refl _)
    split <;> omega
section AV
variable {n : Nat} {s : St} {x y : Int32}
theorem k_diff {i d : Nat} {v : mmM} {K : mmO → mmM → Prop} (h : Inw n s) (hw : RepC v s) (hi : i < 6) (hd : d < 100000) (g : K (.inl (some (.int (nI (s.sk i d) - nI (s.pr i d))))) v) : mm_M kX5_difference [.ref 0, .int (nI i), .int (nI d)] v K := by
  have hnp := h.np_
  refine bX5_difference_0 (by decide) (m_unitsFrom h.nl_ hw.nl (mm_Kr 0 rfl ?_))
  refine bX5_difference_9 (by decide) (m_promisedFrom h.np_ hi hw.np (mm_Kr 0 rfl (bX5_difference_18 ?_)))
  rw [hw.it, hw.ex, hw.lu, hw.st, hw.du, sFrom_nI h (by omega) hd, sProm_nI h (i := i) (fun p hp => hw.q p (by omega) i hi) hd]
  exact g
theorem k_least {i k : Nat} {v : mmM} {K : mmO → mmM → Prop} (h : Inv n s) (hw : RepC v s) (hi : i < s.ni) (hk : k ≤ 60) (g : K (.inl (some (.int (nI (s.la i k))))) v) : mm_M kX5_leastDifference [.ref 0, .int (nI i), .int (nI (s.td + k))] v K := by
  have h1 := h.ni_; have h2 := h.td_; have h3 := h.n_
  refine bX5_leastDifference_0 (by decide) ?_
  rw [hw.td]
  refine k_diff h.1 hw (by omega) (by omega) (mm_Kr 0 rfl (bX5_leastDifference_9 ?_))
  rw [sub_nI (h.cv_ i s.td (by omega) (Nat.le_refl _)), hw.td, sub_nI (Nat.le_add_right _ _), Nat.add_sub_cancel_left, show (60 : Int32) = nI 60 from rfl]
  have e : (if nI 60 < nI k then nI 60 else nI k) = nI k := by
    rw [if_neg]
    rw [nI_lti (by omega) (by omega)]
    omega
  rw [e]
  refine e_for (n := k) (a0 := s.df i s.td) (E := fun j a => mm_E kX5_leastDifference 26 [.ref 0, .int (nI i), .int (nI (s.td + k)), .int (nI a), .int (nI k), .int (nI (j + 1))] [] v 0 K) (f := laf s i) (fun _ a => a ≤ 28800) (Nat.le_trans (Nat.sub_le _ _) (h.skb i s.td)) ?_ ?_ ?_
  · intro j a _ ha
    unfold laf
    split
    · omega
    · exact ha
  · intro j a hj ha ih
    refine bX5_leastDifference_26 (fun q => ?_) (fun _ => ?_)
    · rw [nI_lti (by omega) (by omega)] at q
      omega
    · refine bX5_leastDifference_33 (by decide) ?_
      rw [hw.td, nI_add]
      refine k_diff h.1 hw (by omega) (by omega) (mm_Kr 0 rfl (bX5_leastDifference_46 ?_))
      rw [sub_nI (h.cv_ i _ (by omega) (Nat.le_add_right _ _)), nI_1]
      unfold laf at ih
      have hb := h.skb i (s.td + (j + 1))
      have e : (nI (s.sk i (s.td + (j + 1)) - s.pr i (s.td + (j + 1))) < nI a) ↔ s.df i (s.td + (j + 1)) < a := nI_lti (by omega) (by omega)
      by_cases q : s.df i (s.td + (j + 1)) < a
      · rw [if_pos (e.mpr q)]; rw [if_pos q] at ih; exact ih
      · rw [if_neg (fun z => q (e.mp z))]; rw [if_neg q] at ih; exact ih
  · intro _
    refine bX5_leastDifference_26 (fun _ => bX5_leastDifference_56 g) (fun q => absurd (nI_lt (Nat.lt_succ_self k) (by omega)) q)
theorem bt_td {k : Nat} (h : bt s.td (s.td + k) y) : ∃ j, j ≤ k ∧ y = nI (s.td + j) := by
  obtain ⟨i, h1, h2, e⟩ := h
  exact ⟨i - s.td, by omega, by rw [e, show s.td + (i - s.td) = i by omega]⟩
end AV
