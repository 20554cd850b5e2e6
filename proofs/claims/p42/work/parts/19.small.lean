/-! class: more small methods -/
def ffr (c : Nat → Bool) : Nat → Nat → Option Nat
  | 0, _ => none
  | m + 1, i => if c i then some i else ffr c m (i + 1)
theorem ffr_lt {c : Nat → Bool} : ∀ {m i j : Nat}, ffr c m i = some j → j < i + m ∧ c j = true
  | 0, _, _, h => by cases h
  | m + 1, i, j, h => by
    unfold ffr at h
    by_cases hc : c i = true
    · rw [if_pos hc] at h
      cases h
      exact ⟨by omega, hc⟩
    · rw [if_neg hc] at h
      have := ffr_lt h
      exact ⟨by omega, this.2⟩
/-- a search that goes up and leaves at the first hit -/
theorem e_find {n : Nat} {c : Nat → Bool} {E : Nat → Prop} (hs : ∀ i, i < n → c i = false → E (i + 1) → E i) (hf : ∀ i, i < n → c i = true → (∀ j, j < i → c j = false) → ffr c n 0 = some i → E i) (hx : ffr c n 0 = none → E n) : E 0 := by
  have go : ∀ m i, i + m = n → (∀ j, j < i → c j = false) → ffr c n 0 = ffr c m i → E i := by
    intro m
    induction m with
    | zero => intro i hi hj h; have : i = n := by omega
              subst this; exact hx h
    | succ m ih =>
      intro i hi hj h
      cases hc : c i with
      | true => exact hf i (by omega) hc hj (by rw [h]; unfold ffr; rw [if_pos hc])
      | false =>
        refine hs i (by omega) hc (ih (i + 1) (by omega) (fun j hlt => ?_) ?_)
        · rcases Nat.lt_or_ge j i with q | q
          · exact hj j q
          · have : j = i := by omega
            subst this; exact hc
        · rw [h]
          show (if c i then some i else ffr c m (i + 1)) = _
          rw [if_neg (by rw [hc]; decide)]
  exact go n 0 (by omega) (fun _ h => absurd h (Nat.not_lt_zero _)) rfl
section CS
variable {v : mmM} {K : mmO → mmM → Prop}
/-- the first lot in the order of the lots that lasts and has units -/
def cFirst (od it ex un : Nat → Int32) (item day : Int32) (k : Nat) : Bool := decide (it (od k).toNatClampNeg = item ∧ day ≤ ex (od k).toNatClampNeg ∧ 0 < un (od k).toNatClampNeg)
def sFirst (od it ex un : Nat → Int32) (item day : Int32) (n : Nat) : Option Nat := ffr (cFirst od it ex un item day) n 0
theorem m_firstLot {n : Nat} {item day : Int32} (hn : n ≤ 24) (hs : v 2 0 = nI n) (ho : ∀ k, k < n → ∃ o, o < 24 ∧ v 18 k = nI o) (g : K (.inl (some (.int (match sFirst (v 18) (v 16) (v 17) (v 44) item day n with | some k => v 18 k | none => -1)))) v) : mm_M kX0_firstLot [.ref 2, .int item, .int day] v K := by
  refine bX0_firstLot_0 ?_
  have : ∀ l4 : Value, mm_E kX0_firstLot 2 [.ref 2, .int item, .int day, .int (nI 0), l4] [] v 0 K := by
    refine e_find (n := n) (c := cFirst (v 18) (v 16) (v 17) (v 44) item day) (E := fun i => ∀ l4 : Value, mm_E kX0_firstLot 2 [.ref 2, .int item, .int day, .int (nI i), l4] [] v 0 K) ?_ ?_ ?_
    · intro i hi hc ih l4
      refine bX0_firstLot_2 (fun h => absurd (hs ▸ h) (ge_nI hi (by omega))) (fun _ => ?_)
      obtain ⟨o, ho1, ho2⟩ := ho i hi
      unfold cFirst at hc
      rw [ho2, cl_nI (by omega)] at hc
      have hc := of_decide_eq_false hc
      refine bX0_firstLot_10 (in_nI (by omega) (by decide)) (by decide) ?_
      rw [cl_nI (by omega), ho2]
      refine m_lasts ho1 (mm_Kr 0 rfl ?_)
      refine bX0_firstLot_26 (fun h => ?_) (fun h => ?_)
      · refine bX0_firstLot_42 ?_
        rw [nI_1]
        exact ih _
      · have h := Classical.not_not.mp (fun q => h (bi_eq0.mpr q))
        refine bX0_firstLot_29 (in_nI ho1 (by decide)) (fun h2 => ?_) (fun h2 => ?_) <;> rw [cl_nI (by omega)] at h2
        · refine bX0_firstLot_42 ?_
          rw [nI_1]
          exact ih _
        · exact absurd ⟨h.1, h.2, i32_nle.mp h2⟩ hc
    · intro i hi hc _ hres l4
      have hg : K (.inl (some (.int (v 18 i)))) v := by
        unfold sFirst at g
        rw [hres] at g
        exact g
      refine bX0_firstLot_2 (fun h => absurd (hs ▸ h) (ge_nI hi (by omega))) (fun _ => ?_)
      obtain ⟨o, ho1, ho2⟩ := ho i hi
      unfold cFirst at hc
      rw [ho2, cl_nI (by omega)] at hc
      have hc := of_decide_eq_true hc
      rw [ho2] at hg
      refine bX0_firstLot_10 (in_nI (by omega) (by decide)) (by decide) ?_
      rw [cl_nI (by omega), ho2]
      refine m_lasts ho1 (mm_Kr 0 rfl ?_)
      refine bX0_firstLot_26 (fun h => absurd ⟨hc.1, hc.2.1⟩ (bi_eq0.mp h)) (fun h => ?_)
      refine bX0_firstLot_29 (in_nI ho1 (by decide)) (fun h2 => ?_) (fun h2 => bX0_firstLot_39 hg)
      rw [cl_nI (by omega)] at h2
      exact absurd hc.2.2 (i32_nlt.mpr h2)
    · intro hres l4
      have hg : K (.inl (some (.int (-1)))) v := by
        unfold sFirst at g
        rw [hres] at g
        exact g
      exact bX0_firstLot_2 (fun _ => bX0_firstLot_48 hg) (fun h => absurd (hs ▸ le_nI (Nat.le_refl n) (by omega)) h)
  exact this _
/-- in how many bins a lot lies -/
def sBins (un : Nat → Int32) : Int32 := fo (fun b a => if 0 < un b then a + 1 else a) 0 40
theorem m_binsWith {l : Nat} (hl : l < 24) (g : K (.inl (some (.int (sBins (v (20 + l)))))) v) : mm_M kX0_binsWith [.ref 2, .int (nI l)] v K := by
  refine bX0_binsWith_0 ?_
  refine e_for0 (n := 40) (E := fun i a => mm_E kX0_binsWith 4 [.ref 2, .int (nI l), .int a, .int (nI i)] [] v 0 K) (f := fun b a => if 0 < v (20 + l) b then a + 1 else a) ?_ ?_
  · intro i a hi ih
    refine bX0_binsWith_4 (fun h => absurd h (ge_nI hi (by decide))) (fun _ => ?_)
    refine bX0_binsWith_10 (in_nI hl (by decide)) (in_nI hi (by decide)) (fun h => ?_) (fun h => ?_) <;> rw [cl_nI (by omega), cl_nI (by omega)] at h
    · refine bX0_binsWith_24 ?_
      rw [nI_1]
      rw [if_neg (i32_nlt.mpr h)] at ih
      exact ih
    · refine bX0_binsWith_21 (bX0_binsWith_24 ?_)
      rw [nI_1]
      rw [if_pos (i32_nle.mp h)] at ih
      exact ih
  · exact bX0_binsWith_4 (fun _ => bX0_binsWith_30 g) (fun h => absurd (le_nI (Nat.le_refl 40) (by decide)) h)
/-- goods that change -/
def cCh (v : mmM) (l b : Nat) (d : Int32) : mmM := mm_up (mm_up (mm_up v (20 + l) b (v (20 + l) b + d)) 44 l (v 44 l + d)) 45 b (v 45 b + d)
theorem m_change {l b : Nat} {d : Int32} (hl : l < 24) (hb : b < 40) (g : K (.inl none) (cCh v l b d)) : mm_M kX0_change [.ref 2, .int (nI l), .int (nI b), .int d] v K := by
  have a1 := in_nI hl (show 24 < 1000000 by decide)
  have a2 := in_nI hb (show 40 < 1000000 by decide)
  refine bX0_change_0 a1 a2 a2 a1 a1 a2 a2 ?_
  rw [cl_nI (by omega), cl_nI (by omega)]
  have e1 : mm_up v (20 + l) b (v (20 + l) b + d) 44 l = v 44 l := by rw [mm_up_row (by omega)]
  have e2 : mm_up v (20 + l) b (v (20 + l) b + d) 45 b = v 45 b := by rw [mm_up_row (by omega)]
  rw [e1, e2]
  exact g
theorem m_iappend {n : Nat} {ch : Int32} (hn : n < 6) (hs : v 1 0 = nI n) (hc : vp_nar .char ch = ch) (g : K (.inl (some (.int (nI n)))) (mm_up (mm_up v 8 n ch) 1 0 (nI (n + 1)))) : mm_M kX1_append [.ref 1, .int ch] v K := by
  refine bX1_append_0 (by rw [hs]; exact in_nI hn (by decide)) hc ?_
  rw [hs, nI_1, cl_nI (by omega)]
  exact g
def sSubs (rk : Nat → Int32) (n : Nat) : Int32 := fo (fun j a => if rk j = 0 then a else a + 1) 0 n
theorem m_substitutesOf {n i : Nat} (hn : n ≤ 6) (hi : i < 6) (hs : v 1 0 = nI n) (g : K (.inl (some (.int (sSubs (v (10 + i)) n)))) v) : mm_M kX1_substitutesOf [.ref 1, .int (nI i)] v K := by
  refine bX1_substitutesOf_0 ?_
  refine e_for0 (n := n) (E := fun j a => mm_E kX1_substitutesOf 4 [.ref 1, .int (nI i), .int a, .int (nI j)] [] v 0 K) (f := fun j a => if v (10 + i) j = 0 then a else a + 1) ?_ ?_
  · intro j a hj ih
    refine bX1_substitutesOf_4 (fun h => absurd (hs ▸ h) (ge_nI hj (by omega))) (fun _ => ?_)
    refine bX1_substitutesOf_12 (in_nI hi (by decide)) (in_nI (by omega) (by decide)) (fun h => ?_) (fun h => ?_) <;> rw [cl_nI (by omega), cl_nI (by omega)] at h
    · refine bX1_substitutesOf_26 ?_
      rw [nI_1]
      rw [if_pos h] at ih
      exact ih
    · refine bX1_substitutesOf_23 (bX1_substitutesOf_26 ?_)
      rw [nI_1]
      rw [if_neg h] at ih
      exact ih
  · exact bX1_substitutesOf_4 (fun _ => bX1_substitutesOf_32 g) (fun h => absurd (hs ▸ le_nI (Nat.le_refl n) (by omega)) h)
def sIvl (c : Int32) : Int32 := if c = 65 then 5 else if c = 66 then 10 else 20
theorem m_intervalOf {i : Nat} (hi : i < 6) (g : K (.inl (some (.int (sIvl (v 8 i))))) v) : mm_M kX1_intervalOf [.ref 1, .int (nI i)] v K := by
  have a1 := in_nI hi (show 6 < 1000000 by decide)
  unfold sIvl at g
  refine bX1_intervalOf_0 a1 (fun h => ?_) (fun h => ?_) <;> rw [cl_nI (by omega)] at h
  · rw [if_pos h] at g
    exact bX1_intervalOf_11 g
  · rw [if_neg h] at g
    refine bX1_intervalOf_13 a1 (fun h2 => ?_) (fun h2 => ?_) <;> rw [cl_nI (by omega)] at h2
    · rw [if_pos h2] at g
      exact bX1_intervalOf_24 (bX1_intervalOf_31 g)
    · rw [if_neg h2] at g
      exact bX1_intervalOf_29 (bX1_intervalOf_31 g)
/-- promises -/
theorem m_isOpenFrom {p : Nat} {day : Int32} (hp : p < 20) (g : K (.inl (some (.int (bi (v 48 p = 111 ∧ day ≤ v 47 p))))) v) : mm_M kX4_isOpenFrom [.ref 3, .int (nI p), .int day] v K := by
  have a1 := in_nI hp (show 20 < 1000000 by decide)
  have fin : ∀ y : Int32, y = bi (v 48 p = 111 ∧ day ≤ v 47 p) → mm_E kX4_isOpenFrom 26 [.ref 3, .int (nI p), .int day] [.int y] v 0 K := by
    intro y hy
    subst hy
    exact bX4_isOpenFrom_26 (nb_bi _) g
  refine bX4_isOpenFrom_0 a1 (fun h => ?_) (fun h => ?_) <;> rw [cl_nI (by omega)] at h
  · refine bX4_isOpenFrom_11 a1 (fun h2 => ?_) (fun h2 => ?_) <;> rw [cl_nI (by omega)] at h2
    · exact bX4_isOpenFrom_25 (fin _ (bi_f (fun q => i32_nlt.mpr q.2 h2)).symm)
    · exact bX4_isOpenFrom_21 (fin _ (bi_t ⟨h, i32_nlt.mp h2⟩).symm)
  · exact bX4_isOpenFrom_25 (fin _ (bi_f (fun q => h q.1)).symm)
/-- what is promised of an item for a day; q p: the quantities -/
def sProm (st du : Nat → Int32) (q : Nat → Int32) (day : Int32) (n : Nat) : Int32 := fo (fun p a => if st p = 111 ∧ day ≤ du p then a + q p else a) 0 n
theorem m_promisedFrom {n it : Nat} {day : Int32} (hn : n ≤ 20) (hi : it < 6) (hs : v 3 0 = nI n) (g : K (.inl (some (.int (sProm (v 48) (v 47) (fun p => v (50 + p) it) day n)))) v) : mm_M kX4_promisedFrom [.ref 3, .int (nI it), .int day] v K := by
  refine bX4_promisedFrom_0 ?_
  refine e_for0 (n := n) (E := fun p a => mm_E kX4_promisedFrom 5 [.ref 3, .int (nI it), .int day, .int a, .int (nI p)] [] v 0 K) (f := fun p a => if v 48 p = 111 ∧ day ≤ v 47 p then a + v (50 + p) it else a) ?_ ?_
  · intro p a hp ih
    refine bX4_promisedFrom_5 (fun h => absurd (hs ▸ h) (ge_nI hp (by omega))) (fun _ => ?_)
    refine bX4_promisedFrom_14 (by decide) (m_isOpenFrom (by omega) (mm_Kr 0 rfl ?_))
    refine bX4_promisedFrom_21 (fun h => ?_) (fun h => ?_)
    · refine bX4_promisedFrom_36 ?_
      rw [nI_1]
      rw [if_neg (bi_eq0.mp h)] at ih
      exact ih
    · refine bX4_promisedFrom_24 (in_nI (by omega) (by decide)) (in_nI hi (by decide)) (bX4_promisedFrom_36 ?_)
      rw [nI_1, cl_nI (by omega), cl_nI (by omega)]
      rw [if_pos (Classical.not_not.mp (fun q => h (bi_eq0.mpr q)))] at ih
      exact ih
  · exact bX4_promisedFrom_5 (fun _ => bX4_promisedFrom_42 g) (fun h => absurd (hs ▸ le_nI (Nat.le_refl n) (by omega)) h)
def sSum6 (q : Nat → Int32) : Int32 := fo (fun i a => a + q i) 0 6
theorem m_sumOf {p : Nat} (hp : p < 20) (g : K (.inl (some (.int (sSum6 (v (50 + p)))))) v) : mm_M kX4_sumOf [.ref 3, .int (nI p)] v K := by
  refine bX4_sumOf_0 ?_
  refine e_for0 (n := 6) (E := fun i a => mm_E kX4_sumOf 4 [.ref 3, .int (nI p), .int a, .int (nI i)] [] v 0 K) (f := fun i a => a + v (50 + p) i) ?_ ?_
  · intro i a hi ih
    refine bX4_sumOf_4 (fun h => absurd h (ge_nI hi (by decide))) (fun _ => bX4_sumOf_10 (in_nI hp (by decide)) (in_nI hi (by decide)) ?_)
    rw [nI_1, cl_nI (by omega), cl_nI (by omega)]
    exact ih
  · exact bX4_sumOf_4 (fun _ => bX4_sumOf_27 g) (fun h => absurd (le_nI (Nat.le_refl 6) (by decide)) h)
def sCnt (st : Nat → Int32) (c : Int32) (n : Nat) : Int32 := fo (fun p a => if st p = c then a + 1 else a) 0 n
end CS
