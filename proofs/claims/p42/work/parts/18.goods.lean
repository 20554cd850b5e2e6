/-! class Goods, Items, Promises, Journal: what the small methods answer -/
section CG
variable {v : mmM} {K : mmO → mmM → Prop}
theorem m_lasts {l : Nat} {item day : Int32} (hl : l < 24) (g : K (.inl (some (.int (bi (v 16 l = item ∧ day ≤ v 17 l))))) v) : mm_M kX0_lasts [.ref 2, .int (nI l), .int item, .int day] v K := by
  have fin : ∀ y : Int32, y = bi (v 16 l = item ∧ day ≤ v 17 l) → mm_E kX0_lasts 25 [.ref 2, .int (nI l), .int item, .int day] [.int y] v 0 K := by
    intro y hy
    subst hy
    exact bX0_lasts_25 (nb_bi _) g
  refine bX0_lasts_0 (in_nI hl (by decide)) (fun h => ?_) (fun h => ?_) <;> rw [cl_nI (by omega)] at h
  · refine bX0_lasts_10 (in_nI hl (by decide)) (fun h2 => ?_) (fun h2 => ?_) <;> rw [cl_nI (by omega)] at h2
    · refine bX0_lasts_24 (fin _ (bi_f (fun q => ?_)).symm)
      exact i32_nlt.mpr q.2 h2
    · exact bX0_lasts_20 (fin _ (bi_t ⟨h, i32_nlt.mp h2⟩).symm)
  · refine bX0_lasts_24 (fin _ (bi_f (fun q => h q.1)).symm)
/-- the units of an item's lots that expire on a day or later -/
def sFrom (it ex un : Nat → Int32) (item day : Int32) (n : Nat) : Int32 := fo (fun l a => if it l = item ∧ day ≤ ex l then a + un l else a) 0 n
theorem m_unitsFrom {n : Nat} {item day : Int32} (hn : n ≤ 24) (hs : v 2 0 = nI n) (g : K (.inl (some (.int (sFrom (v 16) (v 17) (v 44) item day n)))) v) : mm_M kX0_unitsFrom [.ref 2, .int item, .int day] v K := by
  refine bX0_unitsFrom_0 ?_
  refine e_for0 (n := n) (E := fun i a => mm_E kX0_unitsFrom 5 [.ref 2, .int item, .int day, .int a, .int (nI i)] [] v 0 K) (f := fun l a => if v 16 l = item ∧ day ≤ v 17 l then a + v 44 l else a) ?_ ?_
  · intro i a hi ih
    refine bX0_unitsFrom_5 (fun h => absurd (hs ▸ h) (ge_nI hi (by omega))) (fun _ => ?_)
    refine bX0_unitsFrom_14 (by decide) (m_lasts (by omega) (mm_Kr 0 rfl ?_))
    refine bX0_unitsFrom_22 (fun h => ?_) (fun h => ?_)
    · refine bX0_unitsFrom_35 ?_
      rw [nI_1]
      rw [if_neg (bi_eq0.mp h)] at ih
      exact ih
    · refine bX0_unitsFrom_25 (in_nI (by omega) (by decide)) (bX0_unitsFrom_35 ?_)
      rw [nI_1, cl_nI (by omega)]
      have h := Classical.not_not.mp (fun q => h (bi_eq0.mpr q))
      rw [if_pos h] at ih
      exact ih
  · exact bX0_unitsFrom_5 (fun _ => bX0_unitsFrom_41 g) (fun h => absurd (hs ▸ le_nI (Nat.le_refl n) (by omega)) h)
def sBefore (it ex un : Nat → Int32) (item day : Int32) (n : Nat) : Int32 := fo (fun l a => if it l = item ∧ ex l < day then a + un l else a) 0 n
theorem m_unitsBefore {n : Nat} {item day : Int32} (hn : n ≤ 24) (hs : v 2 0 = nI n) (g : K (.inl (some (.int (sBefore (v 16) (v 17) (v 44) item day n)))) v) : mm_M kX0_unitsBefore [.ref 2, .int item, .int day] v K := by
  refine bX0_unitsBefore_0 ?_
  refine e_for0 (n := n) (E := fun i a => mm_E kX0_unitsBefore 5 [.ref 2, .int item, .int day, .int a, .int (nI i)] [] v 0 K) (f := fun l a => if v 16 l = item ∧ v 17 l < day then a + v 44 l else a) ?_ ?_
  · intro i a hi ih
    refine bX0_unitsBefore_5 (fun h => absurd (hs ▸ h) (ge_nI hi (by omega))) (fun _ => ?_)
    refine bX0_unitsBefore_14 (in_nI (by omega) (by decide)) (fun h => ?_) (fun h => ?_) <;> rw [cl_nI (by omega)] at h
    · refine bX0_unitsBefore_25 (in_nI (by omega) (by decide)) (fun h2 => ?_) (fun h2 => ?_) <;> rw [cl_nI (by omega)] at h2
      · refine bX0_unitsBefore_46 ?_
        rw [nI_1]
        rw [if_neg (fun q => i32_nlt.mpr h2 q.2)] at ih
        exact ih
      · refine bX0_unitsBefore_36 (in_nI (by omega) (by decide)) (bX0_unitsBefore_46 ?_)
        rw [nI_1, cl_nI (by omega)]
        rw [if_pos ⟨h, i32_nle.mp h2⟩] at ih
        exact ih
    · refine bX0_unitsBefore_46 ?_
      rw [nI_1]
      rw [if_neg (fun q => h q.1)] at ih
      exact ih
  · exact bX0_unitsBefore_5 (fun _ => bX0_unitsBefore_52 g) (fun h => absurd (hs ▸ le_nI (Nat.le_refl n) (by omega)) h)
end CG
