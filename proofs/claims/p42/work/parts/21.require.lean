/-! what calls ask for: the class's, and the model's -/
theorem nI_is {x : Int32} {n : Nat} (hn : n < 1000000) (h0 : ¬ x < 0) (h1 : x < nI n) : ∃ i, i < n ∧ x = nI i := by
  obtain ⟨j, hj, e⟩ := nI_of h0
  subst e
  refine ⟨j, ?_, rfl⟩
  rw [Int32.lt_iff_toInt_lt, nI_toInt hj, nI_toInt (by omega)] at h1
  omega
theorem nI_no1 {x : Int32} {n : Nat} (hn : n < 1000000) (h : x < 0) : ∀ i, i < n → x ≠ nI i := fun i hi e => nI_pos (show i < 2 ^ 31 by omega) (e ▸ h)
theorem nI_no2 {x : Int32} {n : Nat} (hn : n < 1000000) (h : ¬ x < nI n) : ∀ i, i < n → x ≠ nI i := fun i hi e => h (by rw [e]; exact nI_lt hi (by omega))
theorem nI_inj {a b : Nat} (ha : a < 1000000) (hb : b < 1000000) (h : nI a = nI b) : a = b := (nI_eq (by omega) (by omega)).mp h
theorem nI_lti {a b : Nat} (ha : a < 1000000) (hb : b < 1000000) : nI a < nI b ↔ a < b := nI_ltI (by omega) (by omega)
theorem nI_lei {a b : Nat} (ha : a < 1000000) (hb : b < 1000000) : nI a ≤ nI b ↔ a ≤ b := nI_leI (by omega) (by omega)
section CR
variable {v : mmM} {K : mmO → mmM → Prop} {x : Int32} {n : Nat}
theorem m_rItem (hn : n ≤ 6) (hs : v 1 0 = nI n) (gx : (∀ i, i < n → x ≠ nI i) → K (.inr 2) v) (g : ∀ i, i < n → x = nI i → K (.inl none) v) : mm_M kX5_requireItem [.ref 0, .int x] v K := by
  refine bX5_requireItem_0 (fun h => bX5_requireItem_15 (by decide) (gx (nI_no1 (by omega) h))) (fun h0 => bX5_requireItem_4 (fun h => ?_) (fun h => bX5_requireItem_15 (by decide) (gx (nI_no2 (by omega) (hs ▸ h)))))
  obtain ⟨i, hi, e⟩ := nI_is (by omega) h0 (hs ▸ h)
  exact bX5_requireItem_26 (g i hi e)
theorem m_rBin (gx : (∀ i, i < 40 → x ≠ nI i) → K (.inr 2) v) (g : ∀ i, i < 40 → x = nI i → K (.inl none) v) : mm_M kX5_requireBin [.ref 0, .int x] v K := by
  refine bX5_requireBin_0 (fun h => bX5_requireBin_10 (by decide) (gx (nI_no1 (by omega) h))) (fun h0 => bX5_requireBin_4 (fun h => ?_) (fun h => bX5_requireBin_10 (by decide) (gx (nI_no2 (n := 40) (by omega) h))))
  obtain ⟨i, hi, e⟩ := nI_is (n := 40) (by omega) h0 h
  exact bX5_requireBin_21 (g i hi e)
theorem m_rLot (hn : n ≤ 24) (hs : v 2 0 = nI n) (gx : (∀ i, i < n → x ≠ nI i) → K (.inr 2) v) (g : ∀ i, i < n → x = nI i → K (.inl none) v) : mm_M kX5_requireLot [.ref 0, .int x] v K := by
  refine bX5_requireLot_0 (fun h => bX5_requireLot_15 (by decide) (gx (nI_no1 (by omega) h))) (fun h0 => bX5_requireLot_4 (fun h => ?_) (fun h => bX5_requireLot_15 (by decide) (gx (nI_no2 (by omega) (hs ▸ h)))))
  obtain ⟨i, hi, e⟩ := nI_is (by omega) h0 (hs ▸ h)
  exact bX5_requireLot_25 (g i hi e)
theorem m_rPromise (hn : n ≤ 20) (hs : v 3 0 = nI n) (gx : (∀ i, i < n → x ≠ nI i) → K (.inr 2) v) (g : ∀ i, i < n → x = nI i → K (.inl none) v) : mm_M kX5_requirePromise [.ref 0, .int x] v K := by
  refine bX5_requirePromise_0 (fun h => bX5_requirePromise_15 (by decide) (gx (nI_no1 (by omega) h))) (fun h0 => bX5_requirePromise_4 (fun h => ?_) (fun h => bX5_requirePromise_15 (by decide) (gx (nI_no2 (by omega) (hs ▸ h)))))
  obtain ⟨i, hi, e⟩ := nI_is (by omega) h0 (hs ▸ h)
  exact bX5_requirePromise_26 (g i hi e)
theorem m_rEntry (hn : n ≤ 150) (hs : v 4 0 = nI n) (gx : (∀ i, i < n → x ≠ nI i) → K (.inr 2) v) (g : ∀ i, i < n → x = nI i → K (.inl none) v) : mm_M kX5_requireEntry [.ref 0, .int x] v K := by
  refine bX5_requireEntry_0 (fun h => bX5_requireEntry_15 (by decide) (gx (nI_no1 (by omega) h))) (fun h0 => bX5_requireEntry_4 (fun h => ?_) (fun h => bX5_requireEntry_15 (by decide) (gx (nI_no2 (by omega) (hs ▸ h)))))
  obtain ⟨i, hi, e⟩ := nI_is (by omega) h0 (hs ▸ h)
  exact bX5_requireEntry_26 (g i hi e)
theorem m_rLine (hn : n ≤ 60) (hs : v 5 0 = nI n) (gx : (∀ i, i < n → x ≠ nI i) → K (.inr 4) v) (g : ∀ i, i < n → x = nI i → K (.inl none) v) : mm_M kX5_requireLine [.ref 0, .int x] v K := by
  refine bX5_requireLine_0 (fun h => bX5_requireLine_15 (by decide) (gx (nI_no1 (by omega) h))) (fun h0 => bX5_requireLine_4 (fun h => ?_) (fun h => bX5_requireLine_15 (by decide) (gx (nI_no2 (by omega) (hs ▸ h)))))
  obtain ⟨i, hi, e⟩ := nI_is (by omega) h0 (hs ▸ h)
  exact bX5_requireLine_26 (g i hi e)
/-- between two numbers -/
def bt (a b : Nat) (x : Int32) : Prop := ∃ i, a ≤ i ∧ i ≤ b ∧ x = nI i
theorem bt_no1 {a b : Nat} (ha : a < 1000000) (hb : b < 1000000) (h : x < nI a) : ¬ bt a b x := by
  rintro ⟨i, h1, h2, e⟩
  rw [e, nI_lti (by omega) ha] at h
  omega
theorem bt_no2 {a b : Nat} (ha : a < 1000000) (hb : b < 1000000) (h : nI b < x) : ¬ bt a b x := by
  rintro ⟨i, h1, h2, e⟩
  rw [e, nI_lti hb (by omega)] at h
  omega
theorem bt_yes {a b : Nat} (ha : a < 1000000) (hb : b < 1000000) (h : nI a ≤ x) (h2 : x ≤ nI b) : bt a b x := by
  rw [Int32.le_iff_toInt_le, nI_toInt (by omega)] at h
  have h0 : ¬ x < 0 := by
    rw [Int32.lt_iff_toInt_lt]
    show ¬ x.toInt < 0
    omega
  obtain ⟨j, hj, e⟩ := nI_of h0
  subst e
  rw [Int32.le_iff_toInt_le, nI_toInt hj, nI_toInt (by omega)] at h2
  rw [nI_toInt hj] at h
  exact ⟨j, by omega, by omega, rfl⟩
theorem m_rBetween {a b : Nat} (ha : a < 1000000) (hb : b < 1000000) (gx : ¬ bt a b x → K (.inr 0) v) (g : bt a b x → K (.inl none) v) : mm_M kX5_requireBetween [.ref 0, .int x, .int (nI a), .int (nI b)] v K := by
  refine bX5_requireBetween_0 (fun h => bX5_requireBetween_10 (by decide) (gx (bt_no1 ha hb h))) (fun h0 => bX5_requireBetween_5 (fun h => ?_) (fun h => bX5_requireBetween_10 (by decide) (gx (bt_no2 ha hb (i32_nle.mp h)))))
  exact bX5_requireBetween_21 (g (bt_yes ha hb (i32_nlt.mp h0) h))
theorem m_rOpen {p : Nat} (hp : p < 20) (gx : v 48 p ≠ 111 → K (.inr 1) v) (g : v 48 p = 111 → K (.inl none) v) : mm_M kX5_requireOpen [.ref 0, .int (nI p)] v K := by
  refine bX5_requireOpen_0 (in_nI hp (by decide)) (fun h => ?_) (fun h => ?_) <;> rw [cl_nI (by omega)] at h
  · exact bX5_requireOpen_25 (g h)
  · exact bX5_requireOpen_14 (by decide) (gx h)
theorem m_rEntrySpace {e : Nat} (hn : n ≤ 150) (he : e ≤ 1000) (hs : v 4 0 = nI n) (gx : 150 < n + e → K (.inr 1) v) (g : n + e ≤ 150 → K (.inl none) v) : mm_M kX5_requireEntrySpace [.ref 0, .int (nI e)] v K := by
  refine bX5_requireEntrySpace_0 (fun h => ?_) (fun h => ?_) <;> rw [hs, nI_add, show (150 : Int32) = nI 150 from rfl, nI_lei (by omega) (by omega)] at h
  · exact bX5_requireEntrySpace_26 (g h)
  · exact bX5_requireEntrySpace_15 (by decide) (gx (by omega))
theorem m_rBinSpace {b : Nat} (hb : b < 40) (gx : ¬ v 45 b + x ≤ 30 → K (.inr 3) v) (g : v 45 b + x ≤ 30 → K (.inl none) v) : mm_M kX5_requireBinSpace [.ref 0, .int (nI b), .int x] v K := by
  refine bX5_requireBinSpace_0 (in_nI hb (by decide)) (fun h => ?_) (fun h => ?_) <;> rw [cl_nI (by omega)] at h
  · exact bX5_requireBinSpace_27 (g h)
  · exact bX5_requireBinSpace_16 (by decide) (gx h)
/-- units that leave a bin -/
def cTk (v : mmM) (n : Nat) (kd : Int32) (l b : Nat) (q : Int32) : mmM := cWr (cCh v l b (-q)) n kd (nI l) (nI b) (-1) q (v 0 7)
theorem m_takeOut {l b : Nat} {kd q : Int32} (hl : l < 24) (hb : b < 40) (hn : n < 150) (hs : v 4 0 = nI n) (hk : vp_nar .char kd = kd) (g : K (.inl none) (cTk v n kd l b q)) : mm_M kX5_takeOut [.ref 0, .int kd, .int (nI l), .int (nI b), .int q] v K := by
  refine bX5_takeOut_0 (by decide) (m_change hl hb (mm_Kv 0 rfl ?_))
  have e1 : cCh v l b (-q) 4 0 = nI n := by
    unfold cCh
    rw [mm_up_row (by decide), mm_up_row (by decide), mm_up_row (by omega)]
    exact hs
  have e2 : cCh v l b (-q) 0 7 = v 0 7 := by
    unfold cCh
    rw [mm_up_row (by decide), mm_up_row (by decide), mm_up_row (by omega)]
  refine bX5_takeOut_12 (by decide) (m_write hn e1 hk (mm_Kv 0 rfl ?_))
  rw [e2]
  exact bX5_takeOut_29 g
/-- the journal's sums -/
def sIn (lt fr to q : Nat → Int32) (l b : Int32) (n : Nat) : Int32 := fo (fun e a => let a1 := if lt e = l ∧ to e = b then a + q e else a; if lt e = l ∧ fr e = b then a1 - q e else a1) 0 n
theorem m_unitsIn {l b : Int32} (hn : n ≤ 150) (hs : v 4 0 = nI n) (g : K (.inl (some (.int (sIn (v 73) (v 74) (v 75) (v 76) l b n)))) v) : mm_M kX2_unitsIn [.ref 4, .int l, .int b] v K := by
  refine bX2_unitsIn_0 ?_
  refine e_for0 (n := n) (E := fun i a => mm_E kX2_unitsIn 5 [.ref 4, .int l, .int b, .int a, .int (nI i)] [] v 0 K) (f := fun e a => let a1 := if v 73 e = l ∧ v 75 e = b then a + v 76 e else a; if v 73 e = l ∧ v 74 e = b then a1 - v 76 e else a1) ?_ ?_
  · intro i a hi ih
    have a1 := in_nI (show i < 150 by omega) (by decide)
    have mid : ∀ y : Int32, y = (if v 73 i = l ∧ v 75 i = b then a + v 76 i else a) → mm_E kX2_unitsIn 46 [.ref 4, .int l, .int b, .int y, .int (nI i)] [] v 0 K := by
      intro y hy
      simp only at ih
      rw [← hy] at ih
      refine bX2_unitsIn_46 a1 (fun h => ?_) (fun h => ?_) <;> rw [cl_nI (by omega)] at h
      · refine bX2_unitsIn_57 a1 (fun h2 => ?_) (fun h2 => ?_) <;> rw [cl_nI (by omega)] at h2
        · refine bX2_unitsIn_68 a1 (bX2_unitsIn_78 ?_)
          rw [nI_1, cl_nI (by omega)]
          rw [if_pos ⟨h, h2⟩] at ih
          exact ih
        · refine bX2_unitsIn_78 ?_
          rw [nI_1]
          rw [if_neg (fun q => h2 q.2)] at ih
          exact ih
      · refine bX2_unitsIn_78 ?_
        rw [nI_1]
        rw [if_neg (fun q => h q.1)] at ih
        exact ih
    refine bX2_unitsIn_5 (fun h => absurd (hs ▸ h) (ge_nI hi (by omega))) (fun _ => ?_)
    refine bX2_unitsIn_14 a1 (fun h => ?_) (fun h => ?_) <;> rw [cl_nI (by omega)] at h
    · refine bX2_unitsIn_25 a1 (fun h2 => ?_) (fun h2 => ?_) <;> rw [cl_nI (by omega)] at h2
      · refine bX2_unitsIn_36 a1 (mid _ ?_)
        rw [if_pos ⟨h, h2⟩, cl_nI (by omega)]
      · exact mid _ (by rw [if_neg (fun q => h2 q.2)])
    · exact mid _ (by rw [if_neg (fun q => h q.1)])
  · exact bX2_unitsIn_5 (fun _ => bX2_unitsIn_84 g) (fun h => absurd (hs ▸ le_nI (Nat.le_refl n) (by omega)) h)
def sGain (fr to q : Nat → Int32) (e : Nat) : Int32 := (if to e = -1 then 0 else q e) - (if fr e = -1 then 0 else q e)
theorem m_unitsGained {e : Nat} (he : e < 150) (g : K (.inl (some (.int (sGain (v 74) (v 75) (v 76) e)))) v) : mm_M kX2_unitsGained [.ref 4, .int (nI e)] v K := by
  have a1 := in_nI he (show 150 < 1000000 by decide)
  unfold sGain at g
  have snd : ∀ y : Int32, y = (if v 75 e = -1 then 0 else v 76 e) → ∀ l2 l3, mm_E kX2_unitsGained 20 [.ref 4, .int (nI e), l2, l3] [.int y] v 0 K := by
    intro y hy l2 l3
    rw [← hy] at g
    refine bX2_unitsGained_20 a1 (fun h => ?_) (fun h => ?_) <;> rw [cl_nI (by omega)] at h
    · rw [if_pos h] at g
      exact bX2_unitsGained_31 (bX2_unitsGained_41 g)
    · rw [if_neg h] at g
      refine bX2_unitsGained_35 a1 (bX2_unitsGained_41 ?_)
      rw [cl_nI (by omega)]
      exact g
  refine bX2_unitsGained_0 a1 (fun h => ?_) (fun h => ?_) <;> rw [cl_nI (by omega)] at h
  · exact bX2_unitsGained_10 (snd _ (by rw [if_pos h]) _ _)
  · refine bX2_unitsGained_14 a1 (snd _ ?_ _ _)
    rw [if_neg h, cl_nI (by omega)]
def sEnd (lt fr to q dy : Nat → Int32) (l day : Int32) (n : Nat) : Int32 := fo (fun e a => if lt e = l ∧ dy e ≤ day then a + sGain fr to q e else a) 0 n
theorem m_unitsAtEndOf {l day : Int32} (hn : n ≤ 150) (hs : v 4 0 = nI n) (g : K (.inl (some (.int (sEnd (v 73) (v 74) (v 75) (v 76) (v 77) l day n)))) v) : mm_M kX2_unitsAtEndOf [.ref 4, .int l, .int day] v K := by
  refine bX2_unitsAtEndOf_0 ?_
  refine e_for0 (n := n) (E := fun i a => mm_E kX2_unitsAtEndOf 5 [.ref 4, .int l, .int day, .int a, .int (nI i)] [] v 0 K) (f := fun e a => if v 73 e = l ∧ v 77 e ≤ day then a + sGain (v 74) (v 75) (v 76) e else a) ?_ ?_
  · intro i a hi ih
    have a1 := in_nI (show i < 150 by omega) (by decide)
    refine bX2_unitsAtEndOf_5 (fun h => absurd (hs ▸ h) (ge_nI hi (by omega))) (fun _ => ?_)
    refine bX2_unitsAtEndOf_14 a1 (fun h => ?_) (fun h => ?_) <;> rw [cl_nI (by omega)] at h
    · refine bX2_unitsAtEndOf_25 a1 (fun h2 => ?_) (fun h2 => ?_) <;> rw [cl_nI (by omega)] at h2
      · refine bX2_unitsAtEndOf_45 ?_
        rw [nI_1]
        rw [if_neg (fun q => i32_nlt.mpr q.2 h2)] at ih
        exact ih
      · refine bX2_unitsAtEndOf_36 (by decide) (m_unitsGained (by omega) (mm_Kr 0 rfl (bX2_unitsAtEndOf_43 (bX2_unitsAtEndOf_45 ?_))))
        rw [nI_1]
        rw [if_pos ⟨h, i32_nlt.mp h2⟩] at ih
        exact ih
    · refine bX2_unitsAtEndOf_45 ?_
      rw [nI_1]
      rw [if_neg (fun q => h q.1)] at ih
      exact ih
  · exact bX2_unitsAtEndOf_5 (fun _ => bX2_unitsAtEndOf_51 g) (fun h => absurd (hs ▸ le_nI (Nat.le_refl n) (by omega)) h)
end CR
