/-! rows of the memory; the class's lists: lots in order, promises, journal, lines -/
def mm_rw (v : mmM) (i : Nat) (r : Nat → Int32) : mmM := fun a => if a = i then r else v a
theorem rw_at {v : mmM} {i : Nat} {r : Nat → Int32} : mm_rw v i r i = r := if_pos rfl
theorem rw_ne {v : mmM} {i a : Nat} {r : Nat → Int32} (h : a ≠ i) : mm_rw v i r a = v a := if_neg h
theorem rw_self {v : mmM} {i : Nat} : mm_rw v i (v i) = v := by
  funext a
  by_cases h : a = i
  · subst h; exact rw_at
  · exact rw_ne h
theorem rw_rw {v : mmM} {i : Nat} {r r2 : Nat → Int32} : mm_rw (mm_rw v i r) i r2 = mm_rw v i r2 := by
  funext a
  by_cases h : a = i
  · subst h; rw [rw_at, rw_at]
  · rw [rw_ne h, rw_ne h, rw_ne h]
theorem up_rw {v : mmM} {i j : Nat} {x : Int32} : mm_up v i j x = mm_rw v i (upd (v i) j x) := by
  funext a
  by_cases h : a = i
  · subst h; rw [rw_at, mm_up_at]
  · rw [rw_ne h, mm_up_row h]
theorem up_of_rw {v : mmM} {i j : Nat} {r : Nat → Int32} {x : Int32} : mm_up (mm_rw v i r) i j x = mm_rw v i (upd r j x) := by
  rw [up_rw, rw_at, rw_rw]
theorem rw_comm {v : mmM} {i k : Nat} {r q : Nat → Int32} (h : i ≠ k) : mm_rw (mm_rw v i r) k q = mm_rw (mm_rw v k q) i r := by
  funext a
  by_cases h1 : a = k
  · subst h1; rw [rw_at, rw_ne (Ne.symm h), rw_at]
  · by_cases h2 : a = i
    · subst h2; rw [rw_ne h1, rw_at, rw_at]
    · rw [rw_ne h1, rw_ne h2, rw_ne h2, rw_ne h1]
section CL
variable {v w : mmM} {K : mmO → mmM → Prop}
/-- where a lot goes in the order: shifts those that expire later -/
def sIns (ex : Nat → Int32) (e : Int32) : Nat → (Nat → Int32) → Nat × (Nat → Int32)
  | 0, od => (0, od)
  | p + 1, od => if ex (od p).toNatClampNeg ≤ e then (p + 1, od) else sIns ex e p (upd od (p + 1) (od p))
def sOrd (ex : Nat → Int32) (e : Int32) (n : Nat) (od : Nat → Int32) : Nat → Int32 := upd (sIns ex e n od).2 (sIns ex e n od).1 (nI n)
theorem sIns_le (ex : Nat → Int32) (e : Int32) : ∀ (p : Nat) (od : Nat → Int32), (sIns ex e p od).1 ≤ p
  | 0, _ => Nat.le_refl 0
  | p + 1, od => by
    unfold sIns
    split
    · exact Nat.le_refl _
    · exact Nat.le_succ_of_le (sIns_le ex e p _)
theorem m_insLoop {n : Nat} {item e : Int32} (hn : n < 24) : ∀ (p : Nat) (od : Nat → Int32), p ≤ n → (∀ j, j < p → ∃ o, o < 24 ∧ od j = nI o) → K (.inl (some (.int (nI n)))) (mm_up (mm_rw w 18 (upd (sIns (w 17) e p od).2 (sIns (w 17) e p od).1 (nI n))) 2 0 (w 2 0 + 1)) →
    mm_E kX0_appendLot 22 [.ref 2, .int item, .int e, .int (nI n), .int (nI p)] [] (mm_rw w 18 od) 0 K
  | 0, od, _, _, g => by
    refine bX0_appendLot_22 (fun _ => bX0_appendLot_67 (in_nI (by omega) (by decide)) ?_) (fun h => absurd (le_nI (Nat.le_refl 0) (by decide)) h)
    rw [up_of_rw, cl_nI (by omega), rw_ne (by decide)]
    exact g
  | p + 1, od, hp, ho, g => by
    obtain ⟨o, ho1, ho2⟩ := ho p (by omega)
    have e1 : nI (p + 1) - 1 = nI p := nI_pred p
    refine bX0_appendLot_22 (fun h => absurd h (nI_nle (by omega) (by omega))) (fun _ => ?_)
    refine bX0_appendLot_27 (by rw [e1]; exact in_nI (by omega) (by decide)) (by rw [e1, cl_nI (by omega), rw_at, ho2]; exact in_nI ho1 (by decide)) (fun h => ?_) (fun h => ?_) <;> rw [e1, cl_nI (i := p) (by omega), rw_at, rw_ne (by decide)] at h
    · unfold sIns at g
      rw [if_pos h] at g
      refine bX0_appendLot_67 (in_nI (by omega) (by decide)) ?_
      rw [up_of_rw, cl_nI (by omega), rw_ne (by decide)]
      exact g
    · unfold sIns at g
      rw [if_neg h] at g
      refine bX0_appendLot_45 (by rw [e1]; exact in_nI (by omega) (by decide)) (in_nI (by omega) (by decide)) ?_
      rw [e1, cl_nI (i := p) (by omega), cl_nI (i := p + 1) (by omega), rw_at, up_of_rw, pk_m1]
      refine m_insLoop hn p _ (by omega) (fun j hj => ?_) g
      rw [pk_un (by omega)]
      exact ho j (by omega)
theorem m_appendLot {n : Nat} {item e : Int32} (hn : n < 24) (hs : v 2 0 = nI n) (ho : ∀ j, j < n → ∃ o, o < 24 ∧ v 18 j = nI o)
    (g : K (.inl (some (.int (nI n)))) (mm_up (mm_rw (mm_up (mm_up v 16 n item) 17 n e) 18 (sOrd (upd (v 17) n e) e n (v 18))) 2 0 (nI (n + 1)))) : mm_M kX0_appendLot [.ref 2, .int item, .int e] v K := by
  refine bX0_appendLot_0 (by rw [hs]; exact in_nI hn (by decide)) (by rw [hs]; exact in_nI hn (by decide)) ?_
  rw [hs, cl_nI (by omega)]
  have e0 : mm_up (mm_up v 16 n item) 17 n e = mm_rw (mm_up (mm_up v 16 n item) 17 n e) 18 (v 18) := by
    have : v 18 = (mm_up (mm_up v 16 n item) 17 n e) 18 := by rw [mm_up_row (by decide), mm_up_row (by decide)]
    rw [this, rw_self]
  rw [e0]
  refine m_insLoop hn n _ (Nat.le_refl _) ho ?_
  have e1 : (mm_up (mm_up v 16 n item) 17 n e) 17 = upd (v 17) n e := by rw [mm_up_at, mm_up_row (by decide)]
  have e2 : (mm_up (mm_up v 16 n item) 17 n e) 2 0 + 1 = nI (n + 1) := by rw [mm_up_row (by decide), mm_up_row (by decide), hs, nI_1]
  rw [e1, e2]
  exact g
/-- promises that lapse -/
def sLap (du : Nat → Int32) (day : Int32) (n : Nat) (st : Nat → Int32) : (Nat → Int32) × Int32 := fo (fun p a => if a.1 p = 111 ∧ du p < day then (upd a.1 p 108, a.2 + 1) else a) (st, 0) n
theorem m_lapse {n : Nat} {day : Int32} (hn : n ≤ 20) (hs : v 3 0 = nI n) (g : K (.inl (some (.int (sLap (v 47) day n (v 48)).2))) (mm_rw v 48 (sLap (v 47) day n (v 48)).1)) : mm_M kX4_lapseBefore [.ref 3, .int day] v K := by
  refine bX4_lapseBefore_0 ?_
  rw [show mm_E kX4_lapseBefore 4 [.ref 3, .int day, .int 0, .int 0] [] v 0 K = mm_E kX4_lapseBefore 4 [.ref 3, .int day, .int 0, .int 0] [] (mm_rw v 48 (v 48)) 0 K by rw [rw_self]]
  refine e_for0 (n := n) (a0 := (v 48, (0 : Int32))) (E := fun i a => mm_E kX4_lapseBefore 4 [.ref 3, .int day, .int a.2, .int (nI i)] [] (mm_rw v 48 a.1) 0 K) (f := fun p a => if a.1 p = 111 ∧ v 47 p < day then (upd a.1 p 108, a.2 + 1) else a) ?_ ?_
  · intro i a hi ih
    have hs' : mm_rw v 48 a.1 3 0 = nI n := by rw [rw_ne (by decide)]; exact hs
    refine bX4_lapseBefore_4 (fun h => absurd (hs' ▸ h) (ge_nI hi (by omega))) (fun _ => ?_)
    refine bX4_lapseBefore_12 (in_nI (by omega) (by decide)) (fun h => ?_) (fun h => ?_) <;> rw [cl_nI (by omega), rw_at] at h
    · refine bX4_lapseBefore_23 (in_nI (by omega) (by decide)) (fun h2 => ?_) (fun h2 => ?_) <;> rw [cl_nI (by omega), rw_ne (by decide)] at h2
      · refine bX4_lapseBefore_44 ?_
        rw [nI_1]
        rw [if_neg (fun q => i32_nlt.mpr h2 q.2)] at ih
        exact ih
      · refine bX4_lapseBefore_33 (in_nI (by omega) (by decide)) (bX4_lapseBefore_44 ?_)
        rw [nI_1, cl_nI (by omega), up_of_rw]
        rw [if_pos ⟨h, i32_nle.mp h2⟩] at ih
        exact ih
    · refine bX4_lapseBefore_44 ?_
      rw [nI_1]
      rw [if_neg (fun q => h q.1)] at ih
      exact ih
  · have hs' : mm_rw v 48 (sLap (v 47) day n (v 48)).1 3 0 = nI n := by rw [rw_ne (by decide)]; exact hs
    exact bX4_lapseBefore_4 (fun _ => bX4_lapseBefore_50 g) (fun h => absurd (hs' ▸ le_nI (Nat.le_refl n) (by omega)) h)
/-- the last promise, from n - 1 down, that is open from a day and has some of an item -/
def sLast (c : Nat → Bool) : Nat → Option Nat
  | 0 => none
  | p + 1 => if c p then some p else sLast c p
def cOpen (st du q : Nat → Int32) (day : Int32) (p : Nat) : Bool := decide ((st p = 111 ∧ day ≤ du p) ∧ 0 < q p)
theorem m_lastLoop {it : Nat} {day : Int32} (hi : it < 6) : ∀ n, n ≤ 20 → K (.inl (some (.int (match sLast (cOpen (v 48) (v 47) (fun p => v (50 + p) it) day) n with | some p => nI p | none => -1)))) v →
    mm_E kX4_lastOpenFor 7 [.ref 3, .int (nI it), .int day, .int (nI n - 1)] [] v 0 K
  | 0, _, g => bX4_lastOpenFor_7 (fun _ => bX4_lastOpenFor_39 g) (fun h => absurd (by decide) h)
  | n + 1, hn, g => by
    have e1 : nI (n + 1) - 1 = nI n := nI_pred n
    rw [e1]
    have hg : ∀ q : Bool, cOpen (v 48) (v 47) (fun p => v (50 + p) it) day n = q → K (.inl (some (.int (match (if q then some n else sLast (cOpen (v 48) (v 47) (fun p => v (50 + p) it) day) n) with | some p => nI p | none => -1)))) v := by
      intro q hq
      unfold sLast at g
      rw [hq] at g
      exact g
    have e2 : nI n + -1 = nI n - 1 := by rw [Int32.sub_eq_add_neg]
    refine bX4_lastOpenFor_7 (fun h => absurd h (nI_pos (by omega))) (fun _ => bX4_lastOpenFor_11 (by decide) (m_isOpenFrom (by omega) (mm_Kr 0 rfl ?_)))
    refine bX4_lastOpenFor_17 (fun h => ?_) (fun h => ?_)
    · refine bX4_lastOpenFor_33 ?_
      rw [e2]
      exact m_lastLoop hi n (by omega) (hg false (decide_eq_false (fun q => bi_eq0.mp h q.1)))
    · have h := Classical.not_not.mp (fun q => h (bi_eq0.mpr q))
      refine bX4_lastOpenFor_20 (in_nI (by omega) (by decide)) (in_nI hi (by decide)) (fun h2 => ?_) (fun h2 => ?_) <;> rw [cl_nI (by omega), cl_nI (by omega)] at h2
      · refine bX4_lastOpenFor_33 ?_
        rw [e2]
        exact m_lastLoop hi n (by omega) (hg false (decide_eq_false (fun q => i32_nlt.mpr h2 q.2)))
      · exact bX4_lastOpenFor_31 (hg true (decide_eq_true ⟨h, i32_nle.mp h2⟩))
theorem m_lastOpenFor {n it : Nat} {day : Int32} (hn : n ≤ 20) (hi : it < 6) (hs : v 3 0 = nI n) (g : K (.inl (some (.int (match sLast (cOpen (v 48) (v 47) (fun p => v (50 + p) it) day) n with | some p => nI p | none => -1)))) v) : mm_M kX4_lastOpenFor [.ref 3, .int (nI it), .int day] v K := by
  refine bX4_lastOpenFor_0 ?_
  rw [hs]
  exact m_lastLoop hi n hn g
/-- an entry of the journal -/
def cWr (v : mmM) (n : Nat) (kd lot fr to q day : Int32) : mmM := mm_up (mm_up (mm_up (mm_up (mm_up (mm_up (mm_up v 72 n kd) 73 n lot) 74 n fr) 75 n to) 76 n q) 77 n day) 4 0 (nI (n + 1))
theorem m_write {n : Nat} {kd lot fr to q day : Int32} (hn : n < 150) (hs : v 4 0 = nI n) (hk : vp_nar .char kd = kd) (g : K (.inl none) (cWr v n kd lot fr to q day)) : mm_M kX2_write [.ref 4, .int kd, .int lot, .int fr, .int to, .int q, .int day] v K := by
  have a1 : mm_in (v 4 0) 150 = true := by rw [hs]; exact in_nI hn (by decide)
  refine bX2_write_0 (fun _ => bX2_write_11 a1 hk a1 a1 a1 a1 a1 ?_) (fun h => absurd (hs ▸ nI_lt hn (by decide)) h)
  rw [hs, cl_nI (by omega), nI_1]
  exact g
/-- the quantities of a promise that is made -/
theorem m_pappend {n : Nat} {due : Int32} (hn : n < 20) (hs : v 3 0 = nI n) (g : K (.inl (some (.int (nI n)))) (mm_up (mm_rw (mm_up (mm_up v 47 n due) 48 n 111) (50 + n) (va_cpy (v 6) (v (50 + n)) 0 0 6)) 3 0 (nI (n + 1)))) : mm_M kX4_append [.ref 3, .int due, .ref 6] v K := by
  have a1 : mm_in (v 3 0) 20 = true := by rw [hs]; exact in_nI hn (by decide)
  refine bX4_append_0 a1 a1 a1 ?_
  rw [hs, cl_nI (by omega)]
  have e1 : mm_cp (mm_up (mm_up v 47 n due) 48 n 111) 6 (0 : Int32).toNatClampNeg (50 + n) (0 : Int32).toNatClampNeg (6 : Int32).toNatClampNeg = mm_rw (mm_up (mm_up v 47 n due) 48 n 111) (50 + n) (va_cpy (v 6) (v (50 + n)) 0 0 6) := by
    funext a
    by_cases h : a = 50 + n
    · subst h
      rw [rw_at, mm_cp_at, mm_up_row (by omega), mm_up_row (by omega), mm_up_row (by omega), mm_up_row (by omega)]
      rfl
    · rw [rw_ne h, mm_cp_row h]
  rw [e1, rw_ne (by omega), mm_up_row (by omega), mm_up_row (by omega), hs, nI_1]
  exact g
/-- the route -/
def rt (m : Nat) : Nat := if m / 10 % 2 = 0 then m else m / 10 * 10 + 9 - m % 10
theorem rt_lt {m : Nat} (h : m < 40) : rt m < 40 := mm_rows (P := fun m => rt m < 40) (by decide +kernel) h
theorem rt_rt {m : Nat} (h : m < 40) : rt (rt m) = m := mm_rows (P := fun m => rt (rt m) = m) (by decide +kernel) h
theorem rt_inj {a b : Nat} (ha : a < 40) (hb : b < 40) (h : rt a = rt b) : a = b := by rw [← rt_rt ha, ← rt_rt hb, h]
theorem rt_i {m : Nat} (h : m < 40) : (((nI m / 10) - (nI m / 10) / 2 * 2 = 0) ↔ m / 10 % 2 = 0) ∧ ((((nI m / 10) * 10) + 10) - 1) - (nI m - nI m / 10 * 10) = nI (m / 10 * 10 + 9 - m % 10) ∧ ((nI m / 10) * 10 + 9) - (nI m - nI m / 10 * 10) = nI (m / 10 * 10 + 9 - m % 10) ∧ nI m / 10 = nI (m / 10) ∧ nI m - nI m / 10 * 10 = nI (m % 10) :=
  mm_rows (P := fun m => (((nI m / 10) - (nI m / 10) / 2 * 2 = 0) ↔ m / 10 % 2 = 0) ∧ ((((nI m / 10) * 10) + 10) - 1) - (nI m - nI m / 10 * 10) = nI (m / 10 * 10 + 9 - m % 10) ∧ ((nI m / 10) * 10 + 9) - (nI m - nI m / 10 * 10) = nI (m / 10 * 10 + 9 - m % 10) ∧ nI m / 10 = nI (m / 10) ∧ nI m - nI m / 10 * 10 = nI (m % 10)) (by decide +kernel) h
theorem m_alongRoute {m : Nat} (h : m < 40) (g : K (.inl (some (.int (nI (rt m))))) v) : mm_M kX5_alongRoute [.int (nI m)] v K := by
  obtain ⟨r1, r2, -⟩ := rt_i h
  unfold rt at g
  refine bX5_alongRoute_0 (fun q => ?_) (fun q => ?_)
  · rw [if_pos (r1.mp q)] at g
    exact bX5_alongRoute_16 (bX5_alongRoute_31 g)
  · rw [if_neg (fun z => q (r1.mpr z))] at g
    refine bX5_alongRoute_20 (bX5_alongRoute_31 ?_)
    rw [r2]
    exact g
end CL
