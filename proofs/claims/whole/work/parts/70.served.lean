/-! served: both divide the same numbers -/
section SV0
variable {k pc : Nat} {L S : List Value} {v : mmM} {c : Nat} {K : mmO → mmM → Prop} {np x : Nat}
theorem e_fdiv {a y : UInt32} (o : mm_op k pc = some (.fdiv, np, x)) (hy : decide (FP.fdiv a y &&& 0x7fffffff ≤ 0x7f800000) = true) (g : mm_E k np L (.float (FP.fdiv a y) :: S) v c K) : mm_E k pc L (.float y :: .float a :: S) v c K := by
  refine e_nx ?_ g
  unfold mm_stp
  rw [o]
  simp only [mm_ex]
  rw [if_pos hy]
theorem e_f2d {y : UInt32} (o : mm_op k pc = some (.f2d, np, x)) (hy : decide (FP.f2d y &&& 0x7fffffffffffffff ≤ 0x7ff0000000000000) = true) (g : mm_E k np L (.double (FP.f2d y) :: S) v c K) : mm_E k pc L (.float y :: S) v c K := by
  refine e_nx ?_ g
  unfold mm_stp
  rw [o]
  simp only [mm_ex]
  rw [if_pos hy]
theorem e_fret {y : UInt32} (o : mm_op k pc = some (.freturn, np, x)) (g : K (.inl (some (.float y))) v) : mm_E k pc L [.float y] v c K := by
  refine e_rt ?_ g
  unfold mm_stp
  rw [o]
  rfl
theorem e_dast {i n : Nat} {j : Int32} {y : UInt64} (o : mm_op k pc = some (.dastore, np, x)) (hs : mm_sh i = (5, n, 0, [])) (hi : i < mm_NW) (h : mm_in j n = true) (g : mm_E k np L S (mm_up (mm_up v i (2 * j.toNatClampNeg) (mm_dh y)) i (2 * j.toNatClampNeg + 1) (mm_dl y)) c K) : mm_E k pc L (.double y :: .int j :: .ref i :: S) v c K := by
  refine e_nx ?_ g
  unfold mm_stp
  rw [o]
  simp only [mm_ex, hs]
  rw [if_pos (by simp; exact hi), if_pos h]
theorem e_dald {i n : Nat} {j : Int32} (o : mm_op k pc = some (.daload, np, x)) (hs : mm_sh i = (5, n, 0, [])) (hi : i < mm_NW) (h : mm_in j n = true) (g : mm_E k np L (.double (mm_dj (v i (2 * j.toNatClampNeg)) (v i (2 * j.toNatClampNeg + 1))) :: S) v c K) : mm_E k pc L (.int j :: .ref i :: S) v c K := by
  refine e_nx ?_ g
  unfold mm_stp
  rw [o]
  simp only [mm_ex, hs]
  rw [if_pos (by simp; exact hi), if_pos h]
end SV0
/-- how many promises have a state; the share -/
def St.cs (s : St) (c : Nat) : Nat := sm (fun p => if s.st p = c then 1 else 0) s.np
def shr (a b : Nat) : UInt32 := FP.fdiv (FP.i2f (nI a)) (FP.i2f (nI b))
theorem shr_ok {a b : Nat} (ha : a ≤ 20) (hb : b ≤ 20) (h0 : b ≠ 0) : decide (shr a b &&& 0x7fffffff ≤ 0x7f800000) = true ∧ decide (FP.f2d (shr a b) &&& 0x7fffffffffffffff ≤ 0x7ff0000000000000) = true ∧ Op.cmpValue (FP.dcmp (FP.f2d (shr a b)) (FP.f2d (shr a b))) .l = 0 := by
  have := mm_rows (P := fun x => x % 21 = 0 ∨ (decide (shr (x / 21) (x % 21) &&& 0x7fffffff ≤ 0x7f800000) = true ∧ decide (FP.f2d (shr (x / 21) (x % 21)) &&& 0x7fffffffffffffff ≤ 0x7ff0000000000000) = true ∧ Op.cmpValue (FP.dcmp (FP.f2d (shr (x / 21) (x % 21))) (FP.f2d (shr (x / 21) (x % 21)))) .l = 0)) (n := 441) (by decide +kernel) (x := a * 21 + b) (by omega)
  rw [show (a * 21 + b) % 21 = b by omega, show (a * 21 + b) / 21 = a by omega] at this
  exact this.resolve_left h0
section SV
variable {n : Nat} {s : St} {w : mmM} {K : mmO → mmM → Prop}
theorem cs_le (c : Nat) : s.cs c ≤ s.np := by
  have := sm_le_mul (f := fun p => if s.st p = c then 1 else 0) (c := 1) (n := s.np) (fun p _ => by show (if _ then _ else _) ≤ _; split <;> omega)
  rw [Nat.mul_one] at this
  exact this
theorem cs_two {a b : Nat} (h : a ≠ b) : s.cs a + s.cs b ≤ s.np := by
  have := sm_le_mul (f := fun p => (if s.st p = a then 1 else 0) + (if s.st p = b then 1 else 0)) (c := 1) (n := s.np) (fun p _ => by
    show (if s.st p = a then 1 else 0) + (if s.st p = b then 1 else 0) ≤ 1
    by_cases q : s.st p = a
    · rw [if_pos q, if_neg (by omega)]
      exact Nat.le_refl _
    · rw [if_neg q]
      split <;> omega)
  rw [sm_add, Nat.mul_one] at this
  exact this
theorem sCnt_nI (h : Inw n s) {c : Nat} (hc : c < 1000) : sCnt (fun p => nI (s.st p)) (nI c) s.np = nI (s.cs c) := by
  have key : ∀ m, sCnt (fun p => nI (s.st p)) (nI c) m = nI (sm (fun p => if s.st p = c then 1 else 0) m) := by
    intro m
    induction m with
    | zero => rfl
    | succ m ih =>
      have e : (nI (s.st m) = nI c) ↔ s.st m = c := st_is h m c (by omega)
      show (if nI (s.st m) = nI c then sCnt (fun p => nI (s.st p)) (nI c) m + 1 else sCnt (fun p => nI (s.st p)) (nI c) m) = nI (sm (fun p => if s.st p = c then 1 else 0) m + (if s.st m = c then 1 else 0))
      rw [ih]
      by_cases q : s.st m = c
      · rw [if_pos (e.mpr q), if_pos q, nI_1]
      · rw [if_neg (fun z => q (e.mp z)), if_neg q, Nat.add_zero]
  exact key s.np
theorem k_servedC (h : Inw n s) (hw : RepC w s) (g0 : s.np - s.cs 111 = 0 → K (.inr 4) w) (g1 : s.np - s.cs 111 ≠ 0 → K (.inl (some (.float (shr (s.cs 112) (s.np - s.cs 111))))) w) : mm_M kX5_served [.ref 0] w K := by
  have hnp := h.np_
  have hc1 := cs_le (s := s) 111
  have hc2 := cs_two (s := s) (a := 111) (b := 112) (by decide)
  have e1 : sCnt (w 48) 111 s.np = nI (s.cs 111) := by rw [hw.st]; exact sCnt_nI h (by decide)
  have e2 : sCnt (w 48) 112 s.np = nI (s.cs 112) := by rw [hw.st]; exact sCnt_nI h (by decide)
  refine bX5_served_0 (by decide) (m_countIn hnp hw.np (mm_Kr 0 rfl ?_))
  rw [hw.np, e1]
  refine bX5_served_16 (fun q => ?_) (fun q => ?_) <;> rw [sub_nI hc1] at q <;> rw [sub_nI hc1]
  · exact bX5_served_22 (by decide) (g0 ((nI_eq (b := 0) (by omega) (by omega)).mp q))
  · have q : s.np - s.cs 111 ≠ 0 := fun z => q (by rw [z]; rfl)
    refine bX5_served_33 (by decide) (m_countIn hnp hw.np (mm_Kr 0 rfl ?_))
    rw [e2]
    refine e_run 3 (pc1 := 45) (L1 := [.ref 0, .int (nI (s.np - s.cs 111))]) (S1 := [.float (FP.i2f (nI (s.np - s.cs 111))), .float (FP.i2f (nI (s.cs 112)))]) (v1 := w) rfl ?_
    exact e_fdiv rfl (shr_ok (a := s.cs 112) (b := s.np - s.cs 111) (by omega) (by omega) q).1 (e_fret rfl (g1 q))
theorem k_servedL (h : Inw n s) (hw : RepC w s) (g0 : s.np - s.cs 111 = 0 → K (.inl (some (.int (nI 1)))) w) (g1 : s.np - s.cs 111 ≠ 0 → K (.inl (some (.int (nI 0)))) (mm_up (mm_up w 243 0 (mm_dh (FP.f2d (shr (s.cs 112) (s.np - s.cs 111))))) 243 1 (mm_dl (FP.f2d (shr (s.cs 112) (s.np - s.cs 111)))))) : mm_M kL_served [.ref 0, .ref 243] w K := by
  have hnp := h.np_
  have hc2 := cs_two (s := s) (a := 111) (b := 112) (by decide)
  refine bL_served_0 (by decide) (k_servedC h hw (fun q => ?_) (fun q => ?_))
  · show if (mm_hh kL_served).isEmpty then K (.inr 4) w else match mm_hd kL_served 4 with
      | some x => K (.inl (some (.int x))) w
      | none => False
    rw [if_neg (by decide), show mm_hd kL_served 4 = some (nI 1) by decide]
    exact g0 q
  · refine mm_Kr _ rfl ?_
    refine e_f2d rfl (shr_ok (a := s.cs 112) (b := s.np - s.cs 111) (by omega) (by omega) q).2.1 (e_dast rfl rfl (by decide) (by decide) ?_)
    refine e_run 1 (pc1 := 14) (L1 := [.ref 0, .ref 243, .retAddr 0]) (S1 := []) (v1 := _) rfl ?_
    exact bL_served_14 (g1 q)
theorem k_servedM (h : Inw n s) (hw : RepM w s) (g0 : s.np - s.cs 111 = 0 → K (.inl (some (.float FP.fconst0))) (mm_up w 81 26 1)) (g1 : s.np - s.cs 111 ≠ 0 → K (.inl (some (.float (shr (s.cs 112) (s.np - s.cs 111))))) (mm_up w 81 26 0)) : mm_M kX6_served [.ref 81] w K := by
  have hnp := h.np_
  have hc1 := cs_le (s := s) 111
  have hc2 := cs_two (s := s) (a := 111) (b := 112) (by decide)
  have ea : sm (fun p => if s.st p = 111 then 0 else 1) s.np = s.np - s.cs 111 := by
    have := sm_add (f := fun p => if s.st p = 111 then 0 else 1) (g := fun p => if s.st p = 111 then 1 else 0) (n := s.np)
    have e : sm (fun i => (if s.st i = 111 then 0 else 1) + (if s.st i = 111 then 1 else 0)) s.np = s.np := by
      have : ∀ m, sm (fun i => (if s.st i = 111 then 0 else 1) + (if s.st i = 111 then 1 else 0)) m = m := by
        intro m
        induction m with
        | zero => rfl
        | succ m ih =>
          show sm _ m + ((if s.st m = 111 then 0 else 1) + (if s.st m = 111 then 1 else 0)) = m + 1
          rw [ih]
          by_cases q : s.st m = 111
          · rw [if_pos q, if_pos q]
          · rw [if_neg q, if_neg q]
      exact this s.np
    rw [e] at this
    have : s.np = sm (fun p => if s.st p = 111 then 0 else 1) s.np + s.cs 111 := this
    omega
  refine bX6_served_0 ?_
  refine e_for0 (n := s.np) (a0 := ((0, 0) : Nat × Nat)) (f := fun p t => (t.1 + (if s.st p = 112 then 1 else 0), t.2 + (if s.st p = 111 then 0 else 1))) (E := fun p t => mm_E kX6_served 6 [.ref 81, .int (nI t.1), .int (nI t.2), .int (nI p)] [] w 0 K) ?_ ?_
  · intro p t hp ih
    have a1 := in_nI (show p < 20 by omega) (by decide)
    have es : w 121 (nI p).toNatClampNeg = nI (s.st p) := by rw [cl_nI (by omega), hw.st]
    have e1 : (nI (s.st p) = 111) ↔ s.st p = 111 := st_is h p 111 (by decide)
    have e2 : (nI (s.st p) = 112) ↔ s.st p = 112 := st_is h p 112 (by decide)
    have snd : ∀ y : Int32, nI t.1 + y = nI (t.1 + (if s.st p = 112 then 1 else 0)) → mm_E kX6_served 31 [.ref 81, .int (nI t.1), .int (nI t.2), .int (nI p)] [.int y, .int (nI t.1)] w 0 K := by
      intro y hy
      refine bX6_served_31 a1 (fun q => ?_) (fun q => ?_) <;> rw [es, e1] at q <;> rw [hy]
      · refine bX6_served_45 (bX6_served_50 ?_)
        rw [Int32.add_zero, nI_1]
        simp only [if_pos q, Nat.add_zero] at ih
        exact ih
      · refine bX6_served_49 (bX6_served_50 ?_)
        rw [nI_1, nI_1]
        simp only [if_neg q] at ih
        exact ih
    refine bX6_served_6 (fun q => absurd (hw.np ▸ q) (ge_nI hp (by omega))) (fun _ => bX6_served_14 a1 (fun q => ?_) (fun q => ?_)) <;> rw [es, e2] at q
    · exact bX6_served_26 (snd _ (by rw [if_pos q, nI_1]))
    · exact bX6_served_30 (snd _ (by rw [if_neg q, Int32.add_zero, Nat.add_zero]))
  · have ef : ∀ m, fo (fun p t => (t.1 + (if s.st p = 112 then 1 else 0), t.2 + (if s.st p = 111 then 0 else 1))) ((0, 0) : Nat × Nat) m = (sm (fun p => if s.st p = 112 then 1 else 0) m, sm (fun p => if s.st p = 111 then 0 else 1) m) := by
      intro m
      induction m with
      | zero => rfl
      | succ m ih =>
        show ((fo _ ((0, 0) : Nat × Nat) m).1 + _, (fo _ ((0, 0) : Nat × Nat) m).2 + _) = _
        rw [ih]
        rfl
    rw [ef]
    show mm_E kX6_served 6 [.ref 81, .int (nI (s.cs 112)), .int (nI (sm (fun p => if s.st p = 111 then 0 else 1) s.np)), .int (nI s.np)] [] w 0 K
    rw [ea]
    refine bX6_served_6 (fun _ => ?_) (fun q => absurd (hw.np ▸ le_nI (Nat.le_refl s.np) (by omega)) q)
    by_cases q : s.np - s.cs 111 = 0
    · rw [q]
      exact bX6_served_58 (fun _ => bX6_served_63 (bX6_served_68 (fun _ => bX6_served_75 (e_fret rfl (g0 q))) (fun z => absurd rfl z))) (fun z => absurd rfl z)
    · have hne : ¬ nI (s.np - s.cs 111) = 0 := fun z => q ((nI_eq (b := 0) (by omega) (by omega)).mp z)
      refine bX6_served_58 (fun z => absurd z hne) (fun _ => bX6_served_67 (bX6_served_68 (fun z => absurd z hne) (fun _ => ?_)))
      refine e_run 4 (pc1 := 83) (L1 := [.ref 81, .int (nI (s.cs 112)), .int (nI (s.np - s.cs 111)), .int (nI s.np)]) (S1 := [.float (FP.i2f (nI (s.np - s.cs 111))), .float (FP.i2f (nI (s.cs 112)))]) (v1 := mm_up w 81 26 0) rfl ?_
      exact e_fdiv rfl (shr_ok (a := s.cs 112) (b := s.np - s.cs 111) (by omega) (by omega) q).1 (e_fret rfl (g1 q))
end SV
