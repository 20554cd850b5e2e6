/-! addItem, addSubstitute, cancel, pass -/
def updN (f : Nat → Nat) (n x : Nat) : Nat → Nat := fun j => if j = n then x else f j
theorem updN_at {f : Nat → Nat} {n x : Nat} : updN f n x n = x := if_pos rfl
theorem updN_ne {f : Nat → Nat} {n x j : Nat} (h : j ≠ n) : updN f n x j = f j := if_neg h
theorem upd_nI {f : Nat → Nat} {n x : Nat} : upd (fun j => nI (f j)) n (nI x) = fun j => nI (updN f n x j) := by
  funext j
  unfold upd updN
  by_cases h : j = n
  · rw [if_pos h, if_pos h]
  · rw [if_neg h, if_neg h]
theorem row_nI {v : mmM} {i n x : Nat} {f : Nat → Nat} (h : v i = fun j => nI (f j)) : mm_up v i n (nI x) i = fun j => nI (updN f n x j) := by rw [mm_up_at, h, upd_nI]
theorem up_ob {v : mmM} {i j k : Nat} {x : Int32} (h : k ≠ j) : mm_up v i j x i k = v i k := by rw [mm_up_at]; exact if_neg h
section H1
variable {n : Nat} {s : St} {x y z : Int32}
theorem cat_or (x : Int32) : (∃ c, (c = 65 ∨ c = 66 ∨ c = 67) ∧ x = nI c) ∨ (x ≠ 65 ∧ x ≠ 66 ∧ x ≠ 67) := by
  by_cases h1 : x = 65
  · exact Or.inl ⟨65, Or.inl rfl, h1⟩
  · by_cases h2 : x = 66
    · exact Or.inl ⟨66, Or.inr (Or.inl rfl), h2⟩
    · by_cases h3 : x = 67
      · exact Or.inl ⟨67, Or.inr (Or.inr rfl), h3⟩
      · exact Or.inr ⟨h1, h2, h3⟩
theorem k_addItemC {c : Nat} {v : mmM} {K : mmO → mmM → Prop} (hc : c = 65 ∨ c = 66 ∨ c = 67) (g : mm_E kX5_addItem 28 [.ref 0, .int (nI c)] [] v 0 K) : mm_M kX5_addItem [.ref 0, .int (nI c)] v K := by
  refine bX5_addItem_0 (fun _ => g) (fun h1 => bX5_addItem_6 (fun _ => g) (fun h2 => bX5_addItem_12 (fun _ => g) (fun h3 => ?_)))
  rcases hc with e | e | e <;> subst e
  · exact absurd rfl h1
  · exact absurd rfl h2
  · exact absurd rfl h3
theorem rk_row {r : Nat → Nat → Nat} {i j x : Nat} : (fun a b => if a = i then updN (r i) j x b else r a b) i = updN (r i) j x := by
  funext b
  show (if i = i then _ else _) = _
  rw [if_pos rfl]
def upd2 (r : Nat → Nat → Nat) (i j x : Nat) : Nat → Nat → Nat := fun a b => if a = i ∧ b = j then x else r a b
theorem upd2_row {r : Nat → Nat → Nat} {i j x : Nat} : upd2 r i j x i = updN (r i) j x := by
  funext b
  unfold upd2 updN
  by_cases h : b = j
  · rw [if_pos ⟨rfl, h⟩, if_pos h]
  · rw [if_neg (fun q => h q.2), if_neg h]
theorem upd2_ne {r : Nat → Nat → Nat} {i j x a : Nat} (h : a ≠ i) : upd2 r i j x a = r a := by
  funext b
  exact if_neg (fun q => h q.1)
/-- rows of a table after one of its numbers changed -/
theorem rows_nI {v : mmM} {c m i j x : Nat} {r : Nat → Nat → Nat} (h : ∀ a, a < m → v (c + a) = fun b => nI (r a b)) (hi : i < m) : ∀ a, a < m → mm_up v (c + i) j (nI x) (c + a) = fun b => nI (upd2 r i j x a b) := by
  intro a ha
  by_cases e : a = i
  · subst e
    rw [row_nI (h a ha), upd2_row]
  · rw [mm_up_row (by omega), h a ha, upd2_ne e]
theorem sSubs_eq {r : Nat → Nat} (hr : ∀ j, r j ≤ 9) : ∀ m, sSubs (fun j => nI (r j)) m = nI (sm (fun j => if r j = 0 then 0 else 1) m)
  | 0 => rfl
  | m + 1 => by
    have e : (nI (r m) = 0) ↔ r m = 0 := nI_eq (b := 0) (by have := hr m; omega) (by omega)
    show (if nI (r m) = 0 then sSubs (fun j => nI (r j)) m else sSubs (fun j => nI (r j)) m + 1) = nI (sm (fun j => if r j = 0 then 0 else 1) m + (if r m = 0 then 0 else 1))
    rw [sSubs_eq hr m]
    by_cases q : r m = 0
    · rw [if_pos (e.mpr q), if_pos q, Nat.add_zero]
    · rw [if_neg (fun z => q (e.mp z)), if_neg q, nI_1]
theorem op_addSubstitute (h : Inv n s) : Op kX5_addSubstitute kL_substitutes n [.int x, .int y, .int z] s (XJ s) := by
  have h1 := h.ni_
  have b1 : (1 : Int32) = nI 1 := rfl
  have b9 : (9 : Int32) = nI 9 := rfl
  rcases is_or x s.ni with ⟨i, hi, e⟩ | hx
  · subst e
    rcases is_or y s.ni with ⟨j, hj, e⟩ | hy
    · subst e
      have a1 := in_nI (show i < 6 by omega) (by decide)
      have a2 := in_nI (show j < 6 by omega) (by decide)
      by_cases hz : bt 1 9 z
      · obtain ⟨k, hk1, hk9, e⟩ := hz
        subst e
        by_cases hij : i = j
        · subst hij
          refine Op.no 3 h (by decide) (fun w hw K hK => ?_)
          · refine bX5_addSubstitute_0 (by decide) (k_rItem h1 hw.ni hi (mm_Kv 1 rfl (bX5_addSubstitute_5 (by decide) (k_rItem h1 hw.ni hi (mm_Kv 2 rfl (bX5_addSubstitute_10 (by decide) ?_))))))
            refine k_bt (a := 1) (b := 9) (by decide) (by decide) ⟨k, hk1, hk9, rfl⟩ (mm_Kv 3 rfl (bX5_addSubstitute_18 (fun _ => bX5_addSubstitute_23 (by decide) (hK _ hw fC.rfl)) (fun q => absurd rfl q)))
        · have hne : ¬ nI i = nI j := fun q => hij ((nI_eq (by omega) (by omega)).mp q)
          have hr := h.rk_ i j
          by_cases hr0 : s.rk i j = 0
          · have hr' : ∀ a, upd2 s.rk i j k i a ≤ 9 := fun a => by
              unfold upd2
              split
              · exact hk9
              · exact h.rk_ i a
            have hi2 : Inv n (s.set 6 (upd2 s.rk i j k)) := by
              refine ⟨h.1.c_rk (fun a b => ?_) (fun a => ?_), fun a d ha hd => h.cv_ a d ha hd⟩
              · unfold upd2
                split
                · exact hk9
                · exact h.rk_ a b
              · unfold upd2
                rw [if_neg (by omega)]
                exact h.rk0_ a
            refine Op.ok _ (nI (sm (fun b => if upd2 s.rk i j k i b = 0 then 0 else 1) s.ni)) hi2 ⟨nI_nn (by have := sm_le_mul (f := fun b => if upd2 s.rk i j k i b = 0 then 0 else 1) (c := 1) (n := s.ni) (fun b _ => by show (if _ then _ else _) ≤ _; split <;> omega); omega), rfl, fun hj => hj⟩ (fun w hw K hK => ?_)
            · refine bX5_addSubstitute_0 (by decide) (k_rItem h1 hw.ni hi (mm_Kv 1 rfl (bX5_addSubstitute_5 (by decide) (k_rItem h1 hw.ni hj (mm_Kv 2 rfl (bX5_addSubstitute_10 (by decide) ?_))))))
              refine k_bt (a := 1) (b := 9) (by decide) (by decide) ⟨k, hk1, hk9, rfl⟩ (mm_Kv 3 rfl (bX5_addSubstitute_18 (fun q => absurd q hne) (fun _ => ?_)))
              refine bX5_addSubstitute_33 a1 a2 (fun _ => ?_) (fun q => absurd ?_ q)
              · refine bX5_addSubstitute_57 a1 a2 (by decide) ?_
                rw [cl_nI (by omega), cl_nI (by omega)]
                have hw2 : RepC (mm_up w (10 + i) j (nI k)) (s.set 6 (upd2 s.rk i j k)) := hw.c_rk (fun a ha => mm_up_row (by omega)) (rows_nI hw.rk (by omega))
                refine m_substitutesOf h1 (by omega) hw2.ni (mm_Kr 3 rfl (bX5_addSubstitute_77 ?_))
                rw [hw2.rk i (by omega)]
                rw [show (s.set 6 (upd2 s.rk i j k)).rk i = upd2 s.rk i j k i from rfl, sSubs_eq hr']
                exact hK _ hw2 (fun a ha => mm_up_row (by omega))
              · rw [cl_nI (by omega), cl_nI (by omega), hw.rk i (by omega)]
                show nI (s.rk i j) = 0
                rw [hr0]
                rfl
          · refine Op.no 1 h (by decide) (fun w hw K hK => ?_)
            · refine bX5_addSubstitute_0 (by decide) (k_rItem h1 hw.ni hi (mm_Kv 1 rfl (bX5_addSubstitute_5 (by decide) (k_rItem h1 hw.ni hj (mm_Kv 2 rfl (bX5_addSubstitute_10 (by decide) ?_))))))
              refine k_bt (a := 1) (b := 9) (by decide) (by decide) ⟨k, hk1, hk9, rfl⟩ (mm_Kv 3 rfl (bX5_addSubstitute_18 (fun q => absurd q hne) (fun _ => ?_)))
              refine bX5_addSubstitute_33 a1 a2 (fun q => ?_) (fun q => bX5_addSubstitute_47 (by decide) (hK _ hw fC.rfl))
              rw [cl_nI (by omega), cl_nI (by omega), hw.rk i (by omega)] at q
              exact absurd ((nI_eq (b := 0) (by omega) (by omega)).mp q) hr0
      · refine Op.no 0 h (by decide) (fun w hw K hK => ?_)
        · refine bX5_addSubstitute_0 (by decide) (k_rItem h1 hw.ni hi (mm_Kv 1 rfl (bX5_addSubstitute_5 (by decide) (k_rItem h1 hw.ni hj (mm_Kv 2 rfl (bX5_addSubstitute_10 (by decide) ?_))))))
          exact k_nbt (a := 1) (b := 9) (by decide) (by decide) hz (mm_Kx rfl (hK _ hw fC.rfl))
    · refine Op.no 2 h (by decide) (fun w hw K hK => ?_)
      · exact bX5_addSubstitute_0 (by decide) (k_rItem h1 hw.ni hi (mm_Kv 1 rfl (bX5_addSubstitute_5 (by decide) (k_nItem h1 hw.ni hy (mm_Kx rfl (hK _ hw fC.rfl))))))
  · refine Op.no 2 h (by decide) (fun w hw K hK => ?_)
    · exact bX5_addSubstitute_0 (by decide) (k_nItem h1 hw.ni hx (mm_Kx rfl (hK _ hw fC.rfl)))
end H1
