/-! addItem, addSubstitute, cancel, pass -/
def updN (f : Nat → Nat) (n x : Nat) : Nat → Nat := fun j => if j = n then x else f j
theorem updN_at {f : Nat → Nat} {n x : Nat} : updN f n x n = x := if_pos rfl
theorem updN_ne {f : Nat → Nat} {n x j : Nat} (h : j ≠ n) : updN f n x j = f j := if_neg h
theorem upd_nI {f : Nat → Nat} {n x : Nat} : upd (fun j => nI (f j)) n (nI x) = fun j => nI (updN f n x j) := by
  funext j
  unfold upd updN
  by_cases h : j = n
  · rw [if_pos h, if_pos h]
  · rw [if_neg h, if_neg h]
theorem row_nI {v : mmM} {i n x : Nat} {f : Nat → Nat} (h : v i = fun j => nI (f j)) : mm_up v i n (nI x) i = fun j => nI (updN f n x j) := by rw [mm_up_at, h, upd_nI]
theorem up_ob {v : mmM} {i j k : Nat} {x : Int32} (h : k ≠ j) : mm_up v i j x i k = v i k := by rw [mm_up_at]; exact if_neg h
section H1
variable {n : Nat} {s : St} {x y z : Int32}
theorem cat_or (x : Int32) : (∃ c, (c = 65 ∨ c = 66 ∨ c = 67) ∧ x = nI c) ∨ (x ≠ 65 ∧ x ≠ 66 ∧ x ≠ 67) := by
  by_cases h1 : x = 65
  · exact Or.inl ⟨65, Or.inl rfl, h1⟩
  · by_cases h2 : x = 66
    · exact Or.inl ⟨66, Or.inr (Or.inl rfl), h2⟩
    · by_cases h3 : x = 67
      · exact Or.inl ⟨67, Or.inr (Or.inr rfl), h3⟩
      · exact Or.inr ⟨h1, h2, h3⟩
theorem k_addItemC {c : Nat} {v : mmM} {K : mmO → mmM → Prop} (hc : c = 65 ∨ c = 66 ∨ c = 67) (g : mm_E kX5_addItem 28 [.ref 0, .int (nI c)] [] v 0 K) : mm_M kX5_addItem [.ref 0, .int (nI c)] v K := by
  refine bX5_addItem_0 (fun _ => g) (fun h1 => bX5_addItem_6 (fun _ => g) (fun h2 => bX5_addItem_12 (fun _ => g) (fun h3 => ?_)))
  rcases hc with e | e | e <;> subst e
  · exact absurd rfl h1
  · exact absurd rfl h2
  · exact absurd rfl h3
theorem k_addItemM {c : Nat} {v : mmM} {K : mmO → mmM → Prop} (hc : c = 65 ∨ c = 66 ∨ c = 67) (g : mm_E kX6_addItem 23 [.ref 81, .int (nI c)] [.ref 81] v 0 K) : mm_M kX6_addItem [.ref 81, .int (nI c)] v K := by
  refine bX6_addItem_0 (fun _ => g) (fun h1 => bX6_addItem_7 (fun _ => g) (fun h2 => bX6_addItem_13 (fun _ => g) (fun h3 => ?_)))
  rcases hc with e | e | e <;> subst e
  · exact absurd rfl h1
  · exact absurd rfl h2
  · exact absurd rfl h3
theorem op_addItem (h : Inv n s) : Op kX5_addItem kX6_addItem kL_addItem n [.int x] s := by
  have h1 := h.ni_
  rcases cat_or x with ⟨c, hc, e⟩ | ⟨n1, n2, n3⟩
  · subst e
    have hcl : c ≤ 120 := by omega
    by_cases hn : s.ni = 6
    · refine Op.no 2 1 h (by decide) (by decide) (fun w hw K hK => k_addItemC hc ?_) (fun r w hw K hK => k_addItemM hc ?_)
      · refine bX5_addItem_28 (fun q => ?_) (fun _ => bX5_addItem_40 (by decide) (hK _ hw fC.rfl))
        rw [hw.ni, hn] at q
        exact absurd q (by decide)
      · refine bX6_addItem_23 (fun _ => bX6_addItem_32 (bX6_addItem_37 (fun h => absurd h (by decide)) (fun _ => bX6_addItem_47 ?_))) (fun q => ?_)
        · exact hK _ _ hw.th fM.th th_at (fun h => absurd h (by decide))
        · rw [hw.ni, hn] at q
          exact absurd rfl q
    · have hi : Inv n ((s.set 0 (fun _ _ => s.ni + 1)).set 5 (fun _ => updN s.ct s.ni c)) := by
        refine ⟨h.1.c_ni_ct (by omega) (fun i hi => ?_) (fun l hl => ?_), fun i d hi hd => ?_⟩
        · by_cases e : i = s.ni
          · subst e; rw [updN_at]; exact hc
          · rw [updN_ne e]; exact h.ct_ i (by omega)
        · have := h.it_ l hl
          omega
        · exact h.cv_ i d hi hd
      refine Op.ok _ (nI s.ni) hi (fun w hw K hK => k_addItemC hc ?_) (fun w hw K hK => k_addItemM hc ?_)
      · refine bX5_addItem_28 (fun _ => bX5_addItem_50 (by decide) (m_iappend (by omega) hw.ni (vn_char hcl) (mm_Kr 0 rfl (bX5_addItem_58 (hK _ ?_ ?_))))) (fun q => ?_)
        · refine hw.c_ni_ct (fun i hi => by rw [mm_up_row (by omega), mm_up_row (by omega)]) mm_up_same ?_
          rw [mm_up_row (by decide)]
          exact row_nI hw.ct
        · intro i hi
          rw [mm_up_row (by omega), mm_up_row (by omega)]
        · rw [hw.ni, show (6 : Int32) = nI 6 from rfl, nI_lti (by omega) (by omega)] at q
          omega
      · refine bX6_addItem_23 (fun q => ?_) (fun _ => bX6_addItem_36 (bX6_addItem_37 (fun _ => ?_) (fun h => absurd (by decide) h)))
        · rw [hw.ni] at q
          exact absurd ((nI_eq (b := 6) (by omega) (by omega)).mp q) hn
        · have hw2 := hw.th (x := 0)
          refine bX6_addItem_49 (by rw [hw2.ni]; exact in_nI (by omega) (by decide)) (vn_char hcl) ?_
          rw [hw2.ni, nI_1, nI_pred, cl_nI (by omega)]
          refine hK _ _ ?_ ?_ ?_ (fun _ => rfl)
          · refine hw2.c_ni_ct (fun i hi => by rw [mm_up_row (by omega), mm_up_row (by omega)]) (fun j j1 _ j2 => ?_) mm_up_same ?_
            · rw [up_ob j2, mm_up_row (by decide)]
            · rw [mm_up_row (by decide)]
              exact row_nI hw2.ct
          · intro i hi
            rw [mm_up_row (by omega), mm_up_row (by omega), mm_up_row (by omega)]
          · rw [up_ob (by decide), mm_up_row (by decide), th_at]
            rfl
  · refine Op.no 1 0 h (by decide) (by decide) (fun w hw K hK => ?_) (fun r w hw K hK => ?_)
    · refine bX5_addItem_0 (fun q => absurd q n1) (fun _ => bX5_addItem_6 (fun q => absurd q n2) (fun _ => bX5_addItem_12 (fun q => absurd q n3) (fun _ => bX5_addItem_18 (by decide) (hK _ hw fC.rfl))))
    · refine bX6_addItem_0 (fun q => absurd q n1) (fun _ => bX6_addItem_7 (fun q => absurd q n2) (fun _ => bX6_addItem_13 (fun q => absurd q n3) (fun _ => bX6_addItem_19 (bX6_addItem_37 (fun h => absurd h (by decide)) (fun _ => bX6_addItem_47 ?_)))))
      exact hK _ _ hw.th fM.th th_at (fun h => absurd h (by decide))
theorem rk_row {r : Nat → Nat → Nat} {i j x : Nat} : (fun a b => if a = i then updN (r i) j x b else r a b) i = updN (r i) j x := by
  funext b
  show (if i = i then _ else _) = _
  rw [if_pos rfl]
def upd2 (r : Nat → Nat → Nat) (i j x : Nat) : Nat → Nat → Nat := fun a b => if a = i ∧ b = j then x else r a b
theorem upd2_row {r : Nat → Nat → Nat} {i j x : Nat} : upd2 r i j x i = updN (r i) j x := by
  funext b
  unfold upd2 updN
  by_cases h : b = j
  · rw [if_pos ⟨rfl, h⟩, if_pos h]
  · rw [if_neg (fun q => h q.2), if_neg h]
theorem upd2_ne {r : Nat → Nat → Nat} {i j x a : Nat} (h : a ≠ i) : upd2 r i j x a = r a := by
  funext b
  exact if_neg (fun q => h q.1)
/-- rows of a table after one of its numbers changed -/
theorem rows_nI {v : mmM} {c m i j x : Nat} {r : Nat → Nat → Nat} (h : ∀ a, a < m → v (c + a) = fun b => nI (r a b)) (hi : i < m) : ∀ a, a < m → mm_up v (c + i) j (nI x) (c + a) = fun b => nI (upd2 r i j x a b) := by
  intro a ha
  by_cases e : a = i
  · subst e
    rw [row_nI (h a ha), upd2_row]
  · rw [mm_up_row (by omega), h a ha, upd2_ne e]
theorem sSubs_eq {r : Nat → Nat} (hr : ∀ j, r j ≤ 9) : ∀ m, sSubs (fun j => nI (r j)) m = nI (sm (fun j => if r j = 0 then 0 else 1) m)
  | 0 => rfl
  | m + 1 => by
    have e : (nI (r m) = 0) ↔ r m = 0 := nI_eq (b := 0) (by have := hr m; omega) (by omega)
    show (if nI (r m) = 0 then sSubs (fun j => nI (r j)) m else sSubs (fun j => nI (r j)) m + 1) = nI (sm (fun j => if r j = 0 then 0 else 1) m + (if r m = 0 then 0 else 1))
    rw [sSubs_eq hr m]
    by_cases q : r m = 0
    · rw [if_pos (e.mpr q), if_pos q, Nat.add_zero]
    · rw [if_neg (fun z => q (e.mp z)), if_neg q, nI_1]
theorem op_addSubstitute (h : Inv n s) : Op kX5_addSubstitute kX6_addSubstitute kL_addSubstitute n [.int x, .int y, .int z] s := by
  have h1 := h.ni_
  have b1 : (1 : Int32) = nI 1 := rfl
  have b9 : (9 : Int32) = nI 9 := rfl
  rcases is_or x s.ni with ⟨i, hi, e⟩ | hx
  · subst e
    rcases is_or y s.ni with ⟨j, hj, e⟩ | hy
    · subst e
      have a1 := in_nI (show i < 6 by omega) (by decide)
      have a2 := in_nI (show j < 6 by omega) (by decide)
      by_cases hz : bt 1 9 z
      · obtain ⟨k, hk1, hk9, e⟩ := hz
        subst e
        by_cases hij : i = j
        · subst hij
          refine Op.no 3 3 h (by decide) (by decide) (fun w hw K hK => ?_) (fun r w hw K hK => ?_)
          · refine bX5_addSubstitute_0 (by decide) (k_rItem h1 hw.ni hi (mm_Kv 1 rfl (bX5_addSubstitute_5 (by decide) (k_rItem h1 hw.ni hi (mm_Kv 2 rfl (bX5_addSubstitute_10 (by decide) ?_))))))
            refine k_bt (a := 1) (b := 9) (by decide) (by decide) ⟨k, hk1, hk9, rfl⟩ (mm_Kv 3 rfl (bX5_addSubstitute_18 (fun _ => bX5_addSubstitute_23 (by decide) (hK _ hw fC.rfl)) (fun q => absurd rfl q)))
          · refine bX6_addSubstitute_0 (by decide) (k_isItem h1 hw.ni hi (mm_Kr 0 rfl (bX6_addSubstitute_6 (fun h => absurd h (by decide)) (fun _ => bX6_addSubstitute_9 (by decide) (k_isItem h1 hw.ni hi (mm_Kr 0 rfl (bX6_addSubstitute_14 (fun h => absurd h (by decide)) (fun _ => bX6_addSubstitute_21 (by decide) ?_))))))))
            refine k_in (a := 1) (b := 9) (by decide) (by decide) ⟨k, hk1, hk9, rfl⟩ (mm_Kr 0 rfl (bX6_addSubstitute_28 (fun h => absurd h (by decide)) (fun _ => bX6_addSubstitute_35 (fun _ => bX6_addSubstitute_40 ?_) (fun q => absurd rfl q))))
            exact bX6_addSubstitute_60 (fun h => absurd h (by decide)) (fun _ => bX6_addSubstitute_70 (hK _ _ hw.th fM.th th_at (fun h => absurd h (by decide))))
        · have hne : ¬ nI i = nI j := fun q => hij ((nI_eq (by omega) (by omega)).mp q)
          have hr := h.rk_ i j
          by_cases hr0 : s.rk i j = 0
          · have hr' : ∀ a, upd2 s.rk i j k i a ≤ 9 := fun a => by
              unfold upd2
              split
              · exact hk9
              · exact h.rk_ i a
            have hi2 : Inv n (s.set 6 (upd2 s.rk i j k)) := by
              refine ⟨h.1.c_rk (fun a b => ?_) (fun a => ?_), fun a d ha hd => h.cv_ a d ha hd⟩
              · unfold upd2
                split
                · exact hk9
                · exact h.rk_ a b
              · unfold upd2
                rw [if_neg (by omega)]
                exact h.rk0_ a
            refine Op.ok _ (nI (sm (fun b => if upd2 s.rk i j k i b = 0 then 0 else 1) s.ni)) hi2 (fun w hw K hK => ?_) (fun w hw K hK => ?_)
            · refine bX5_addSubstitute_0 (by decide) (k_rItem h1 hw.ni hi (mm_Kv 1 rfl (bX5_addSubstitute_5 (by decide) (k_rItem h1 hw.ni hj (mm_Kv 2 rfl (bX5_addSubstitute_10 (by decide) ?_))))))
              refine k_bt (a := 1) (b := 9) (by decide) (by decide) ⟨k, hk1, hk9, rfl⟩ (mm_Kv 3 rfl (bX5_addSubstitute_18 (fun q => absurd q hne) (fun _ => ?_)))
              refine bX5_addSubstitute_33 a1 a2 (fun _ => ?_) (fun q => absurd ?_ q)
              · refine bX5_addSubstitute_57 a1 a2 (by decide) ?_
                rw [cl_nI (by omega), cl_nI (by omega)]
                have hw2 : RepC (mm_up w (10 + i) j (nI k)) (s.set 6 (upd2 s.rk i j k)) := hw.c_rk (fun a ha => mm_up_row (by omega)) (rows_nI hw.rk (by omega))
                refine m_substitutesOf h1 (by omega) hw2.ni (mm_Kr 3 rfl (bX5_addSubstitute_77 ?_))
                rw [hw2.rk i (by omega)]
                rw [show (s.set 6 (upd2 s.rk i j k)).rk i = upd2 s.rk i j k i from rfl, sSubs_eq hr']
                exact hK _ hw2 (fun a ha => mm_up_row (by omega))
              · rw [cl_nI (by omega), cl_nI (by omega), hw.rk i (by omega)]
                show nI (s.rk i j) = 0
                rw [hr0]
                rfl
            · refine bX6_addSubstitute_0 (by decide) (k_isItem h1 hw.ni hi (mm_Kr 0 rfl (bX6_addSubstitute_6 (fun h => absurd h (by decide)) (fun _ => bX6_addSubstitute_9 (by decide) (k_isItem h1 hw.ni hj (mm_Kr 0 rfl (bX6_addSubstitute_14 (fun h => absurd h (by decide)) (fun _ => bX6_addSubstitute_21 (by decide) ?_))))))))
              refine k_in (a := 1) (b := 9) (by decide) (by decide) ⟨k, hk1, hk9, rfl⟩ (mm_Kr 0 rfl (bX6_addSubstitute_28 (fun h => absurd h (by decide)) (fun _ => bX6_addSubstitute_35 (fun q => absurd q hne) (fun _ => ?_))))
              refine bX6_addSubstitute_44 a1 a2 (fun _ => bX6_addSubstitute_59 (bX6_addSubstitute_60 (fun _ => bX6_addSubstitute_72 a1 a2 ?_) (fun h => absurd (by decide) h))) (fun q => absurd ?_ q)
              · rw [cl_nI (by omega), cl_nI (by omega)]
                have hw1 := hw.th (x := 0)
                have hw2 : RepM (mm_up (mm_up w 81 26 0) (84 + i) j (nI k)) (s.set 6 (upd2 s.rk i j k)) := hw1.c_rk (fun a ha => mm_up_row (by omega)) (fun a _ _ => by rw [mm_up_row (by omega)]) (rows_nI hw1.rk (by omega))
                refine e_for0 (n := s.ni) (a0 := 0) (E := fun b a => mm_E kX6_addSubstitute 87 [.ref 81, .int (nI i), .int (nI j), .int (nI k), .int (nI a), .int (nI b)] [] (mm_up (mm_up w 81 26 0) (84 + i) j (nI k)) 0 K) (f := fun b a => a + (if upd2 s.rk i j k i b = 0 then 0 else 1)) ?_ ?_
                · intro b a hb ih
                  have hr9 := hr' b
                  refine bX6_addSubstitute_87 (fun q => absurd (hw2.ni ▸ q) (ge_nI hb (by have : (s.set 6 (upd2 s.rk i j k)).ni = s.ni := rfl; omega))) (fun _ => ?_)
                  refine bX6_addSubstitute_96 a1 (in_nI (by omega) (by decide)) (fun q => ?_) (fun q => ?_) <;> rw [cl_nI (i := i) (by omega), cl_nI (by omega), hw2.rk i (by omega)] at q
                  · have q : upd2 s.rk i j k i b = 0 := (nI_le0 (by omega)).mp q
                    refine bX6_addSubstitute_114 (bX6_addSubstitute_115 ?_)
                    rw [nI_1, Int32.add_zero]
                    rw [if_pos q] at ih
                    exact ih
                  · have q : ¬ upd2 s.rk i j k i b = 0 := fun z => q ((nI_le0 (a := upd2 s.rk i j k i b) (by omega)).mpr z)
                    refine bX6_addSubstitute_110 (bX6_addSubstitute_115 ?_)
                    rw [nI_1, nI_1]
                    rw [if_neg q] at ih
                    exact ih
                · have e : ∀ m, fo (fun b a => a + (if upd2 s.rk i j k i b = 0 then 0 else 1)) 0 m = sm (fun b => if upd2 s.rk i j k i b = 0 then 0 else 1) m := by
                    intro m
                    induction m with
                    | zero => rfl
                    | succ m ih => unfold fo sm; rw [ih]
                  rw [e]
                  refine bX6_addSubstitute_87 (fun _ => bX6_addSubstitute_124 ?_) (fun q => absurd (hw2.ni ▸ le_nI (Nat.le_refl s.ni) (by omega)) q)
                  refine hK _ _ hw2 (fun a ha => by rw [mm_up_row (by omega), mm_up_row (by omega)]) (by rw [mm_up_row (by omega), th_at]; rfl) (fun _ => rfl)
              · rw [cl_nI (by omega), cl_nI (by omega), hw.rk i (by omega)]
                show nI (s.rk i j) ≤ 0
                rw [hr0]
                decide
          · refine Op.no 4 1 h (by decide) (by decide) (fun w hw K hK => ?_) (fun r w hw K hK => ?_)
            · refine bX5_addSubstitute_0 (by decide) (k_rItem h1 hw.ni hi (mm_Kv 1 rfl (bX5_addSubstitute_5 (by decide) (k_rItem h1 hw.ni hj (mm_Kv 2 rfl (bX5_addSubstitute_10 (by decide) ?_))))))
              refine k_bt (a := 1) (b := 9) (by decide) (by decide) ⟨k, hk1, hk9, rfl⟩ (mm_Kv 3 rfl (bX5_addSubstitute_18 (fun q => absurd q hne) (fun _ => ?_)))
              refine bX5_addSubstitute_33 a1 a2 (fun q => ?_) (fun q => bX5_addSubstitute_47 (by decide) (hK _ hw fC.rfl))
              rw [cl_nI (by omega), cl_nI (by omega), hw.rk i (by omega)] at q
              exact absurd ((nI_eq (b := 0) (by omega) (by omega)).mp q) hr0
            · refine bX6_addSubstitute_0 (by decide) (k_isItem h1 hw.ni hi (mm_Kr 0 rfl (bX6_addSubstitute_6 (fun h => absurd h (by decide)) (fun _ => bX6_addSubstitute_9 (by decide) (k_isItem h1 hw.ni hj (mm_Kr 0 rfl (bX6_addSubstitute_14 (fun h => absurd h (by decide)) (fun _ => bX6_addSubstitute_21 (by decide) ?_))))))))
              refine k_in (a := 1) (b := 9) (by decide) (by decide) ⟨k, hk1, hk9, rfl⟩ (mm_Kr 0 rfl (bX6_addSubstitute_28 (fun h => absurd h (by decide)) (fun _ => bX6_addSubstitute_35 (fun q => absurd q hne) (fun _ => ?_))))
              refine bX6_addSubstitute_44 a1 a2 (fun q => ?_) (fun _ => bX6_addSubstitute_55 (bX6_addSubstitute_60 (fun h => absurd h (by decide)) (fun _ => bX6_addSubstitute_70 (hK _ _ hw.th fM.th th_at (fun h => absurd h (by decide))))))
              rw [cl_nI (by omega), cl_nI (by omega), hw.rk i (by omega)] at q
              exact absurd ((nI_le0 (by omega)).mp q) hr0
      · refine Op.no 2 0 h (by decide) (by decide) (fun w hw K hK => ?_) (fun r w hw K hK => ?_)
        · refine bX5_addSubstitute_0 (by decide) (k_rItem h1 hw.ni hi (mm_Kv 1 rfl (bX5_addSubstitute_5 (by decide) (k_rItem h1 hw.ni hj (mm_Kv 2 rfl (bX5_addSubstitute_10 (by decide) ?_))))))
          exact k_nbt (a := 1) (b := 9) (by decide) (by decide) hz (mm_Kx rfl (hK _ hw fC.rfl))
        · refine bX6_addSubstitute_0 (by decide) (k_isItem h1 hw.ni hi (mm_Kr 0 rfl (bX6_addSubstitute_6 (fun h => absurd h (by decide)) (fun _ => bX6_addSubstitute_9 (by decide) (k_isItem h1 hw.ni hj (mm_Kr 0 rfl (bX6_addSubstitute_14 (fun h => absurd h (by decide)) (fun _ => bX6_addSubstitute_21 (by decide) ?_))))))))
          refine k_nin (a := 1) (b := 9) (by decide) (by decide) hz (mm_Kr 0 rfl (bX6_addSubstitute_28 (fun _ => bX6_addSubstitute_31 (bX6_addSubstitute_60 (fun h => absurd h (by decide)) (fun _ => bX6_addSubstitute_70 (hK _ _ hw.th fM.th th_at (fun h => absurd h (by decide)))))) (fun h => absurd rfl h)))
    · refine Op.no 1 2 h (by decide) (by decide) (fun w hw K hK => ?_) (fun r w hw K hK => ?_)
      · exact bX5_addSubstitute_0 (by decide) (k_rItem h1 hw.ni hi (mm_Kv 1 rfl (bX5_addSubstitute_5 (by decide) (k_nItem h1 hw.ni hy (mm_Kx rfl (hK _ hw fC.rfl))))))
      · refine bX6_addSubstitute_0 (by decide) (k_isItem h1 hw.ni hi (mm_Kr 0 rfl (bX6_addSubstitute_6 (fun h => absurd h (by decide)) (fun _ => bX6_addSubstitute_9 (by decide) (k_noItem h1 hw.ni hy (mm_Kr 0 rfl (bX6_addSubstitute_14 (fun _ => bX6_addSubstitute_17 ?_) (fun h => absurd rfl h))))))))
        exact bX6_addSubstitute_60 (fun h => absurd h (by decide)) (fun _ => bX6_addSubstitute_70 (hK _ _ hw.th fM.th th_at (fun h => absurd h (by decide))))
  · refine Op.no 1 2 h (by decide) (by decide) (fun w hw K hK => ?_) (fun r w hw K hK => ?_)
    · exact bX5_addSubstitute_0 (by decide) (k_nItem h1 hw.ni hx (mm_Kx rfl (hK _ hw fC.rfl)))
    · refine bX6_addSubstitute_0 (by decide) (k_noItem h1 hw.ni hx (mm_Kr 0 rfl (bX6_addSubstitute_6 (fun _ => bX6_addSubstitute_17 ?_) (fun h => absurd rfl h))))
      exact bX6_addSubstitute_60 (fun h => absurd h (by decide)) (fun _ => bX6_addSubstitute_70 (hK _ _ hw.th fM.th th_at (fun h => absurd h (by decide))))
end H1
