/-! onHandOn -/
def s32 (f : Nat → Int32) : Nat → Int32
  | 0 => 0
  | n + 1 => s32 f n + f n
theorem fo_s32 {c : Nat → Prop} [DecidablePred c] {x : Nat → Int32} : ∀ {n : Nat}, fo (fun i a => if c i then a + x i else a) 0 n = s32 (fun i => if c i then x i else 0) n
  | 0 => rfl
  | n + 1 => by
    show (if c n then fo (fun i a => if c i then a + x i else a) 0 n + x n else fo (fun i a => if c i then a + x i else a) 0 n) = s32 (fun i => if c i then x i else 0) n + (if c n then x n else 0)
    rw [fo_s32]
    by_cases h : c n
    · rw [if_pos h, if_pos h]
    · rw [if_neg h, if_neg h, Int32.add_zero]
theorem s32_cong {f g : Nat → Int32} : ∀ {n : Nat}, (∀ i, i < n → f i = g i) → s32 f n = s32 g n
  | 0, _ => rfl
  | n + 1, h => by
    show s32 f n + f n = s32 g n + g n
    rw [s32_cong (fun i hi => h i (by omega)), h n (by omega)]
theorem s32_0 {f : Nat → Int32} : ∀ {n : Nat}, (∀ i, i < n → f i = 0) → s32 f n = 0
  | 0, _ => rfl
  | n + 1, h => by
    show s32 f n + f n = 0
    rw [s32_0 (fun i hi => h i (by omega)), h n (by omega)]
    rfl
theorem add4 (a b c d : Int32) : a + b + (c + d) = a + c + (b + d) := by
  rw [Int32.add_assoc, Int32.add_assoc, ← Int32.add_assoc b c d, ← Int32.add_assoc c b d, Int32.add_comm b c]
theorem s32_add {f g : Nat → Int32} : ∀ {n : Nat}, s32 (fun i => f i + g i) n = s32 f n + s32 g n
  | 0 => rfl
  | n + 1 => by
    show s32 (fun i => f i + g i) n + (f n + g n) = s32 f n + f n + (s32 g n + g n)
    rw [s32_add, add4]
theorem s32_one {f : Nat → Int32} {j : Nat} : ∀ {n : Nat}, j < n → (∀ i, i ≠ j → f i = 0) → s32 f n = f j
  | 0, h, _ => absurd h (Nat.not_lt_zero _)
  | n + 1, h, hz => by
    show s32 f n + f n = f j
    by_cases e : j = n
    · subst e
      rw [s32_0 (fun i hi => hz i (by omega)), Int32.zero_add]
    · rw [s32_one (n := n) (by omega) hz, hz n (fun q => e q.symm), Int32.add_zero]
theorem ho_sw {jl jd it : Nat → Nat} {G : Nat → Int32} {i d n : Nat} : ∀ {m : Nat}, (∀ e, e < m → jl e < n) → s32 (fun l => if it l = i then s32 (fun e => if jl e = l ∧ jd e ≤ d then G e else 0) m else 0) n = s32 (fun e => if it (jl e) = i ∧ jd e ≤ d then G e else 0) m
  | 0, _ => by
    show _ = 0
    refine s32_0 fun l _ => ?_
    show (if it l = i then (0 : Int32) else 0) = 0
    split <;> rfl
  | m + 1, h => by
    show _ = s32 (fun e => if it (jl e) = i ∧ jd e ≤ d then G e else 0) m + (if it (jl m) = i ∧ jd m ≤ d then G m else 0)
    rw [← ho_sw (G := G) (it := it) (i := i) (n := n) (fun e he => h e (by omega))]
    have e1 : ∀ l, l < n → (if it l = i then s32 (fun e => if jl e = l ∧ jd e ≤ d then G e else 0) (m + 1) else 0) = (if it l = i then s32 (fun e => if jl e = l ∧ jd e ≤ d then G e else 0) m else 0) + (if it l = i then (if jl m = l ∧ jd m ≤ d then G m else 0) else 0) := by
      intro l _
      by_cases q : it l = i
      · rw [if_pos q, if_pos q, if_pos q]
        rfl
      · rw [if_neg q, if_neg q, if_neg q]
        rfl
    rw [s32_cong e1, s32_add, s32_one (f := fun l => if it l = i then (if jl m = l ∧ jd m ≤ d then G m else 0) else 0) (h m (by omega)) (fun l hl => by
      show (if it l = i then (if jl m = l ∧ jd m ≤ d then G m else 0) else 0) = 0
      rw [if_neg (show ¬ (jl m = l ∧ jd m ≤ d) from fun q => hl q.1.symm)]
      split <;> rfl)]
    have e2 : (if it (jl m) = i then (if jl m = jl m ∧ jd m ≤ d then G m else 0) else 0) = if it (jl m) = i ∧ jd m ≤ d then G m else 0 := by
      by_cases q : it (jl m) = i
      · by_cases q2 : jd m ≤ d
        · rw [if_pos q, if_pos ⟨rfl, q2⟩, if_pos ⟨q, q2⟩]
        · rw [if_pos q, if_neg (fun z => q2 z.2), if_neg (fun z => q2 z.2)]
      · rw [if_neg q, if_neg (fun z => q z.1)]
    rw [e2]
section HO
variable {n : Nat} {s : St} {x y : Int32}
def St.gn (s : St) (e : Nat) : Int32 := sGain (fun e => nI (s.jf e) - 1) (fun e => nI (s.jt e) - 1) (fun e => nI (s.jq e)) e
def St.ho (s : St) (i d : Nat) : Int32 := s32 (fun e => if s.it (s.jl e) = i ∧ s.jd e ≤ d then s.gn e else 0) s.ne
theorem sEnd_eq (h : Inw n s) {l d : Nat} (hl : l < 100) (hd : d < 100000) : sEnd (fun e => nI (s.jl e)) (fun e => nI (s.jf e) - 1) (fun e => nI (s.jt e) - 1) (fun e => nI (s.jq e)) (fun e => nI (s.jd e)) (nI l) (nI d) s.ne = s32 (fun e => if s.jl e = l ∧ s.jd e ≤ d then s.gn e else 0) s.ne := by
  have hnl := h.nl_; have htd := h.td_; have hn := h.n_
  rw [← fo_s32 (c := fun e => s.jl e = l ∧ s.jd e ≤ d)]
  refine fo_cong fun e a he => ?_
  have h1 := h.jl_ e he
  have h2 := h.jd_ e he
  have e1 : (nI (s.jl e) = nI l) ↔ s.jl e = l := nI_eq (by omega) (by omega)
  have e2 : (nI (s.jd e) ≤ nI d) ↔ s.jd e ≤ d := nI_lei (by omega) (by omega)
  by_cases q : s.jl e = l ∧ s.jd e ≤ d
  · rw [if_pos ⟨e1.mpr q.1, e2.mpr q.2⟩, if_pos q]
    rfl
  · rw [if_neg (fun z => q ⟨e1.mp z.1, e2.mp z.2⟩), if_neg q]
theorem op_onHandOn (h : Inv n s) : Op kX5_onHandOn kX6_onHandOn kL_onHandOn n [.int x, .int y] s := by
  have hni := h.ni_; have hnl := h.nl_; have hne := h.ne_; have htd := h.td_; have hnn := h.n_
  rcases is_or x s.ni with ⟨i, hi, e⟩ | hx
  rotate_left
  · refine Op.no 1 2 h (by decide) (by decide) (fun w hw K hK => ?_) (fun r w hw K hK => ?_)
    · exact bX5_onHandOn_0 (by decide) (k_nItem hni hw.ni hx (mm_Kx rfl (hK _ hw fC.rfl)))
    · refine bX6_onHandOn_0 (by decide) (k_noItem hni hw.ni hx (mm_Kr 0 rfl (bX6_onHandOn_6 (fun _ => bX6_onHandOn_9 (bX6_onHandOn_30 (bX6_onHandOn_38 (fun _ => bX6_onHandOn_135 ?_) (fun _ => bX6_onHandOn_47 (fun q => ?_) (fun _ => bX6_onHandOn_135 ?_))))) (fun h => absurd rfl h))))
      · exact hK _ _ hw.th fM.th th_at (fun h => absurd h (by decide))
      · rw [th_at] at q
        exact absurd q (by decide)
      · exact hK _ _ hw.th fM.th th_at (fun h => absurd h (by decide))
  subst e
  by_cases hy : bt 0 s.td y
  rotate_left
  · refine Op.no 2 0 h (by decide) (by decide) (fun w hw K hK => ?_) (fun r w hw K hK => ?_)
    · refine bX5_onHandOn_0 (by decide) (k_rItem hni hw.ni hi (mm_Kv 1 rfl (bX5_onHandOn_5 (by decide) ?_)))
      rw [hw.td]
      exact k_nbt (a := 0) (by decide) (by omega) hy (mm_Kx rfl (hK _ hw fC.rfl))
    · refine bX6_onHandOn_0 (by decide) (k_isItem hni hw.ni hi (mm_Kr 0 rfl (bX6_onHandOn_6 (fun h => absurd h (by decide)) (fun _ => bX6_onHandOn_13 (by decide) ?_))))
      rw [hw.td]
      refine k_nin (a := 0) (by decide) (by omega) hy (mm_Kr 0 rfl (bX6_onHandOn_22 (fun _ => bX6_onHandOn_25 (bX6_onHandOn_30 (bX6_onHandOn_38 (fun _ => bX6_onHandOn_135 ?_) (fun _ => bX6_onHandOn_47 (fun q => ?_) (fun _ => bX6_onHandOn_135 ?_))))) (fun h => absurd rfl h)))
      · exact hK _ _ hw.th fM.th th_at (fun h => absurd h (by decide))
      · rw [th_at] at q
        exact absurd q (by decide)
      · exact hK _ _ hw.th fM.th th_at (fun h => absurd h (by decide))
  have hy' := hy
  obtain ⟨d, _, hd, e⟩ := hy
  subst e
  refine Op.ok s (s.ho i d) h (fun w hw K hK => ?_) (fun w hw K hK => ?_)
  · refine bX5_onHandOn_0 (by decide) (k_rItem hni hw.ni hi (mm_Kv 1 rfl (bX5_onHandOn_5 (by decide) ?_)))
    rw [hw.td]
    refine k_bt (a := 0) (by decide) (by omega) hy' (mm_Kv 2 rfl (bX5_onHandOn_15 ?_))
    refine e_for0 (n := s.nl) (E := fun l a => mm_E kX5_onHandOn 20 [.ref 0, .int (nI i), .int (nI d), .int a, .int (nI l)] [] w 2 K) (f := fun l a => if s.it l = i then a + s32 (fun e => if s.jl e = l ∧ s.jd e ≤ d then s.gn e else 0) s.ne else a) ?_ ?_
    · intro l a hl ih
      have hit := h.it_ l hl
      refine bX5_onHandOn_20 (fun q => absurd (hw.nl ▸ q) (ge_nI hl (by omega))) (fun _ => ?_)
      refine bX5_onHandOn_32 (in_nI (by omega) (by decide)) (fun q => ?_) (fun q => ?_) <;> rw [cl_nI (by omega), hw.it, nI_eq (by omega) (by omega)] at q
      · refine bX5_onHandOn_46 (by decide) (m_unitsAtEndOf hne hw.ne (mm_Kr 2 rfl (bX5_onHandOn_57 (bX5_onHandOn_59 ?_))))
        rw [hw.jl, hw.jf, hw.jt, hw.jq, hw.jd, sEnd_eq h.1 (by omega) (by omega), nI_1]
        rw [if_pos q] at ih
        exact ih
      · refine bX5_onHandOn_59 ?_
        rw [nI_1]
        rw [if_neg q] at ih
        exact ih
    · refine bX5_onHandOn_20 (fun _ => bX5_onHandOn_65 ?_) (fun q => absurd (hw.nl ▸ le_nI (Nat.le_refl s.nl) (by omega)) q)
      rw [fo_s32 (c := fun l => s.it l = i), ho_sw (fun e he => h.jl_ e he)]
      exact hK _ hw fC.rfl
  · refine bX6_onHandOn_0 (by decide) (k_isItem hni hw.ni hi (mm_Kr 0 rfl (bX6_onHandOn_6 (fun h => absurd h (by decide)) (fun _ => bX6_onHandOn_13 (by decide) ?_))))
    rw [hw.td]
    refine k_in (a := 0) (by decide) (by omega) hy' (mm_Kr 0 rfl (bX6_onHandOn_22 (fun h => absurd h (by decide)) (fun _ => bX6_onHandOn_29 (bX6_onHandOn_30 ?_))))
    have hw0 := hw.th (x := 0)
    refine e_for0 (n := s.ne) (E := fun e a => mm_E kX6_onHandOn 38 [.ref 81, .int (nI i), .int (nI d), .int a, .int (nI e)] [] (mm_up w 81 26 0) 0 K) (f := fun e a => if s.it (s.jl e) = i ∧ s.jd e ≤ d then a + s.gn e else a) ?_ ?_
    · intro e a he ih
      have h1 := h.jl_ e he
      have h2 := h.jd_ e he
      have h3 := h.it_ _ h1
      have a1 := in_nI (show e < 150 by omega) (by decide)
      have skip : ¬ (s.it (s.jl e) = i ∧ s.jd e ≤ d) → mm_E kX6_onHandOn 129 [.ref 81, .int (nI i), .int (nI d), .int a, .int (nI e)] [] (mm_up w 81 26 0) 0 K := by
        intro q
        rw [if_neg q] at ih
        refine bX6_onHandOn_129 ?_
        rw [nI_1]
        exact ih
      refine bX6_onHandOn_38 (fun q => absurd (hw0.ne ▸ q) (ge_nI he (by omega))) (fun _ => bX6_onHandOn_47 (fun _ => ?_) (fun q => absurd th_at q))
      have el : mm_up w 81 26 0 208 (nI e).toNatClampNeg = nI (s.jl e) := by rw [cl_nI (by omega), hw0.jl]
      refine bX6_onHandOn_54 a1 (by rw [el]; exact in_nI (by omega) (by decide)) (fun q => ?_) (fun q => skip (fun z => q ?_))
      · rw [el, cl_nI (by omega), hw0.it] at q
        have q : s.it (s.jl e) = i := (nI_eq (by omega) (by omega)).mp q
        refine bX6_onHandOn_70 a1 (fun q2 => ?_) (fun q2 => ?_) <;> rw [cl_nI (by omega), hw0.jd, nI_lti (by omega) (by omega)] at q2
        · exact skip (by omega)
        · rw [if_pos ⟨q, by omega⟩] at ih
          have fin : ∀ y1 y2 : Int32, y1 = (if nI (s.jt e) - 1 = -1 then 0 else nI (s.jq e)) → y2 = (if nI (s.jf e) - 1 = -1 then 0 else nI (s.jq e)) → mm_E kX6_onHandOn 126 [.ref 81, .int (nI i), .int (nI d), .int a, .int (nI e)] [.int y2, .int y1, .int a] (mm_up w 81 26 0) 0 K := by
            intro y1 y2 hy1 hy2
            refine bX6_onHandOn_126 (bX6_onHandOn_129 ?_)
            rw [nI_1, hy1, hy2]
            exact ih
          have mid : ∀ y1 : Int32, y1 = (if nI (s.jt e) - 1 = -1 then 0 else nI (s.jq e)) → mm_E kX6_onHandOn 104 [.ref 81, .int (nI i), .int (nI d), .int a, .int (nI e)] [.int y1, .int a] (mm_up w 81 26 0) 0 K := by
            intro y1 hy1
            refine bX6_onHandOn_104 a1 (fun q3 => bX6_onHandOn_115 (fin _ _ hy1 ?_)) (fun q3 => bX6_onHandOn_119 a1 (fin _ _ hy1 ?_)) <;> rw [cl_nI (by omega), hw0.jf] at q3
            · rw [if_pos q3]
            · rw [if_neg q3, cl_nI (by omega), hw0.jq]
          refine bX6_onHandOn_81 a1 (fun q3 => bX6_onHandOn_93 (mid _ ?_)) (fun q3 => bX6_onHandOn_97 a1 (mid _ ?_)) <;> rw [cl_nI (by omega), hw0.jt] at q3
          · rw [if_pos q3]
          · rw [if_neg q3, cl_nI (by omega), hw0.jq]
      · rw [el, cl_nI (by omega), hw0.it]
        show nI (s.it (s.jl e)) = nI i
        rw [z.1]
    · refine bX6_onHandOn_38 (fun _ => bX6_onHandOn_135 ?_) (fun q => absurd (hw0.ne ▸ le_nI (Nat.le_refl s.ne) (by omega)) q)
      rw [fo_s32 (c := fun e => s.it (s.jl e) = i ∧ s.jd e ≤ d)]
      exact hK _ _ hw0 fM.th th_at (fun _ => rfl)
end HO
