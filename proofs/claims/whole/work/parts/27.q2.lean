/-! more questions -/
theorem fo_sm {y : Nat → Nat} {a0 : Nat} : ∀ {n : Nat}, fo (fun i a => a + nI (y i)) (nI a0) n = nI (a0 + sm y n)
  | 0 => rfl
  | n + 1 => by
    show fo (fun i a => a + nI (y i)) (nI a0) n + nI (y n) = nI (a0 + (sm y n + y n))
    rw [fo_sm, nI_add, Nat.add_assoc]
theorem sm_split {f : Nat → Nat} {m : Nat} : ∀ {n : Nat}, m ≤ n → (∀ i, m ≤ i → i < n → f i = 0) → sm f n = sm f m
  | 0, h, _ => by have : m = 0 := by omega
                  subst this; rfl
  | n + 1, h, hz => by
    by_cases e : m = n + 1
    · subst e; rfl
    · show sm f n + f n = sm f m
      rw [hz n (by omega) (by omega), sm_split (n := n) (by omega) (fun i h1 h2 => hz i h1 (by omega)), Nat.add_zero]
theorem Inw.bln {n : Nat} {s : St} (h : Inw n s) (b : Nat) : s.bl b = sm (fun l => s.un l b) s.nl := sm_split h.nl_ (fun l hl _ => h.un_ l b hl)
theorem Inv.bln {n : Nat} {s : St} (h : Inv n s) (b : Nat) : s.bl b = sm (fun l => s.un l b) s.nl := h.1.bln b
theorem RepM.load {n b : Nat} {s : St} {v : mmM} (h : Inw n s) (hw : RepM v s) : sLoad (fun l => v (93 + l) b) s.nl = nI (s.bl b) := by
  rw [h.bln b, ← Nat.zero_add (sm (fun l => s.un l b) s.nl), ← fo_sm]
  refine fo_cong fun l a hl => ?_
  have := h.nl_
  show a + v (93 + l) b = _
  rw [hw.un l (by omega)]
theorem k_load0 {n b : Nat} {s : St} {v : mmM} {K : mmO → mmM → Prop} (h : Inw n s) (hw : RepM v s) (hb : b < 40) (g : K (.inl (some (.int (nI (s.bl b))))) v) : mm_M kX6_load0 [.ref 81, .int (nI b)] v K := m_load0 hb h.nl_ hw.nl (by rw [hw.load h]; exact g)
theorem i32_cancel {a b : Nat} : nI (a + b) - nI b = nI a := by rw [← nI_add, Int32.add_sub_cancel]
section Q2
variable {n : Nat} {s : St} {x y : Int32}
theorem op_status (h : Inv n s) : Op kX5_status kX6_status kL_status n [.int x] s := by
  have hb := h.np_
  rcases is_or x s.np with ⟨i, hi, e⟩ | hx
  · subst e
    refine Op.ok s (nI (s.st i)) h (fun w hw K hK => ?_) (fun w hw K hK => ?_)
    · refine bX5_status_0 (by decide) (k_rPromise hb hw.np hi (mm_Kv 1 rfl ?_))
      refine bX5_status_5 (in_nI (by omega) (by decide)) (by rw [cl_nI (by omega), hw.st]; exact nr_char (h.st_ i)) ?_
      rw [cl_nI (by omega), hw.st]
      exact hK _ hw fC.rfl
    · refine bX6_status_0 (by decide) (k_isPromise hb hw.np hi (mm_Kr 0 rfl ?_))
      refine bX6_status_6 (fun h => absurd h (by decide)) (fun _ => bX6_status_9 (bX6_status_14 (fun _ => ?_) (fun h => absurd (by decide) h)))
      refine bX6_status_29 (in_nI (by omega) (by decide)) (bX6_status_35 (by rw [cl_nI (by omega), mm_up_row (by decide), hw.st]; exact nr_char (h.st_ i)) ?_)
      rw [cl_nI (by omega), mm_up_row (by decide), hw.st]
      exact hK _ _ hw.th fM.th th_at (fun _ => rfl)
  · refine Op.no 1 2 h (by decide) (by decide) (fun w hw K hK => ?_) (fun r w hw K hK => ?_)
    · exact bX5_status_0 (by decide) (k_nPromise hb hw.np hx (mm_Kx rfl (hK _ hw fC.rfl)))
    · refine bX6_status_0 (by decide) (k_noPromise hb hw.np hx (mm_Kr 0 rfl ?_))
      refine bX6_status_6 (fun _ => bX6_status_13 (bX6_status_14 (fun h => absurd h (by decide)) (fun _ => bX6_status_24 (bX6_status_35 (by decide) ?_)))) (fun h => absurd rfl h)
      exact hK _ _ hw.th fM.th th_at (fun h => absurd h (by decide))
theorem op_quantity (h : Inv n s) : Op kX5_quantity kX6_quantity kL_quantity n [.int x, .int y] s := by
  have hb := h.np_
  have hb2 := h.ni_
  rcases is_or x s.np with ⟨i, hi, e⟩ | hx
  · subst e
    rcases is_or y s.ni with ⟨j, hj, e⟩ | hy
    · subst e
      refine Op.ok s (nI (s.q i j)) h (fun w hw K hK => ?_) (fun w hw K hK => ?_)
      · refine bX5_quantity_0 (by decide) (k_rPromise hb hw.np hi (mm_Kv 1 rfl ?_))
        refine bX5_quantity_5 (by decide) (k_rItem hb2 hw.ni hj (mm_Kv 2 rfl ?_))
        refine bX5_quantity_10 (in_nI (by omega) (by decide)) (in_nI (by omega) (by decide)) ?_
        rw [cl_nI (by omega), cl_nI (by omega), hw.q i (by omega) j (by omega)]
        exact hK _ hw fC.rfl
      · refine bX6_quantity_0 (by decide) (k_isPromise hb hw.np hi (mm_Kr 0 rfl ?_))
        refine bX6_quantity_6 (fun h => absurd h (by decide)) (fun _ => bX6_quantity_9 (by decide) (k_isItem hb2 hw.ni hj (mm_Kr 0 rfl ?_)))
        refine bX6_quantity_14 (fun h => absurd h (by decide)) (fun _ => bX6_quantity_17 (bX6_quantity_22 (fun _ => ?_) (fun h => absurd (by decide) h)))
        refine bX6_quantity_36 (in_nI (by omega) (by decide)) (in_nI (by omega) (by decide)) (bX6_quantity_44 ?_)
        rw [cl_nI (by omega), cl_nI (by omega), mm_up_row (by omega), hw.q i (by omega) j (by omega)]
        exact hK _ _ hw.th fM.th th_at (fun _ => rfl)
    · refine Op.no 1 2 h (by decide) (by decide) (fun w hw K hK => ?_) (fun r w hw K hK => ?_)
      · refine bX5_quantity_0 (by decide) (k_rPromise hb hw.np hi (mm_Kv 1 rfl ?_))
        exact bX5_quantity_5 (by decide) (k_nItem hb2 hw.ni hy (mm_Kx rfl (hK _ hw fC.rfl)))
      · refine bX6_quantity_0 (by decide) (k_isPromise hb hw.np hi (mm_Kr 0 rfl ?_))
        refine bX6_quantity_6 (fun h => absurd h (by decide)) (fun _ => bX6_quantity_9 (by decide) (k_noItem hb2 hw.ni hy (mm_Kr 0 rfl ?_)))
        refine bX6_quantity_14 (fun _ => bX6_quantity_21 (bX6_quantity_22 (fun h => absurd h (by decide)) (fun _ => bX6_quantity_32 (bX6_quantity_44 ?_)))) (fun h => absurd rfl h)
        exact hK _ _ hw.th fM.th th_at (fun h => absurd h (by decide))
  · refine Op.no 1 2 h (by decide) (by decide) (fun w hw K hK => ?_) (fun r w hw K hK => ?_)
    · exact bX5_quantity_0 (by decide) (k_nPromise hb hw.np hx (mm_Kx rfl (hK _ hw fC.rfl)))
    · refine bX6_quantity_0 (by decide) (k_noPromise hb hw.np hx (mm_Kr 0 rfl ?_))
      refine bX6_quantity_6 (fun _ => bX6_quantity_21 (bX6_quantity_22 (fun h => absurd h (by decide)) (fun _ => bX6_quantity_32 (bX6_quantity_44 ?_)))) (fun h => absurd rfl h)
      exact hK _ _ hw.th fM.th th_at (fun h => absurd h (by decide))
/-- the model's stock, known -/
theorem k_stock {l b : Nat} {v : mmM} {K : mmO → mmM → Prop} (h : Inv n s) (hw : RepM v s) (hl : l < s.nl) (hb : b < 40) (g : K (.inl (some (.int (nI (s.un l b))))) (mm_up v 81 26 0)) : mm_M kX6_stock [.ref 81, .int (nI l), .int (nI b)] v K := by
  have h1 := h.nl_
  refine bX6_stock_0 (by decide) (k_isLot h1 hw.nl hl (mm_Kr 0 rfl ?_))
  refine bX6_stock_6 (fun h => absurd h (by decide)) (fun _ => bX6_stock_9 (by decide) (k_isBin hb (mm_Kr 0 rfl ?_)))
  refine bX6_stock_13 (fun h => absurd h (by decide)) (fun _ => bX6_stock_16 (bX6_stock_21 (fun _ => ?_) (fun h => absurd (by decide) h)))
  refine bX6_stock_35 (in_nI (by omega) (by decide)) (in_nI (by omega) (by decide)) (bX6_stock_43 ?_)
  rw [cl_nI (by omega), cl_nI (by omega), mm_up_row (by omega), hw.un l (by omega)]
  exact g
theorem k_nstock {v : mmM} {K : mmO → mmM → Prop} (h : Inv n s) (hw : RepM v s) (hx : (∀ i, i < s.nl → x ≠ nI i) ∨ (∃ i, i < s.nl ∧ x = nI i) ∧ (∀ i, i < 40 → y ≠ nI i)) (g : K (.inl (some (.int 0))) (mm_up v 81 26 1)) : mm_M kX6_stock [.ref 81, .int x, .int y] v K := by
  have h1 := h.nl_
  rcases hx with hx | ⟨⟨i, hi, e⟩, hy⟩
  · refine bX6_stock_0 (by decide) (k_noLot h1 hw.nl hx (mm_Kr 0 rfl ?_))
    exact bX6_stock_6 (fun _ => bX6_stock_20 (bX6_stock_21 (fun h => absurd h (by decide)) (fun _ => bX6_stock_31 (bX6_stock_43 g)))) (fun h => absurd rfl h)
  · subst e
    refine bX6_stock_0 (by decide) (k_isLot h1 hw.nl hi (mm_Kr 0 rfl ?_))
    refine bX6_stock_6 (fun h => absurd h (by decide)) (fun _ => bX6_stock_9 (by decide) (k_noBin hy (mm_Kr 0 rfl ?_)))
    exact bX6_stock_13 (fun _ => bX6_stock_20 (bX6_stock_21 (fun h => absurd h (by decide)) (fun _ => bX6_stock_31 (bX6_stock_43 g)))) (fun h => absurd rfl h)
theorem op_stock (h : Inv n s) : Op kX5_stock kX6_stock kL_stock n [.int x, .int y] s := by
  have hb := h.nl_
  rcases is_or x s.nl with ⟨i, hi, e⟩ | hx
  · subst e
    rcases is_or y 40 with ⟨j, hj, e⟩ | hy
    · subst e
      refine Op.ok s (nI (s.un i j)) h (fun w hw K hK => ?_) (fun w hw K hK => k_stock h hw hi hj (hK _ _ hw.th fM.th th_at (fun _ => rfl)))
      refine bX5_stock_0 (by decide) (k_rLot hb hw.nl hi (mm_Kv 1 rfl ?_))
      refine bX5_stock_5 (by decide) (k_rBin hj (mm_Kv 2 rfl ?_))
      refine bX5_stock_10 (in_nI (by omega) (by decide)) (in_nI (by omega) (by decide)) ?_
      rw [cl_nI (by omega), cl_nI (by omega), hw.un i (by omega)]
      exact hK _ hw fC.rfl
    · refine Op.no 1 2 h (by decide) (by decide) (fun w hw K hK => ?_) (fun r w hw K hK => k_nstock h hw (Or.inr ⟨⟨i, hi, rfl⟩, hy⟩) (hK _ _ hw.th fM.th th_at (fun h => absurd h (by decide))))
      refine bX5_stock_0 (by decide) (k_rLot hb hw.nl hi (mm_Kv 1 rfl ?_))
      exact bX5_stock_5 (by decide) (k_nBin hy (mm_Kx rfl (hK _ hw fC.rfl)))
  · refine Op.no 1 2 h (by decide) (by decide) (fun w hw K hK => ?_) (fun r w hw K hK => k_nstock h hw (Or.inl hx) (hK _ _ hw.th fM.th th_at (fun h => absurd h (by decide))))
    exact bX5_stock_0 (by decide) (k_nLot hb hw.nl hx (mm_Kx rfl (hK _ hw fC.rfl)))
theorem sub_add (a b c : Int32) : a - b + c = a + c - b := by rw [Int32.sub_eq_add_neg, Int32.sub_eq_add_neg, Int32.add_assoc, Int32.add_comm (-b) c, ← Int32.add_assoc]
theorem pm1 {a b : Nat} (ha : a < 1000000) (hb : b < 1000000) : (nI a - 1 = nI b) ↔ a = b + 1 := by
  constructor
  · intro h
    have : nI a = nI (b + 1) := by rw [← nI_1, ← h, Int32.sub_add_cancel]
    exact (nI_eq (by omega) (by omega)).mp this
  · intro h
    subst h
    exact nI_pred b
theorem sIn_nI {l b : Nat} (hl : l < 100) (hb : b < 100) : ∀ {m : Nat}, (∀ e, e < m → s.jl e < 100 ∧ s.jf e ≤ 40 ∧ s.jt e ≤ 40) → sIn (fun e => nI (s.jl e)) (fun e => nI (s.jf e) - 1) (fun e => nI (s.jt e) - 1) (fun e => nI (s.jq e)) (nI l) (nI b) m = nI (sm (fun e => if s.jl e = l ∧ s.jt e = b + 1 then s.jq e else 0) m) - nI (sm (fun e => if s.jl e = l ∧ s.jf e = b + 1 then s.jq e else 0) m)
  | 0, _ => show (0 : Int32) = nI 0 - nI 0 by decide
  | m + 1, h => by
    obtain ⟨h1, h2, h3⟩ := h m (by omega)
    have e1 : (nI (s.jl m) = nI l) ↔ s.jl m = l := nI_eq (by omega) (by omega)
    have e2 : (nI (s.jt m) - 1 = nI b) ↔ s.jt m = b + 1 := pm1 (by omega) (by omega)
    have e3 : (nI (s.jf m) - 1 = nI b) ↔ s.jf m = b + 1 := pm1 (by omega) (by omega)
    have ih := sIn_nI hl hb (m := m) (fun e he => h e (by omega))
    unfold sIn at ih ⊢
    unfold fo
    rw [ih]
    simp only [e1, e2, e3, sm]
    generalize sm (fun e => if s.jl e = l ∧ s.jt e = b + 1 then s.jq e else 0) m = A
    generalize sm (fun e => if s.jl e = l ∧ s.jf e = b + 1 then s.jq e else 0) m = B
    have i1 : nI A - nI B + nI (s.jq m) = nI (A + s.jq m) - nI B := by rw [← nI_add, sub_add]
    have i2 : ∀ C : Int32, C - nI B - nI (s.jq m) = C - nI (B + s.jq m) := by
      intro C
      rw [← nI_add, Int32.sub_eq_add_neg, Int32.sub_eq_add_neg, Int32.sub_eq_add_neg, Int32.neg_add, Int32.add_assoc, Int32.sub_eq_add_neg]
    by_cases q1 : s.jl m = l ∧ s.jt m = b + 1
    · by_cases q2 : s.jl m = l ∧ s.jf m = b + 1
      · simp only [if_pos q1, if_pos q2, i1, i2]
      · simp only [if_pos q1, if_neg q2, i1, Nat.add_zero]
    · by_cases q2 : s.jl m = l ∧ s.jf m = b + 1
      · simp only [if_neg q1, if_pos q2, i2, Nat.add_zero]
      · simp only [if_neg q1, if_neg q2, Nat.add_zero]
theorem op_stockByJournal (h : Inv n s) : Op kX5_stockByJournal kX6_stockByJournal kL_stockByJournal n [.int x, .int y] s := by
  have hb := h.nl_
  have hne := h.ne_
  rcases is_or x s.nl with ⟨i, hi, e⟩ | hx
  · subst e
    rcases is_or y 40 with ⟨j, hj, e⟩ | hy
    · subst e
      refine Op.ok s (nI (s.un i j)) h (fun w hw K hK => ?_) (fun w hw K hK => bX6_stockByJournal_0 (by decide) (k_stock h hw hi hj (mm_Kr 0 rfl (bX6_stockByJournal_6 (hK _ _ hw.th fM.th th_at (fun _ => rfl))))))
      refine bX5_stockByJournal_0 (by decide) (k_rLot hb hw.nl hi (mm_Kv 1 rfl ?_))
      refine bX5_stockByJournal_5 (by decide) (k_rBin hj (mm_Kv 2 rfl ?_))
      refine bX5_stockByJournal_10 (by decide) (m_unitsIn hne hw.ne (mm_Kr 2 rfl (bX5_stockByJournal_19 ?_)))
      rw [hw.jl, hw.jf, hw.jt, hw.jq, sIn_nI (by omega) (by omega) (fun e he => ⟨by have := h.jl_ e he; omega, h.jf_ e he, h.jt_ e he⟩), h.js_ i j hi hj, i32_cancel]
      exact hK _ hw fC.rfl
    · refine Op.no 1 2 h (by decide) (by decide) (fun w hw K hK => ?_) (fun r w hw K hK => bX6_stockByJournal_0 (by decide) (k_nstock h hw (Or.inr ⟨⟨i, hi, rfl⟩, hy⟩) (mm_Kr 0 rfl (bX6_stockByJournal_6 (hK _ _ hw.th fM.th th_at (fun h => absurd h (by decide)))))))
      refine bX5_stockByJournal_0 (by decide) (k_rLot hb hw.nl hi (mm_Kv 1 rfl ?_))
      exact bX5_stockByJournal_5 (by decide) (k_nBin hy (mm_Kx rfl (hK _ hw fC.rfl)))
  · refine Op.no 1 2 h (by decide) (by decide) (fun w hw K hK => ?_) (fun r w hw K hK => bX6_stockByJournal_0 (by decide) (k_nstock h hw (Or.inl hx) (mm_Kr 0 rfl (bX6_stockByJournal_6 (hK _ _ hw.th fM.th th_at (fun h => absurd h (by decide)))))))
    exact bX5_stockByJournal_0 (by decide) (k_nLot hb hw.nl hx (mm_Kx rfl (hK _ hw fC.rfl)))
theorem op_load (h : Inv n s) : Op kX5_load kX6_load kL_load n [.int x] s := by
  rcases is_or x 40 with ⟨i, hi, e⟩ | hx
  · subst e
    refine Op.ok s (nI (s.bl i)) h (fun w hw K hK => ?_) (fun w hw K hK => ?_)
    · refine bX5_load_0 (by decide) (k_rBin hi (mm_Kv 1 rfl ?_))
      refine bX5_load_5 (in_nI (by omega) (by decide)) ?_
      rw [cl_nI (by omega), hw.bl]
      exact hK _ hw fC.rfl
    · refine bX6_load_0 (by decide) (k_isBin hi (mm_Kr 0 rfl ?_))
      refine bX6_load_5 (fun h => absurd h (by decide)) (fun _ => bX6_load_8 (bX6_load_13 (fun _ => ?_) (fun h => absurd (by decide) h)))
      refine bX6_load_27 (by decide) (k_load0 h.1 hw.th hi (mm_Kr 0 rfl (bX6_load_32 ?_)))
      exact hK _ _ hw.th fM.th th_at (fun _ => rfl)
  · refine Op.no 1 2 h (by decide) (by decide) (fun w hw K hK => ?_) (fun r w hw K hK => ?_)
    · exact bX5_load_0 (by decide) (k_nBin hx (mm_Kx rfl (hK _ hw fC.rfl)))
    · refine bX6_load_0 (by decide) (k_noBin hx (mm_Kr 0 rfl ?_))
      refine bX6_load_5 (fun _ => bX6_load_12 (bX6_load_13 (fun h => absurd h (by decide)) (fun _ => bX6_load_23 (bX6_load_32 ?_)))) (fun h => absurd rfl h)
      exact hK _ _ hw.th fM.th th_at (fun h => absurd h (by decide))
end Q2
