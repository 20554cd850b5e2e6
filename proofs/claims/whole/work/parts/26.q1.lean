/-! the small questions -/
section Q1
variable {n : Nat} {s : St} {x y : Int32}
theorem op_entryKind (h : Inv n s) : Op kX5_entryKind kX6_entryKind kL_entryKind n [.int x] s := by
  rcases is_or x s.ne with ⟨i, hi, e⟩ | hx
  · subst e
    refine Op.ok s (nI (s.kd i)) h (fun w hw K hK => ?_) (fun w hw K hK => ?_)
    · refine bX5_entryKind_0 (by decide) (k_rEntry h.ne_ hw.ne hi (mm_Kv 1 rfl ?_))
      refine bX5_entryKind_5 (in_nI (by have := h.ne_; omega) (by decide)) (by rw [cl_nI (by have := h.ne_; omega), hw.kd]; exact nr_char (h.kd_ i)) ?_
      rw [cl_nI (by have := h.ne_; omega), hw.kd]
      exact hK _ hw fC.rfl
    · refine bX6_entryKind_0 (by decide) (k_has h.ne_ hw.ne hi (mm_Kr 0 rfl ?_))
      refine bX6_entryKind_5 (fun _ => ?_) (fun h => absurd rfl h)
      refine bX6_entryKind_13 (in_nI (by have := h.ne_; omega) (by decide)) ?_
      refine bX6_entryKind_19 (by rw [cl_nI (by have := h.ne_; omega), mm_up_row (by decide), hw.kd]; exact nr_char (h.kd_ i)) ?_
      rw [cl_nI (by have := h.ne_; omega), mm_up_row (by decide), hw.kd]
      exact hK _ _ hw.th fM.th th_at (fun _ => rfl)
  · refine Op.no 1 2 h (by decide) (by decide) (fun w hw K hK => ?_) (fun r w hw K hK => ?_)
    · exact bX5_entryKind_0 (by decide) (k_nEntry h.ne_ hw.ne hx (mm_Kx rfl (hK _ hw fC.rfl)))
    · refine bX6_entryKind_0 (by decide) (k_lacks h.ne_ hw.ne hx (mm_Kr 0 rfl ?_))
      refine bX6_entryKind_5 (fun h => absurd h (by decide)) (fun _ => bX6_entryKind_8 ?_)
      refine bX6_entryKind_19 (by decide) ?_
      exact hK _ _ hw.th fM.th th_at (fun h => absurd h (by decide))
theorem op_entryLot (h : Inv n s) : Op kX5_entryLot kX6_entryLot kL_entryLot n [.int x] s := by
  rcases is_or x s.ne with ⟨i, hi, e⟩ | hx
  · subst e
    refine Op.ok s (nI (s.jl i)) h (fun w hw K hK => ?_) (fun w hw K hK => ?_)
    · refine bX5_entryLot_0 (by decide) (k_rEntry h.ne_ hw.ne hi (mm_Kv 1 rfl ?_))
      refine bX5_entryLot_5 (in_nI (by have := h.ne_; omega) (by decide)) ?_
      rw [cl_nI (by have := h.ne_; omega), hw.jl]
      exact hK _ hw fC.rfl
    · refine bX6_entryLot_0 (by decide) (k_has h.ne_ hw.ne hi (mm_Kr 0 rfl ?_))
      refine bX6_entryLot_5 (fun _ => ?_) (fun h => absurd rfl h)
      refine bX6_entryLot_12 (in_nI (by have := h.ne_; omega) (by decide)) ?_
      refine bX6_entryLot_18 ?_
      rw [cl_nI (by have := h.ne_; omega), mm_up_row (by decide), hw.jl]
      exact hK _ _ hw.th fM.th th_at (fun _ => rfl)
  · refine Op.no 1 2 h (by decide) (by decide) (fun w hw K hK => ?_) (fun r w hw K hK => ?_)
    · exact bX5_entryLot_0 (by decide) (k_nEntry h.ne_ hw.ne hx (mm_Kx rfl (hK _ hw fC.rfl)))
    · refine bX6_entryLot_0 (by decide) (k_lacks h.ne_ hw.ne hx (mm_Kr 0 rfl ?_))
      refine bX6_entryLot_5 (fun h => absurd h (by decide)) (fun _ => bX6_entryLot_8 ?_)
      refine bX6_entryLot_18 ?_
      exact hK _ _ hw.th fM.th th_at (fun h => absurd h (by decide))
theorem op_entryFrom (h : Inv n s) : Op kX5_entryFrom kX6_entryFrom kL_entryFrom n [.int x] s := by
  rcases is_or x s.ne with ⟨i, hi, e⟩ | hx
  · subst e
    refine Op.ok s (nI (s.jf i) - 1) h (fun w hw K hK => ?_) (fun w hw K hK => ?_)
    · refine bX5_entryFrom_0 (by decide) (k_rEntry h.ne_ hw.ne hi (mm_Kv 1 rfl ?_))
      refine bX5_entryFrom_5 (in_nI (by have := h.ne_; omega) (by decide)) ?_
      rw [cl_nI (by have := h.ne_; omega), hw.jf]
      exact hK _ hw fC.rfl
    · refine bX6_entryFrom_0 (by decide) (k_has h.ne_ hw.ne hi (mm_Kr 0 rfl ?_))
      refine bX6_entryFrom_5 (fun _ => ?_) (fun h => absurd rfl h)
      refine bX6_entryFrom_12 (in_nI (by have := h.ne_; omega) (by decide)) ?_
      refine bX6_entryFrom_18 ?_
      rw [cl_nI (by have := h.ne_; omega), mm_up_row (by decide), hw.jf]
      exact hK _ _ hw.th fM.th th_at (fun _ => rfl)
  · refine Op.no 1 2 h (by decide) (by decide) (fun w hw K hK => ?_) (fun r w hw K hK => ?_)
    · exact bX5_entryFrom_0 (by decide) (k_nEntry h.ne_ hw.ne hx (mm_Kx rfl (hK _ hw fC.rfl)))
    · refine bX6_entryFrom_0 (by decide) (k_lacks h.ne_ hw.ne hx (mm_Kr 0 rfl ?_))
      refine bX6_entryFrom_5 (fun h => absurd h (by decide)) (fun _ => bX6_entryFrom_8 ?_)
      refine bX6_entryFrom_18 ?_
      exact hK _ _ hw.th fM.th th_at (fun h => absurd h (by decide))
theorem op_entryTo (h : Inv n s) : Op kX5_entryTo kX6_entryTo kL_entryTo n [.int x] s := by
  rcases is_or x s.ne with ⟨i, hi, e⟩ | hx
  · subst e
    refine Op.ok s (nI (s.jt i) - 1) h (fun w hw K hK => ?_) (fun w hw K hK => ?_)
    · refine bX5_entryTo_0 (by decide) (k_rEntry h.ne_ hw.ne hi (mm_Kv 1 rfl ?_))
      refine bX5_entryTo_5 (in_nI (by have := h.ne_; omega) (by decide)) ?_
      rw [cl_nI (by have := h.ne_; omega), hw.jt]
      exact hK _ hw fC.rfl
    · refine bX6_entryTo_0 (by decide) (k_has h.ne_ hw.ne hi (mm_Kr 0 rfl ?_))
      refine bX6_entryTo_5 (fun _ => ?_) (fun h => absurd rfl h)
      refine bX6_entryTo_12 (in_nI (by have := h.ne_; omega) (by decide)) ?_
      refine bX6_entryTo_18 ?_
      rw [cl_nI (by have := h.ne_; omega), mm_up_row (by decide), hw.jt]
      exact hK _ _ hw.th fM.th th_at (fun _ => rfl)
  · refine Op.no 1 2 h (by decide) (by decide) (fun w hw K hK => ?_) (fun r w hw K hK => ?_)
    · exact bX5_entryTo_0 (by decide) (k_nEntry h.ne_ hw.ne hx (mm_Kx rfl (hK _ hw fC.rfl)))
    · refine bX6_entryTo_0 (by decide) (k_lacks h.ne_ hw.ne hx (mm_Kr 0 rfl ?_))
      refine bX6_entryTo_5 (fun h => absurd h (by decide)) (fun _ => bX6_entryTo_8 ?_)
      refine bX6_entryTo_18 ?_
      exact hK _ _ hw.th fM.th th_at (fun h => absurd h (by decide))
theorem op_entryQuantity (h : Inv n s) : Op kX5_entryQuantity kX6_entryQuantity kL_entryQuantity n [.int x] s := by
  rcases is_or x s.ne with ⟨i, hi, e⟩ | hx
  · subst e
    refine Op.ok s (nI (s.jq i)) h (fun w hw K hK => ?_) (fun w hw K hK => ?_)
    · refine bX5_entryQuantity_0 (by decide) (k_rEntry h.ne_ hw.ne hi (mm_Kv 1 rfl ?_))
      refine bX5_entryQuantity_5 (in_nI (by have := h.ne_; omega) (by decide)) ?_
      rw [cl_nI (by have := h.ne_; omega), hw.jq]
      exact hK _ hw fC.rfl
    · refine bX6_entryQuantity_0 (by decide) (k_has h.ne_ hw.ne hi (mm_Kr 0 rfl ?_))
      refine bX6_entryQuantity_5 (fun _ => ?_) (fun h => absurd rfl h)
      refine bX6_entryQuantity_12 (in_nI (by have := h.ne_; omega) (by decide)) ?_
      refine bX6_entryQuantity_18 ?_
      rw [cl_nI (by have := h.ne_; omega), mm_up_row (by decide), hw.jq]
      exact hK _ _ hw.th fM.th th_at (fun _ => rfl)
  · refine Op.no 1 2 h (by decide) (by decide) (fun w hw K hK => ?_) (fun r w hw K hK => ?_)
    · exact bX5_entryQuantity_0 (by decide) (k_nEntry h.ne_ hw.ne hx (mm_Kx rfl (hK _ hw fC.rfl)))
    · refine bX6_entryQuantity_0 (by decide) (k_lacks h.ne_ hw.ne hx (mm_Kr 0 rfl ?_))
      refine bX6_entryQuantity_5 (fun h => absurd h (by decide)) (fun _ => bX6_entryQuantity_8 ?_)
      refine bX6_entryQuantity_18 ?_
      exact hK _ _ hw.th fM.th th_at (fun h => absurd h (by decide))
end Q1
