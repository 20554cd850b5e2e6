/-! the calls that never throw; a line of a pick after another -/
section DI
variable {n : Nat} {s : St} {w : mmM} {K : mmO → mmM → Prop}
theorem k_dayC (hw : RepC w s) (g : K (.inl (some (.int (nI s.td)))) w) : mm_M kX5_day [.ref 0] w K := bX5_day_0 (by rw [hw.td]; exact g)
theorem k_lotsC (hw : RepC w s) (g : K (.inl (some (.int (nI s.nl)))) w) : mm_M kX5_lots [.ref 0] w K := bX5_lots_0 (by rw [hw.nl]; exact g)
theorem k_entriesC (hw : RepC w s) (g : K (.inl (some (.int (nI s.ne)))) w) : mm_M kX5_entries [.ref 0] w K := bX5_entries_0 (by rw [hw.ne]; exact g)
/-- line (b1, l1) comes after line (b, l) along the route -/
def aft (b1 l1 b l : Nat) : Prop := (b1 = b ∧ l < l1) ∨ (b1 ≠ b ∧ rt b < rt b1)
theorem k_isAfter {i b1 l1 b l : Nat} (hi : i < 60) (h1 : w 78 i = nI b1) (h2 : w 79 i = nI l1) (hb1 : b1 < 40) (hb : b < 40) (hl1 : l1 < 1000) (hl : l < 1000) (gt : aft b1 l1 b l → K (.inl (some (.int 1))) w) (gf : ¬ aft b1 l1 b l → K (.inl (some (.int 0))) w) : mm_M kX3_isAfter [.ref 5, .int (nI i), .int (nI b), .int (nI l)] w K := by
  have a1 := in_nI hi (show 60 < 1000000 by decide)
  have r1 := rt_lt hb1
  have r2 := rt_lt hb
  refine bX3_isAfter_0 a1 (fun q => ?_) (fun q => ?_) <;> rw [cl_nI (by omega), h1, nI_eq (by omega) (by omega)] at q
  · refine bX3_isAfter_10 a1 (fun q2 => ?_) (fun q2 => ?_) <;> rw [cl_nI (by omega), h2, nI_lei (by omega) (by omega)] at q2
    · refine bX3_isAfter_24 (bX3_isAfter_25 nb_0 (gf (fun z => ?_)))
      rcases z with z | z
      · omega
      · exact z.1 q
    · exact bX3_isAfter_20 (bX3_isAfter_25 nb_1 (gt (Or.inl ⟨q, by omega⟩)))
  · refine bX3_isAfter_26 a1 (by decide) ?_
    rw [cl_nI (by omega), h1]
    refine m_alongRoute hb1 (mm_Kr 0 rfl (bX3_isAfter_35 (by decide) (m_alongRoute hb (mm_Kr 0 rfl ?_))))
    refine bX3_isAfter_39 (fun q2 => ?_) (fun q2 => ?_) <;> rw [nI_lei (by omega) (by omega)] at q2
    · refine bX3_isAfter_46 (bX3_isAfter_47 nb_0 (gf (fun z => ?_)))
      rcases z with z | z
      · exact q z.1
      · omega
    · exact bX3_isAfter_42 (bX3_isAfter_47 nb_1 (gt (Or.inr ⟨q, by omega⟩)))
end DI
