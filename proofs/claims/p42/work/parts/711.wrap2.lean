/-- a call of a little method that changes things: what it answers, what then holds -/
def LwO (jl n : Nat) (ar : List Value) (s : St) (X : St → Prop) : Prop := ∃ (s' : St) (r : Int32), Inv n s' ∧ ((0 ≤ r.toInt ∧ X s') ∨ (r.toInt < -1000 ∧ s' = s)) ∧ opC jl (.ref 0 :: ar) s s' (.inl (some (.int r)))
section WO
variable {n : Nat} {s : St} {x1 x2 x3 x4 : Int32} {X : St → Prop}
theorem oW_substitutes (h : Op kX5_addSubstitute kL_substitutes n [.int x1, .int x2, .int x3] s X) : LwO kL_substitutes n [.int x1, .int x2, .int x3] s X := by
  rcases h with ⟨s', r, hi, hx, hc⟩ | ⟨e, x, hd, hx, hi, hc⟩
  · exact ⟨s', r, hi, Or.inl hx, wA_substitutes hc⟩
  · exact ⟨s, x, hi, Or.inr ⟨hx, rfl⟩, wX_substitutes hc hd⟩
theorem oW_receives (h : Op kX5_receive kL_receives n [.int x1, .int x2, .int x3, .int x4] s X) : LwO kL_receives n [.int x1, .int x2, .int x3, .int x4] s X := by
  rcases h with ⟨s', r, hi, hx, hc⟩ | ⟨e, x, hd, hx, hi, hc⟩
  · exact ⟨s', r, hi, Or.inl hx, wA_receives hc⟩
  · exact ⟨s, x, hi, Or.inr ⟨hx, rfl⟩, wX_receives hc hd⟩
theorem oW_moves (h : Op kX5_move kL_moves n [.int x1, .int x2, .int x3, .int x4] s X) : LwO kL_moves n [.int x1, .int x2, .int x3, .int x4] s X := by
  rcases h with ⟨s', r, hi, hx, hc⟩ | ⟨e, x, hd, hx, hi, hc⟩
  · exact ⟨s', r, hi, Or.inl hx, wA_moves hc⟩
  · exact ⟨s, x, hi, Or.inr ⟨hx, rfl⟩, wX_moves hc hd⟩
theorem oW_disposes (h : Op kX5_dispose kL_disposes n [.int x1] s X) : LwO kL_disposes n [.int x1] s X := by
  rcases h with ⟨s', r, hi, hx, hc⟩ | ⟨e, x, hd, hx, hi, hc⟩
  · exact ⟨s', r, hi, Or.inl hx, wA_disposes hc⟩
  · exact ⟨s, x, hi, Or.inr ⟨hx, rfl⟩, wX_disposes hc hd⟩
theorem oW_counts (h : Op kX5_count kL_counts n [.int x1, .int x2, .int x3] s X) : LwO kL_counts n [.int x1, .int x2, .int x3] s X := by
  rcases h with ⟨s', r, hi, hx, hc⟩ | ⟨e, x, hd, hx, hi, hc⟩
  · exact ⟨s', r, hi, Or.inl hx, wA_counts hc⟩
  · exact ⟨s, x, hi, Or.inr ⟨hx, rfl⟩, wX_counts hc hd⟩
theorem oW_promises (h : Op kX5_promise kL_promises n [.int x1, .int x2, .int x3, .int x4] s X) : LwO kL_promises n [.int x1, .int x2, .int x3, .int x4] s X := by
  rcases h with ⟨s', r, hi, hx, hc⟩ | ⟨e, x, hd, hx, hi, hc⟩
  · exact ⟨s', r, hi, Or.inl hx, wA_promises hc⟩
  · exact ⟨s, x, hi, Or.inr ⟨hx, rfl⟩, wX_promises hc hd⟩
theorem oW_cancels (h : Op kX5_cancel kL_cancels n [.int x1] s X) : LwO kL_cancels n [.int x1] s X := by
  rcases h with ⟨s', r, hi, hx, hc⟩ | ⟨e, x, hd, hx, hi, hc⟩
  · exact ⟨s', r, hi, Or.inl hx, wA_cancels hc⟩
  · exact ⟨s, x, hi, Or.inr ⟨hx, rfl⟩, wX_cancels hc hd⟩
theorem oW_picks (h : Op kX5_pick kL_picks n [.int x1] s X) : LwO kL_picks n [.int x1] s X := by
  rcases h with ⟨s', r, hi, hx, hc⟩ | ⟨e, x, hd, hx, hi, hc⟩
  · exact ⟨s', r, hi, Or.inl hx, wA_picks hc⟩
  · exact ⟨s, x, hi, Or.inr ⟨hx, rfl⟩, wX_picks hc hd⟩
theorem oW_goes (h : Op kX5_pass kL_goes n [.int x1] s X) : LwO kL_goes n [.int x1] s X := by
  rcases h with ⟨s', r, hi, hx, hc⟩ | ⟨e, x, hd, hx, hi, hc⟩
  · exact ⟨s', r, hi, Or.inl hx, wA_goes hc⟩
  · exact ⟨s, x, hi, Or.inr ⟨hx, rfl⟩, wX_goes hc hd⟩
end WO
