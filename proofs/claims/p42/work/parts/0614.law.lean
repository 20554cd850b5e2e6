theorem mm_hk123 : mm_hk 123 = true := by decide +kernel
theorem mm_c123 : mm_ckk 123 = true := by
  have h : mm_ops 123 = mm_o123 := by rfl
  unfold mm_ckk
  rw [h, mm_hk123]
  unfold mm_o123
  simp only [List.all_append, mm_l123_0, mm_l123_1, mm_l123_2, mm_l123_3, mm_l123_4, mm_l123_5, Bool.and_true, Bool.true_and]
