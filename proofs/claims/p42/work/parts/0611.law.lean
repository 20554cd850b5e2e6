theorem mm_l122_1_0 : ((mm_o122_1.drop 0).take 25).all (fun q => mm_ck 122 q.1 q.2) = true := by decide +kernel
theorem mm_l122_1_1 : ((mm_o122_1.drop 25).take 25).all (fun q => mm_ck 122 q.1 q.2) = true := by decide +kernel
theorem mm_l122_1_2 : ((mm_o122_1.drop 50).take 25).all (fun q => mm_ck 122 q.1 q.2) = true := by decide +kernel
theorem mm_l122_1_3 : ((mm_o122_1.drop 75).take 25).all (fun q => mm_ck 122 q.1 q.2) = true := by decide +kernel
theorem mm_l122_1 : mm_o122_1.all (fun q => mm_ck 122 q.1 q.2) = true := by
  have h : mm_o122_1 = (mm_o122_1.drop 0).take 25 ++ ((mm_o122_1.drop 25).take 25 ++ ((mm_o122_1.drop 50).take 25 ++ ((mm_o122_1.drop 75).take 25))) := by decide +kernel
  rw [h, List.all_append, List.all_append, List.all_append, mm_l122_1_0, mm_l122_1_1, mm_l122_1_2, mm_l122_1_3]
  rfl
theorem mm_l122_2_0 : ((mm_o122_2.drop 0).take 25).all (fun q => mm_ck 122 q.1 q.2) = true := by decide +kernel
theorem mm_l122_2_1 : ((mm_o122_2.drop 25).take 25).all (fun q => mm_ck 122 q.1 q.2) = true := by decide +kernel
theorem mm_l122_2_2 : ((mm_o122_2.drop 50).take 25).all (fun q => mm_ck 122 q.1 q.2) = true := by decide +kernel
theorem mm_l122_2_3 : ((mm_o122_2.drop 75).take 25).all (fun q => mm_ck 122 q.1 q.2) = true := by decide +kernel
theorem mm_l122_2 : mm_o122_2.all (fun q => mm_ck 122 q.1 q.2) = true := by
  have h : mm_o122_2 = (mm_o122_2.drop 0).take 25 ++ ((mm_o122_2.drop 25).take 25 ++ ((mm_o122_2.drop 50).take 25 ++ ((mm_o122_2.drop 75).take 25))) := by decide +kernel
  rw [h, List.all_append, List.all_append, List.all_append, mm_l122_2_0, mm_l122_2_1, mm_l122_2_2, mm_l122_2_3]
  rfl
theorem mm_l122_3_0 : ((mm_o122_3.drop 0).take 2).all (fun q => mm_ck 122 q.1 q.2) = true := by decide +kernel
theorem mm_l122_3 : mm_o122_3.all (fun q => mm_ck 122 q.1 q.2) = true := by
  have h : mm_o122_3 = (mm_o122_3.drop 0).take 2 := by decide +kernel
  rw [h, mm_l122_3_0]
theorem mm_hk122 : mm_hk 122 = true := by decide +kernel
theorem mm_c122 : mm_ckk 122 = true := by
  have h : mm_ops 122 = mm_o122 := by rfl
  unfold mm_ckk
  rw [h, mm_hk122]
  unfold mm_o122
  simp only [List.all_append, mm_l122_0, mm_l122_1, mm_l122_2, mm_l122_3, Bool.and_true, Bool.true_and]
theorem mm_l123_0_0 : ((mm_o123_0.drop 0).take 25).all (fun q => mm_ck 123 q.1 q.2) = true := by decide +kernel
theorem mm_l123_0_1 : ((mm_o123_0.drop 25).take 25).all (fun q => mm_ck 123 q.1 q.2) = true := by decide +kernel
theorem mm_l123_0_2 : ((mm_o123_0.drop 50).take 18).all (fun q => mm_ck 123 q.1 q.2) = true := by decide +kernel
theorem mm_lc123_123 : mm_ck 123 123 (.invokestatic 121, 126, 211) = true := by
  unfold mm_ck
  simp only []
  rw [if_neg (by decide), mm_fm121]
  decide +kernel
theorem mm_l123_0_3 : ((mm_o123_0.drop 68).take 1).all (fun q => mm_ck 123 q.1 q.2) = true := by
  have h : (mm_o123_0.drop 68).take 1 = [(123, .invokestatic 121, 126, 211)] := by rfl
  rw [h, List.all_cons, List.all_nil, Bool.and_true]
  exact mm_lc123_123
theorem mm_l123_0_4 : ((mm_o123_0.drop 69).take 25).all (fun q => mm_ck 123 q.1 q.2) = true := by decide +kernel
theorem mm_l123_0_5 : ((mm_o123_0.drop 94).take 6).all (fun q => mm_ck 123 q.1 q.2) = true := by decide +kernel
theorem mm_l123_0 : mm_o123_0.all (fun q => mm_ck 123 q.1 q.2) = true := by
  have h : mm_o123_0 = (mm_o123_0.drop 0).take 25 ++ ((mm_o123_0.drop 25).take 25 ++ ((mm_o123_0.drop 50).take 18 ++ ((mm_o123_0.drop 68).take 1 ++ ((mm_o123_0.drop 69).take 25 ++ ((mm_o123_0.drop 94).take 6))))) := by decide +kernel
  rw [h, List.all_append, List.all_append, List.all_append, List.all_append, List.all_append, mm_l123_0_0, mm_l123_0_1, mm_l123_0_2, mm_l123_0_3, mm_l123_0_4, mm_l123_0_5]
  rfl
