theorem mm_l123_3_0 : ((mm_o123_3.drop 0).take 25).all (fun q => mm_ck 123 q.1 q.2) = true := by decide +kernel
theorem mm_l123_3_1 : ((mm_o123_3.drop 25).take 25).all (fun q => mm_ck 123 q.1 q.2) = true := by decide +kernel
theorem mm_l123_3_2 : ((mm_o123_3.drop 50).take 25).all (fun q => mm_ck 123 q.1 q.2) = true := by decide +kernel
theorem mm_l123_3_3 : ((mm_o123_3.drop 75).take 25).all (fun q => mm_ck 123 q.1 q.2) = true := by decide +kernel
theorem mm_l123_3 : mm_o123_3.all (fun q => mm_ck 123 q.1 q.2) = true := by
  have h : mm_o123_3 = (mm_o123_3.drop 0).take 25 ++ ((mm_o123_3.drop 25).take 25 ++ ((mm_o123_3.drop 50).take 25 ++ ((mm_o123_3.drop 75).take 25))) := by decide +kernel
  rw [h, List.all_append, List.all_append, List.all_append, mm_l123_3_0, mm_l123_3_1, mm_l123_3_2, mm_l123_3_3]
  rfl
theorem mm_l123_4_0 : ((mm_o123_4.drop 0).take 25).all (fun q => mm_ck 123 q.1 q.2) = true := by decide +kernel
theorem mm_l123_4_1 : ((mm_o123_4.drop 25).take 25).all (fun q => mm_ck 123 q.1 q.2) = true := by decide +kernel
theorem mm_l123_4_2 : ((mm_o123_4.drop 50).take 25).all (fun q => mm_ck 123 q.1 q.2) = true := by decide +kernel
theorem mm_l123_4_3 : ((mm_o123_4.drop 75).take 25).all (fun q => mm_ck 123 q.1 q.2) = true := by decide +kernel
theorem mm_l123_4 : mm_o123_4.all (fun q => mm_ck 123 q.1 q.2) = true := by
  have h : mm_o123_4 = (mm_o123_4.drop 0).take 25 ++ ((mm_o123_4.drop 25).take 25 ++ ((mm_o123_4.drop 50).take 25 ++ ((mm_o123_4.drop 75).take 25))) := by decide +kernel
  rw [h, List.all_append, List.all_append, List.all_append, mm_l123_4_0, mm_l123_4_1, mm_l123_4_2, mm_l123_4_3]
  rfl
theorem mm_l123_5_0 : ((mm_o123_5.drop 0).take 17).all (fun q => mm_ck 123 q.1 q.2) = true := by decide +kernel
theorem mm_lc123_1048 : mm_ck 123 1048 (.invokestatic 121, 1051, 211) = true := by
  unfold mm_ck
  simp only []
  rw [if_neg (by decide), mm_fm121]
  decide +kernel
theorem mm_l123_5_1 : ((mm_o123_5.drop 17).take 1).all (fun q => mm_ck 123 q.1 q.2) = true := by
  have h : (mm_o123_5.drop 17).take 1 = [(1048, .invokestatic 121, 1051, 211)] := by rfl
  rw [h, List.all_cons, List.all_nil, Bool.and_true]
  exact mm_lc123_1048
theorem mm_l123_5_2 : ((mm_o123_5.drop 18).take 7).all (fun q => mm_ck 123 q.1 q.2) = true := by decide +kernel
theorem mm_l123_5 : mm_o123_5.all (fun q => mm_ck 123 q.1 q.2) = true := by
  have h : mm_o123_5 = (mm_o123_5.drop 0).take 17 ++ ((mm_o123_5.drop 17).take 1 ++ ((mm_o123_5.drop 18).take 7)) := by decide +kernel
  rw [h, List.all_append, List.all_append, mm_l123_5_0, mm_l123_5_1, mm_l123_5_2]
  rfl
