theorem mm_l123_1_0 : ((mm_o123_1.drop 0).take 25).all (fun q => mm_ck 123 q.1 q.2) = true := by decide +kernel
theorem mm_l123_1_1 : ((mm_o123_1.drop 25).take 25).all (fun q => mm_ck 123 q.1 q.2) = true := by decide +kernel
theorem mm_l123_1_2 : ((mm_o123_1.drop 50).take 25).all (fun q => mm_ck 123 q.1 q.2) = true := by decide +kernel
theorem mm_l123_1_3 : ((mm_o123_1.drop 75).take 25).all (fun q => mm_ck 123 q.1 q.2) = true := by decide +kernel
theorem mm_l123_1 : mm_o123_1.all (fun q => mm_ck 123 q.1 q.2) = true := by
  have h : mm_o123_1 = (mm_o123_1.drop 0).take 25 ++ ((mm_o123_1.drop 25).take 25 ++ ((mm_o123_1.drop 50).take 25 ++ ((mm_o123_1.drop 75).take 25))) := by decide +kernel
  rw [h, List.all_append, List.all_append, List.all_append, mm_l123_1_0, mm_l123_1_1, mm_l123_1_2, mm_l123_1_3]
  rfl
theorem mm_l123_2_0 : ((mm_o123_2.drop 0).take 25).all (fun q => mm_ck 123 q.1 q.2) = true := by decide +kernel
theorem mm_l123_2_1 : ((mm_o123_2.drop 25).take 3).all (fun q => mm_ck 123 q.1 q.2) = true := by decide +kernel
theorem mm_lc123_475 : mm_ck 123 475 (.invokestatic 121, 478, 211) = true := by
  unfold mm_ck
  simp only []
  rw [if_neg (by decide), mm_fm121]
  decide +kernel
theorem mm_l123_2_2 : ((mm_o123_2.drop 28).take 1).all (fun q => mm_ck 123 q.1 q.2) = true := by
  have h : (mm_o123_2.drop 28).take 1 = [(475, .invokestatic 121, 478, 211)] := by rfl
  rw [h, List.all_cons, List.all_nil, Bool.and_true]
  exact mm_lc123_475
theorem mm_l123_2_3 : ((mm_o123_2.drop 29).take 25).all (fun q => mm_ck 123 q.1 q.2) = true := by decide +kernel
theorem mm_l123_2_4 : ((mm_o123_2.drop 54).take 1).all (fun q => mm_ck 123 q.1 q.2) = true := by decide +kernel
theorem mm_lc123_526 : mm_ck 123 526 (.invokestatic 122, 529, 244) = true := by
  unfold mm_ck
  simp only []
  rw [if_neg (by decide), mm_fm122]
  decide +kernel
theorem mm_l123_2_5 : ((mm_o123_2.drop 55).take 1).all (fun q => mm_ck 123 q.1 q.2) = true := by
  have h : (mm_o123_2.drop 55).take 1 = [(526, .invokestatic 122, 529, 244)] := by rfl
  rw [h, List.all_cons, List.all_nil, Bool.and_true]
  exact mm_lc123_526
theorem mm_l123_2_6 : ((mm_o123_2.drop 56).take 7).all (fun q => mm_ck 123 q.1 q.2) = true := by decide +kernel
theorem mm_lc123_542 : mm_ck 123 542 (.invokestatic 122, 545, 244) = true := by
  unfold mm_ck
  simp only []
  rw [if_neg (by decide), mm_fm122]
  decide +kernel
theorem mm_l123_2_7 : ((mm_o123_2.drop 63).take 1).all (fun q => mm_ck 123 q.1 q.2) = true := by
  have h : (mm_o123_2.drop 63).take 1 = [(542, .invokestatic 122, 545, 244)] := by rfl
  rw [h, List.all_cons, List.all_nil, Bool.and_true]
  exact mm_lc123_542
theorem mm_l123_2_8 : ((mm_o123_2.drop 64).take 5).all (fun q => mm_ck 123 q.1 q.2) = true := by decide +kernel
theorem mm_lc123_552 : mm_ck 123 552 (.invokestatic 121, 555, 211) = true := by
  unfold mm_ck
  simp only []
  rw [if_neg (by decide), mm_fm121]
  decide +kernel
theorem mm_l123_2_9 : ((mm_o123_2.drop 69).take 1).all (fun q => mm_ck 123 q.1 q.2) = true := by
  have h : (mm_o123_2.drop 69).take 1 = [(552, .invokestatic 121, 555, 211)] := by rfl
  rw [h, List.all_cons, List.all_nil, Bool.and_true]
  exact mm_lc123_552
theorem mm_l123_2_10 : ((mm_o123_2.drop 70).take 25).all (fun q => mm_ck 123 q.1 q.2) = true := by decide +kernel
theorem mm_l123_2_11 : ((mm_o123_2.drop 95).take 5).all (fun q => mm_ck 123 q.1 q.2) = true := by decide +kernel
theorem mm_l123_2 : mm_o123_2.all (fun q => mm_ck 123 q.1 q.2) = true := by
  have h : mm_o123_2 = (mm_o123_2.drop 0).take 25 ++ ((mm_o123_2.drop 25).take 3 ++ ((mm_o123_2.drop 28).take 1 ++ ((mm_o123_2.drop 29).take 25 ++ ((mm_o123_2.drop 54).take 1 ++ ((mm_o123_2.drop 55).take 1 ++ ((mm_o123_2.drop 56).take 7 ++ ((mm_o123_2.drop 63).take 1 ++ ((mm_o123_2.drop 64).take 5 ++ ((mm_o123_2.drop 69).take 1 ++ ((mm_o123_2.drop 70).take 25 ++ ((mm_o123_2.drop 95).take 5))))))))))) := by decide +kernel
  rw [h, List.all_append, List.all_append, List.all_append, List.all_append, List.all_append, List.all_append, List.all_append, List.all_append, List.all_append, List.all_append, List.all_append, mm_l123_2_0, mm_l123_2_1, mm_l123_2_2, mm_l123_2_3, mm_l123_2_4, mm_l123_2_5, mm_l123_2_6, mm_l123_2_7, mm_l123_2_8, mm_l123_2_9, mm_l123_2_10, mm_l123_2_11]
  rfl
