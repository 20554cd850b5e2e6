/-! the long methods of the law, in pieces -/
theorem mm_l121_0_0 : ((mm_o121_0.drop 0).take 25).all (fun q => mm_ck 121 q.1 q.2) = true := by decide +kernel
theorem mm_l121_0_1 : ((mm_o121_0.drop 25).take 25).all (fun q => mm_ck 121 q.1 q.2) = true := by decide +kernel
theorem mm_l121_0_2 : ((mm_o121_0.drop 50).take 25).all (fun q => mm_ck 121 q.1 q.2) = true := by decide +kernel
theorem mm_l121_0_3 : ((mm_o121_0.drop 75).take 25).all (fun q => mm_ck 121 q.1 q.2) = true := by decide +kernel
theorem mm_l121_0 : mm_o121_0.all (fun q => mm_ck 121 q.1 q.2) = true := by
  have h : mm_o121_0 = (mm_o121_0.drop 0).take 25 ++ ((mm_o121_0.drop 25).take 25 ++ ((mm_o121_0.drop 50).take 25 ++ ((mm_o121_0.drop 75).take 25))) := by decide +kernel
  rw [h, List.all_append, List.all_append, List.all_append, mm_l121_0_0, mm_l121_0_1, mm_l121_0_2, mm_l121_0_3]
  rfl
theorem mm_l121_1_0 : ((mm_o121_1.drop 0).take 25).all (fun q => mm_ck 121 q.1 q.2) = true := by decide +kernel
theorem mm_l121_1_1 : ((mm_o121_1.drop 25).take 25).all (fun q => mm_ck 121 q.1 q.2) = true := by decide +kernel
theorem mm_l121_1_2 : ((mm_o121_1.drop 50).take 25).all (fun q => mm_ck 121 q.1 q.2) = true := by decide +kernel
theorem mm_l121_1 : mm_o121_1.all (fun q => mm_ck 121 q.1 q.2) = true := by
  have h : mm_o121_1 = (mm_o121_1.drop 0).take 25 ++ ((mm_o121_1.drop 25).take 25 ++ ((mm_o121_1.drop 50).take 25)) := by decide +kernel
  rw [h, List.all_append, List.all_append, mm_l121_1_0, mm_l121_1_1, mm_l121_1_2]
  rfl
theorem mm_hk121 : mm_hk 121 = true := by decide +kernel
theorem mm_c121 : mm_ckk 121 = true := by
  have h : mm_ops 121 = mm_o121 := by rfl
  unfold mm_ckk
  rw [h, mm_hk121]
  unfold mm_o121
  simp only [List.all_append, mm_l121_0, mm_l121_1, Bool.and_true, Bool.true_and]
theorem mm_l122_0_0 : ((mm_o122_0.drop 0).take 25).all (fun q => mm_ck 122 q.1 q.2) = true := by decide +kernel
theorem mm_l122_0_1 : ((mm_o122_0.drop 25).take 25).all (fun q => mm_ck 122 q.1 q.2) = true := by decide +kernel
theorem mm_l122_0_2 : ((mm_o122_0.drop 50).take 25).all (fun q => mm_ck 122 q.1 q.2) = true := by decide +kernel
theorem mm_l122_0_3 : ((mm_o122_0.drop 75).take 25).all (fun q => mm_ck 122 q.1 q.2) = true := by decide +kernel
theorem mm_l122_0 : mm_o122_0.all (fun q => mm_ck 122 q.1 q.2) = true := by
  have h : mm_o122_0 = (mm_o122_0.drop 0).take 25 ++ ((mm_o122_0.drop 25).take 25 ++ ((mm_o122_0.drop 50).take 25 ++ ((mm_o122_0.drop 75).take 25))) := by decide +kernel
  rw [h, List.all_append, List.all_append, List.all_append, mm_l122_0_0, mm_l122_0_1, mm_l122_0_2, mm_l122_0_3]
  rfl
theorem mm_l122_1_0 : ((mm_o122_1.drop 0).take 25).all (fun q => mm_ck 122 q.1 q.2) = true := by decide +kernel
theorem mm_l122_1_1 : ((mm_o122_1.drop 25).take 25).all (fun q => mm_ck 122 q.1 q.2) = true := by decide +kernel
theorem mm_l122_1_2 : ((mm_o122_1.drop 50).take 25).all (fun q => mm_ck 122 q.1 q.2) = true := by decide +kernel
theorem mm_l122_1_3 : ((mm_o122_1.drop 75).take 25).all (fun q => mm_ck 122 q.1 q.2) = true := by decide +kernel
theorem mm_l122_1 : mm_o122_1.all (fun q => mm_ck 122 q.1 q.2) = true := by
  have h : mm_o122_1 = (mm_o122_1.drop 0).take 25 ++ ((mm_o122_1.drop 25).take 25 ++ ((mm_o122_1.drop 50).take 25 ++ ((mm_o122_1.drop 75).take 25))) := by decide +kernel
  rw [h, List.all_append, List.all_append, List.all_append, mm_l122_1_0, mm_l122_1_1, mm_l122_1_2, mm_l122_1_3]
  rfl
theorem mm_l122_2_0 : ((mm_o122_2.drop 0).take 25).all (fun q => mm_ck 122 q.1 q.2) = true := by decide +kernel
theorem mm_l122_2_1 : ((mm_o122_2.drop 25).take 25).all (fun q => mm_ck 122 q.1 q.2) = true := by decide +kernel
theorem mm_l122_2_2 : ((mm_o122_2.drop 50).take 25).all (fun q => mm_ck 122 q.1 q.2) = true := by decide +kernel
theorem mm_l122_2_3 : ((mm_o122_2.drop 75).take 25).all (fun q => mm_ck 122 q.1 q.2) = true := by decide +kernel
theorem mm_l122_2 : mm_o122_2.all (fun q => mm_ck 122 q.1 q.2) = true := by
  have h : mm_o122_2 = (mm_o122_2.drop 0).take 25 ++ ((mm_o122_2.drop 25).take 25 ++ ((mm_o122_2.drop 50).take 25 ++ ((mm_o122_2.drop 75).take 25))) := by decide +kernel
  rw [h, List.all_append, List.all_append, List.all_append, mm_l122_2_0, mm_l122_2_1, mm_l122_2_2, mm_l122_2_3]
  rfl
theorem mm_l122_3_0 : ((mm_o122_3.drop 0).take 25).all (fun q => mm_ck 122 q.1 q.2) = true := by decide +kernel
theorem mm_l122_3 : mm_o122_3.all (fun q => mm_ck 122 q.1 q.2) = true := by
  have h : mm_o122_3 = (mm_o122_3.drop 0).take 25 := by decide +kernel
  rw [h, mm_l122_3_0]
theorem mm_hk122 : mm_hk 122 = true := by decide +kernel
theorem mm_c122 : mm_ckk 122 = true := by
  have h : mm_ops 122 = mm_o122 := by rfl
  unfold mm_ckk
  rw [h, mm_hk122]
  unfold mm_o122
  simp only [List.all_append, mm_l122_0, mm_l122_1, mm_l122_2, mm_l122_3, Bool.and_true, Bool.true_and]
theorem mm_l123_0_0 : ((mm_o123_0.drop 0).take 25).all (fun q => mm_ck 123 q.1 q.2) = true := by decide +kernel
theorem mm_l123_0_1 : ((mm_o123_0.drop 25).take 25).all (fun q => mm_ck 123 q.1 q.2) = true := by decide +kernel
theorem mm_l123_0_2 : ((mm_o123_0.drop 50).take 25).all (fun q => mm_ck 123 q.1 q.2) = true := by decide +kernel
theorem mm_l123_0_3 : ((mm_o123_0.drop 75).take 25).all (fun q => mm_ck 123 q.1 q.2) = true := by decide +kernel
theorem mm_l123_0 : mm_o123_0.all (fun q => mm_ck 123 q.1 q.2) = true := by
  have h : mm_o123_0 = (mm_o123_0.drop 0).take 25 ++ ((mm_o123_0.drop 25).take 25 ++ ((mm_o123_0.drop 50).take 25 ++ ((mm_o123_0.drop 75).take 25))) := by decide +kernel
  rw [h, List.all_append, List.all_append, List.all_append, mm_l123_0_0, mm_l123_0_1, mm_l123_0_2, mm_l123_0_3]
  rfl
theorem mm_l123_1_0 : ((mm_o123_1.drop 0).take 25).all (fun q => mm_ck 123 q.1 q.2) = true := by decide +kernel
theorem mm_l123_1_1 : ((mm_o123_1.drop 25).take 25).all (fun q => mm_ck 123 q.1 q.2) = true := by decide +kernel
theorem mm_l123_1_2 : ((mm_o123_1.drop 50).take 25).all (fun q => mm_ck 123 q.1 q.2) = true := by decide +kernel
theorem mm_l123_1_3 : ((mm_o123_1.drop 75).take 25).all (fun q => mm_ck 123 q.1 q.2) = true := by decide +kernel
theorem mm_l123_1 : mm_o123_1.all (fun q => mm_ck 123 q.1 q.2) = true := by
  have h : mm_o123_1 = (mm_o123_1.drop 0).take 25 ++ ((mm_o123_1.drop 25).take 25 ++ ((mm_o123_1.drop 50).take 25 ++ ((mm_o123_1.drop 75).take 25))) := by decide +kernel
  rw [h, List.all_append, List.all_append, List.all_append, mm_l123_1_0, mm_l123_1_1, mm_l123_1_2, mm_l123_1_3]
  rfl
theorem mm_l123_2_0 : ((mm_o123_2.drop 0).take 25).all (fun q => mm_ck 123 q.1 q.2) = true := by decide +kernel
theorem mm_l123_2_1 : ((mm_o123_2.drop 25).take 25).all (fun q => mm_ck 123 q.1 q.2) = true := by decide +kernel
theorem mm_l123_2_2 : ((mm_o123_2.drop 50).take 25).all (fun q => mm_ck 123 q.1 q.2) = true := by decide +kernel
theorem mm_l123_2_3 : ((mm_o123_2.drop 75).take 25).all (fun q => mm_ck 123 q.1 q.2) = true := by decide +kernel
theorem mm_l123_2 : mm_o123_2.all (fun q => mm_ck 123 q.1 q.2) = true := by
  have h : mm_o123_2 = (mm_o123_2.drop 0).take 25 ++ ((mm_o123_2.drop 25).take 25 ++ ((mm_o123_2.drop 50).take 25 ++ ((mm_o123_2.drop 75).take 25))) := by decide +kernel
  rw [h, List.all_append, List.all_append, List.all_append, mm_l123_2_0, mm_l123_2_1, mm_l123_2_2, mm_l123_2_3]
  rfl
theorem mm_l123_3_0 : ((mm_o123_3.drop 0).take 25).all (fun q => mm_ck 123 q.1 q.2) = true := by decide +kernel
theorem mm_l123_3_1 : ((mm_o123_3.drop 25).take 25).all (fun q => mm_ck 123 q.1 q.2) = true := by decide +kernel
theorem mm_l123_3_2 : ((mm_o123_3.drop 50).take 25).all (fun q => mm_ck 123 q.1 q.2) = true := by decide +kernel
theorem mm_l123_3_3 : ((mm_o123_3.drop 75).take 25).all (fun q => mm_ck 123 q.1 q.2) = true := by decide +kernel
theorem mm_l123_3 : mm_o123_3.all (fun q => mm_ck 123 q.1 q.2) = true := by
  have h : mm_o123_3 = (mm_o123_3.drop 0).take 25 ++ ((mm_o123_3.drop 25).take 25 ++ ((mm_o123_3.drop 50).take 25 ++ ((mm_o123_3.drop 75).take 25))) := by decide +kernel
  rw [h, List.all_append, List.all_append, List.all_append, mm_l123_3_0, mm_l123_3_1, mm_l123_3_2, mm_l123_3_3]
  rfl
theorem mm_l123_4_0 : ((mm_o123_4.drop 0).take 25).all (fun q => mm_ck 123 q.1 q.2) = true := by decide +kernel
theorem mm_l123_4_1 : ((mm_o123_4.drop 25).take 25).all (fun q => mm_ck 123 q.1 q.2) = true := by decide +kernel
theorem mm_l123_4_2 : ((mm_o123_4.drop 50).take 25).all (fun q => mm_ck 123 q.1 q.2) = true := by decide +kernel
theorem mm_l123_4_3 : ((mm_o123_4.drop 75).take 25).all (fun q => mm_ck 123 q.1 q.2) = true := by decide +kernel
theorem mm_l123_4 : mm_o123_4.all (fun q => mm_ck 123 q.1 q.2) = true := by
  have h : mm_o123_4 = (mm_o123_4.drop 0).take 25 ++ ((mm_o123_4.drop 25).take 25 ++ ((mm_o123_4.drop 50).take 25 ++ ((mm_o123_4.drop 75).take 25))) := by decide +kernel
  rw [h, List.all_append, List.all_append, List.all_append, mm_l123_4_0, mm_l123_4_1, mm_l123_4_2, mm_l123_4_3]
  rfl
theorem mm_l123_5_0 : ((mm_o123_5.drop 0).take 25).all (fun q => mm_ck 123 q.1 q.2) = true := by decide +kernel
theorem mm_l123_5 : mm_o123_5.all (fun q => mm_ck 123 q.1 q.2) = true := by
  have h : mm_o123_5 = (mm_o123_5.drop 0).take 25 := by decide +kernel
  rw [h, mm_l123_5_0]
theorem mm_hk123 : mm_hk 123 = true := by decide +kernel
theorem mm_c123 : mm_ckk 123 = true := by
  have h : mm_ops 123 = mm_o123 := by rfl
  unfold mm_ckk
  rw [h, mm_hk123]
  unfold mm_o123
  simp only [List.all_append, mm_l123_0, mm_l123_1, mm_l123_2, mm_l123_3, mm_l123_4, mm_l123_5, Bool.and_true, Bool.true_and]
