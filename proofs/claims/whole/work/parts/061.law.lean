/-! the law's own ops -/
theorem mm_l0_0 : ((mm_o198_0.drop 0).take 25).all (fun q => mm_ck 198 q.1 q.2) = true := by decide +kernel
theorem mm_l0_1 : ((mm_o198_0.drop 25).take 25).all (fun q => mm_ck 198 q.1 q.2) = true := by decide +kernel
theorem mm_l0_2 : ((mm_o198_0.drop 50).take 25).all (fun q => mm_ck 198 q.1 q.2) = true := by decide +kernel
theorem mm_l0_3 : ((mm_o198_0.drop 75).take 25).all (fun q => mm_ck 198 q.1 q.2) = true := by decide +kernel
theorem mm_l0 : mm_o198_0.all (fun q => mm_ck 198 q.1 q.2) = true := by
  have h : mm_o198_0 = (mm_o198_0.drop 0).take 25 ++ ((mm_o198_0.drop 25).take 25 ++ ((mm_o198_0.drop 50).take 25 ++ (mm_o198_0.drop 75).take 25)) := by decide +kernel
  rw [h, List.all_append, List.all_append, List.all_append, mm_l0_0, mm_l0_1, mm_l0_2, mm_l0_3]
  rfl
theorem mm_l1_0 : ((mm_o198_1.drop 0).take 25).all (fun q => mm_ck 198 q.1 q.2) = true := by decide +kernel
theorem mm_l1_1 : ((mm_o198_1.drop 25).take 25).all (fun q => mm_ck 198 q.1 q.2) = true := by decide +kernel
theorem mm_l1_2 : ((mm_o198_1.drop 50).take 25).all (fun q => mm_ck 198 q.1 q.2) = true := by decide +kernel
theorem mm_l1_3 : ((mm_o198_1.drop 75).take 25).all (fun q => mm_ck 198 q.1 q.2) = true := by decide +kernel
theorem mm_l1 : mm_o198_1.all (fun q => mm_ck 198 q.1 q.2) = true := by
  have h : mm_o198_1 = (mm_o198_1.drop 0).take 25 ++ ((mm_o198_1.drop 25).take 25 ++ ((mm_o198_1.drop 50).take 25 ++ (mm_o198_1.drop 75).take 25)) := by decide +kernel
  rw [h, List.all_append, List.all_append, List.all_append, mm_l1_0, mm_l1_1, mm_l1_2, mm_l1_3]
  rfl
theorem mm_l2_0 : ((mm_o198_2.drop 0).take 25).all (fun q => mm_ck 198 q.1 q.2) = true := by decide +kernel
theorem mm_l2_1 : ((mm_o198_2.drop 25).take 25).all (fun q => mm_ck 198 q.1 q.2) = true := by decide +kernel
theorem mm_l2_2 : ((mm_o198_2.drop 50).take 25).all (fun q => mm_ck 198 q.1 q.2) = true := by decide +kernel
theorem mm_l2_3 : ((mm_o198_2.drop 75).take 25).all (fun q => mm_ck 198 q.1 q.2) = true := by decide +kernel
theorem mm_l2 : mm_o198_2.all (fun q => mm_ck 198 q.1 q.2) = true := by
  have h : mm_o198_2 = (mm_o198_2.drop 0).take 25 ++ ((mm_o198_2.drop 25).take 25 ++ ((mm_o198_2.drop 50).take 25 ++ (mm_o198_2.drop 75).take 25)) := by decide +kernel
  rw [h, List.all_append, List.all_append, List.all_append, mm_l2_0, mm_l2_1, mm_l2_2, mm_l2_3]
  rfl
theorem mm_l3_0 : ((mm_o198_3.drop 0).take 25).all (fun q => mm_ck 198 q.1 q.2) = true := by decide +kernel
theorem mm_l3_1 : ((mm_o198_3.drop 25).take 25).all (fun q => mm_ck 198 q.1 q.2) = true := by decide +kernel
theorem mm_l3_2 : ((mm_o198_3.drop 50).take 25).all (fun q => mm_ck 198 q.1 q.2) = true := by decide +kernel
theorem mm_l3_3 : ((mm_o198_3.drop 75).take 25).all (fun q => mm_ck 198 q.1 q.2) = true := by decide +kernel
theorem mm_l3 : mm_o198_3.all (fun q => mm_ck 198 q.1 q.2) = true := by
  have h : mm_o198_3 = (mm_o198_3.drop 0).take 25 ++ ((mm_o198_3.drop 25).take 25 ++ ((mm_o198_3.drop 50).take 25 ++ (mm_o198_3.drop 75).take 25)) := by decide +kernel
  rw [h, List.all_append, List.all_append, List.all_append, mm_l3_0, mm_l3_1, mm_l3_2, mm_l3_3]
  rfl
theorem mm_l4_0 : ((mm_o198_4.drop 0).take 25).all (fun q => mm_ck 198 q.1 q.2) = true := by decide +kernel
theorem mm_l4_1 : ((mm_o198_4.drop 25).take 25).all (fun q => mm_ck 198 q.1 q.2) = true := by decide +kernel
theorem mm_l4_2 : ((mm_o198_4.drop 50).take 25).all (fun q => mm_ck 198 q.1 q.2) = true := by decide +kernel
theorem mm_l4_3 : ((mm_o198_4.drop 75).take 25).all (fun q => mm_ck 198 q.1 q.2) = true := by decide +kernel
theorem mm_l4 : mm_o198_4.all (fun q => mm_ck 198 q.1 q.2) = true := by
  have h : mm_o198_4 = (mm_o198_4.drop 0).take 25 ++ ((mm_o198_4.drop 25).take 25 ++ ((mm_o198_4.drop 50).take 25 ++ (mm_o198_4.drop 75).take 25)) := by decide +kernel
  rw [h, List.all_append, List.all_append, List.all_append, mm_l4_0, mm_l4_1, mm_l4_2, mm_l4_3]
  rfl
theorem mm_l5_0 : ((mm_o198_5.drop 0).take 25).all (fun q => mm_ck 198 q.1 q.2) = true := by decide +kernel
theorem mm_l5_1 : ((mm_o198_5.drop 25).take 25).all (fun q => mm_ck 198 q.1 q.2) = true := by decide +kernel
theorem mm_l5_2 : ((mm_o198_5.drop 50).take 25).all (fun q => mm_ck 198 q.1 q.2) = true := by decide +kernel
theorem mm_l5_3 : ((mm_o198_5.drop 75).take 25).all (fun q => mm_ck 198 q.1 q.2) = true := by decide +kernel
theorem mm_l5 : mm_o198_5.all (fun q => mm_ck 198 q.1 q.2) = true := by
  have h : mm_o198_5 = (mm_o198_5.drop 0).take 25 ++ ((mm_o198_5.drop 25).take 25 ++ ((mm_o198_5.drop 50).take 25 ++ (mm_o198_5.drop 75).take 25)) := by decide +kernel
  rw [h, List.all_append, List.all_append, List.all_append, mm_l5_0, mm_l5_1, mm_l5_2, mm_l5_3]
  rfl
theorem mm_l6_0 : ((mm_o198_6.drop 0).take 25).all (fun q => mm_ck 198 q.1 q.2) = true := by decide +kernel
theorem mm_l6_1 : ((mm_o198_6.drop 25).take 25).all (fun q => mm_ck 198 q.1 q.2) = true := by decide +kernel
theorem mm_l6_2 : ((mm_o198_6.drop 50).take 25).all (fun q => mm_ck 198 q.1 q.2) = true := by decide +kernel
theorem mm_l6_3 : ((mm_o198_6.drop 75).take 25).all (fun q => mm_ck 198 q.1 q.2) = true := by decide +kernel
theorem mm_l6 : mm_o198_6.all (fun q => mm_ck 198 q.1 q.2) = true := by
  have h : mm_o198_6 = (mm_o198_6.drop 0).take 25 ++ ((mm_o198_6.drop 25).take 25 ++ ((mm_o198_6.drop 50).take 25 ++ (mm_o198_6.drop 75).take 25)) := by decide +kernel
  rw [h, List.all_append, List.all_append, List.all_append, mm_l6_0, mm_l6_1, mm_l6_2, mm_l6_3]
  rfl
theorem mm_l7_0 : ((mm_o198_7.drop 0).take 25).all (fun q => mm_ck 198 q.1 q.2) = true := by decide +kernel
theorem mm_l7_1 : ((mm_o198_7.drop 25).take 25).all (fun q => mm_ck 198 q.1 q.2) = true := by decide +kernel
theorem mm_l7_2 : ((mm_o198_7.drop 50).take 25).all (fun q => mm_ck 198 q.1 q.2) = true := by decide +kernel
theorem mm_l7_3 : ((mm_o198_7.drop 75).take 25).all (fun q => mm_ck 198 q.1 q.2) = true := by decide +kernel
theorem mm_l7 : mm_o198_7.all (fun q => mm_ck 198 q.1 q.2) = true := by
  have h : mm_o198_7 = (mm_o198_7.drop 0).take 25 ++ ((mm_o198_7.drop 25).take 25 ++ ((mm_o198_7.drop 50).take 25 ++ (mm_o198_7.drop 75).take 25)) := by decide +kernel
  rw [h, List.all_append, List.all_append, List.all_append, mm_l7_0, mm_l7_1, mm_l7_2, mm_l7_3]
  rfl
theorem mm_l8_0 : ((mm_o198_8.drop 0).take 25).all (fun q => mm_ck 198 q.1 q.2) = true := by decide +kernel
theorem mm_l8_1 : ((mm_o198_8.drop 25).take 25).all (fun q => mm_ck 198 q.1 q.2) = true := by decide +kernel
theorem mm_l8_2 : ((mm_o198_8.drop 50).take 25).all (fun q => mm_ck 198 q.1 q.2) = true := by decide +kernel
theorem mm_l8_3 : ((mm_o198_8.drop 75).take 25).all (fun q => mm_ck 198 q.1 q.2) = true := by decide +kernel
theorem mm_l8 : mm_o198_8.all (fun q => mm_ck 198 q.1 q.2) = true := by
  have h : mm_o198_8 = (mm_o198_8.drop 0).take 25 ++ ((mm_o198_8.drop 25).take 25 ++ ((mm_o198_8.drop 50).take 25 ++ (mm_o198_8.drop 75).take 25)) := by decide +kernel
  rw [h, List.all_append, List.all_append, List.all_append, mm_l8_0, mm_l8_1, mm_l8_2, mm_l8_3]
  rfl
theorem mm_l9_0 : ((mm_o198_9.drop 0).take 25).all (fun q => mm_ck 198 q.1 q.2) = true := by decide +kernel
theorem mm_l9_1 : ((mm_o198_9.drop 25).take 25).all (fun q => mm_ck 198 q.1 q.2) = true := by decide +kernel
theorem mm_l9_2 : ((mm_o198_9.drop 50).take 25).all (fun q => mm_ck 198 q.1 q.2) = true := by decide +kernel
theorem mm_l9_3 : ((mm_o198_9.drop 75).take 25).all (fun q => mm_ck 198 q.1 q.2) = true := by decide +kernel
theorem mm_l9 : mm_o198_9.all (fun q => mm_ck 198 q.1 q.2) = true := by
  have h : mm_o198_9 = (mm_o198_9.drop 0).take 25 ++ ((mm_o198_9.drop 25).take 25 ++ ((mm_o198_9.drop 50).take 25 ++ (mm_o198_9.drop 75).take 25)) := by decide +kernel
  rw [h, List.all_append, List.all_append, List.all_append, mm_l9_0, mm_l9_1, mm_l9_2, mm_l9_3]
  rfl
theorem mm_l10_0 : ((mm_o198_10.drop 0).take 25).all (fun q => mm_ck 198 q.1 q.2) = true := by decide +kernel
theorem mm_l10_1 : ((mm_o198_10.drop 25).take 25).all (fun q => mm_ck 198 q.1 q.2) = true := by decide +kernel
theorem mm_l10_2 : ((mm_o198_10.drop 50).take 25).all (fun q => mm_ck 198 q.1 q.2) = true := by decide +kernel
theorem mm_l10_3 : ((mm_o198_10.drop 75).take 25).all (fun q => mm_ck 198 q.1 q.2) = true := by decide +kernel
theorem mm_l10 : mm_o198_10.all (fun q => mm_ck 198 q.1 q.2) = true := by
  have h : mm_o198_10 = (mm_o198_10.drop 0).take 25 ++ ((mm_o198_10.drop 25).take 25 ++ ((mm_o198_10.drop 50).take 25 ++ (mm_o198_10.drop 75).take 25)) := by decide +kernel
  rw [h, List.all_append, List.all_append, List.all_append, mm_l10_0, mm_l10_1, mm_l10_2, mm_l10_3]
  rfl
theorem mm_l11_0 : ((mm_o198_11.drop 0).take 25).all (fun q => mm_ck 198 q.1 q.2) = true := by decide +kernel
theorem mm_l11_1 : ((mm_o198_11.drop 25).take 25).all (fun q => mm_ck 198 q.1 q.2) = true := by decide +kernel
theorem mm_l11_2 : ((mm_o198_11.drop 50).take 25).all (fun q => mm_ck 198 q.1 q.2) = true := by decide +kernel
theorem mm_l11_3 : ((mm_o198_11.drop 75).take 25).all (fun q => mm_ck 198 q.1 q.2) = true := by decide +kernel
theorem mm_l11 : mm_o198_11.all (fun q => mm_ck 198 q.1 q.2) = true := by
  have h : mm_o198_11 = (mm_o198_11.drop 0).take 25 ++ ((mm_o198_11.drop 25).take 25 ++ ((mm_o198_11.drop 50).take 25 ++ (mm_o198_11.drop 75).take 25)) := by decide +kernel
  rw [h, List.all_append, List.all_append, List.all_append, mm_l11_0, mm_l11_1, mm_l11_2, mm_l11_3]
  rfl
theorem mm_l12_0 : ((mm_o198_12.drop 0).take 25).all (fun q => mm_ck 198 q.1 q.2) = true := by decide +kernel
theorem mm_l12_1 : ((mm_o198_12.drop 25).take 25).all (fun q => mm_ck 198 q.1 q.2) = true := by decide +kernel
theorem mm_l12_2 : ((mm_o198_12.drop 50).take 25).all (fun q => mm_ck 198 q.1 q.2) = true := by decide +kernel
theorem mm_l12_3 : ((mm_o198_12.drop 75).take 25).all (fun q => mm_ck 198 q.1 q.2) = true := by decide +kernel
theorem mm_l12 : mm_o198_12.all (fun q => mm_ck 198 q.1 q.2) = true := by
  have h : mm_o198_12 = (mm_o198_12.drop 0).take 25 ++ ((mm_o198_12.drop 25).take 25 ++ ((mm_o198_12.drop 50).take 25 ++ (mm_o198_12.drop 75).take 25)) := by decide +kernel
  rw [h, List.all_append, List.all_append, List.all_append, mm_l12_0, mm_l12_1, mm_l12_2, mm_l12_3]
  rfl
theorem mm_l13_0 : ((mm_o198_13.drop 0).take 25).all (fun q => mm_ck 198 q.1 q.2) = true := by decide +kernel
theorem mm_l13_1 : ((mm_o198_13.drop 25).take 25).all (fun q => mm_ck 198 q.1 q.2) = true := by decide +kernel
theorem mm_l13_2 : ((mm_o198_13.drop 50).take 25).all (fun q => mm_ck 198 q.1 q.2) = true := by decide +kernel
theorem mm_l13_3 : ((mm_o198_13.drop 75).take 25).all (fun q => mm_ck 198 q.1 q.2) = true := by decide +kernel
theorem mm_l13 : mm_o198_13.all (fun q => mm_ck 198 q.1 q.2) = true := by
  have h : mm_o198_13 = (mm_o198_13.drop 0).take 25 ++ ((mm_o198_13.drop 25).take 25 ++ ((mm_o198_13.drop 50).take 25 ++ (mm_o198_13.drop 75).take 25)) := by decide +kernel
  rw [h, List.all_append, List.all_append, List.all_append, mm_l13_0, mm_l13_1, mm_l13_2, mm_l13_3]
  rfl
theorem mm_l14_0 : ((mm_o198_14.drop 0).take 25).all (fun q => mm_ck 198 q.1 q.2) = true := by decide +kernel
theorem mm_l14_1 : ((mm_o198_14.drop 25).take 25).all (fun q => mm_ck 198 q.1 q.2) = true := by decide +kernel
theorem mm_l14_2 : ((mm_o198_14.drop 50).take 25).all (fun q => mm_ck 198 q.1 q.2) = true := by decide +kernel
theorem mm_l14_3 : ((mm_o198_14.drop 75).take 25).all (fun q => mm_ck 198 q.1 q.2) = true := by decide +kernel
theorem mm_l14 : mm_o198_14.all (fun q => mm_ck 198 q.1 q.2) = true := by
  have h : mm_o198_14 = (mm_o198_14.drop 0).take 25 ++ ((mm_o198_14.drop 25).take 25 ++ ((mm_o198_14.drop 50).take 25 ++ (mm_o198_14.drop 75).take 25)) := by decide +kernel
  rw [h, List.all_append, List.all_append, List.all_append, mm_l14_0, mm_l14_1, mm_l14_2, mm_l14_3]
  rfl
theorem mm_l15_0 : ((mm_o198_15.drop 0).take 25).all (fun q => mm_ck 198 q.1 q.2) = true := by decide +kernel
theorem mm_l15_1 : ((mm_o198_15.drop 25).take 25).all (fun q => mm_ck 198 q.1 q.2) = true := by decide +kernel
theorem mm_l15_2 : ((mm_o198_15.drop 50).take 25).all (fun q => mm_ck 198 q.1 q.2) = true := by decide +kernel
theorem mm_l15_3 : ((mm_o198_15.drop 75).take 25).all (fun q => mm_ck 198 q.1 q.2) = true := by decide +kernel
theorem mm_l15 : mm_o198_15.all (fun q => mm_ck 198 q.1 q.2) = true := by
  have h : mm_o198_15 = (mm_o198_15.drop 0).take 25 ++ ((mm_o198_15.drop 25).take 25 ++ ((mm_o198_15.drop 50).take 25 ++ (mm_o198_15.drop 75).take 25)) := by decide +kernel
  rw [h, List.all_append, List.all_append, List.all_append, mm_l15_0, mm_l15_1, mm_l15_2, mm_l15_3]
  rfl
