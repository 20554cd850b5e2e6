/-! the long methods of the law, in pieces; calls of the longest by their own rows -/
theorem mm_w_of {i : Nat} {w : Cond} (h1 : lw_tbl[i]? = some w) (h2 : w.onTables = true) (h3 : w.keepsOver = true) : mm_w i w = true := by
  unfold mm_w
  rw [h2, h3, decide_eq_true h1]
  rfl
set_option maxRecDepth 100000 in
theorem mm_fm121 : mm_fm 121 = true := by
  have hw : mm_w (mm_ix 121).1 (mm_cw 121) = true := mm_w_of (by rfl) (by rfl) (by rfl)
  have hg : goodWord (mm_cw 121) = true := by rfl
  unfold mm_fm
  rw [hw, hg]
  decide +kernel
set_option maxRecDepth 100000 in
theorem mm_fm122 : mm_fm 122 = true := by
  have hw : mm_w (mm_ix 122).1 (mm_cw 122) = true := mm_w_of (by rfl) (by rfl) (by rfl)
  have hg : goodWord (mm_cw 122) = true := by rfl
  unfold mm_fm
  rw [hw, hg]
  decide +kernel
theorem mm_l121_0_0 : ((mm_o121_0.drop 0).take 25).all (fun q => mm_ck 121 q.1 q.2) = true := by decide +kernel
theorem mm_l121_0_1 : ((mm_o121_0.drop 25).take 25).all (fun q => mm_ck 121 q.1 q.2) = true := by decide +kernel
theorem mm_l121_0_2 : ((mm_o121_0.drop 50).take 25).all (fun q => mm_ck 121 q.1 q.2) = true := by decide +kernel
theorem mm_l121_0_3 : ((mm_o121_0.drop 75).take 25).all (fun q => mm_ck 121 q.1 q.2) = true := by decide +kernel
theorem mm_l121_0 : mm_o121_0.all (fun q => mm_ck 121 q.1 q.2) = true := by
  have h : mm_o121_0 = (mm_o121_0.drop 0).take 25 ++ ((mm_o121_0.drop 25).take 25 ++ ((mm_o121_0.drop 50).take 25 ++ ((mm_o121_0.drop 75).take 25))) := by decide +kernel
  rw [h, List.all_append, List.all_append, List.all_append, mm_l121_0_0, mm_l121_0_1, mm_l121_0_2, mm_l121_0_3]
  rfl
theorem mm_l121_1_0 : ((mm_o121_1.drop 0).take 25).all (fun q => mm_ck 121 q.1 q.2) = true := by decide +kernel
theorem mm_l121_1_1 : ((mm_o121_1.drop 25).take 25).all (fun q => mm_ck 121 q.1 q.2) = true := by decide +kernel
theorem mm_l121_1_2 : ((mm_o121_1.drop 50).take 1).all (fun q => mm_ck 121 q.1 q.2) = true := by decide +kernel
theorem mm_l121_1 : mm_o121_1.all (fun q => mm_ck 121 q.1 q.2) = true := by
  have h : mm_o121_1 = (mm_o121_1.drop 0).take 25 ++ ((mm_o121_1.drop 25).take 25 ++ ((mm_o121_1.drop 50).take 1)) := by decide +kernel
  rw [h, List.all_append, List.all_append, mm_l121_1_0, mm_l121_1_1, mm_l121_1_2]
  rfl
theorem mm_hk121 : mm_hk 121 = true := by decide +kernel
theorem mm_c121 : mm_ckk 121 = true := by
  have h : mm_ops 121 = mm_o121 := by rfl
  unfold mm_ckk
  rw [h, mm_hk121]
  unfold mm_o121
  simp only [List.all_append, mm_l121_0, mm_l121_1, Bool.and_true, Bool.true_and]
theorem mm_l122_0_0 : ((mm_o122_0.drop 0).take 25).all (fun q => mm_ck 122 q.1 q.2) = true := by decide +kernel
theorem mm_l122_0_1 : ((mm_o122_0.drop 25).take 25).all (fun q => mm_ck 122 q.1 q.2) = true := by decide +kernel
theorem mm_l122_0_2 : ((mm_o122_0.drop 50).take 25).all (fun q => mm_ck 122 q.1 q.2) = true := by decide +kernel
theorem mm_l122_0_3 : ((mm_o122_0.drop 75).take 25).all (fun q => mm_ck 122 q.1 q.2) = true := by decide +kernel
theorem mm_l122_0 : mm_o122_0.all (fun q => mm_ck 122 q.1 q.2) = true := by
  have h : mm_o122_0 = (mm_o122_0.drop 0).take 25 ++ ((mm_o122_0.drop 25).take 25 ++ ((mm_o122_0.drop 50).take 25 ++ ((mm_o122_0.drop 75).take 25))) := by decide +kernel
  rw [h, List.all_append, List.all_append, List.all_append, mm_l122_0_0, mm_l122_0_1, mm_l122_0_2, mm_l122_0_3]
  rfl
