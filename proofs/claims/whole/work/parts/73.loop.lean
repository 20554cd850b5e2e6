/-! the loop of the law -/
theorem lk_head : lwC [(28, .iload 5, 30, 1), (30, .aload 0, 31, 0), (31, .arraylength, 32, 0), (32, .iconst 5, 33, 0), (33, .isub, 34, 0), (34, .if_icmp .gt 0, 37, 2526), (37, .aload 0, 38, 0), (38, .iload 5, 40, 1), (40, .iaload, 41, 0), (41, .iconst 63, 43, 1), (43, .iand, 44, 0), (44, .tableswitch 2476 0 38 #[172, 230, 310, 402, 494, 550, 630, 738, 794, 850, 906, 974, 1042, 1110, 1166, 1234, 1302, 1370, 1426, 1482, 1538, 1551, 1564, 1608, 1664, 1732, 1800, 1856, 1869, 1937, 1993, 2049, 2062, 2118, 2174, 2230, 2286, 2342, 2410], 216, 0), (2520, .iinc 5 5, 2523, 0), (2523, .goto 0, 28, 0), (2526, .iconst 1, 2527, 0), (2527, .ireturn, 2528, 0)] = true := by decide +kernel
theorem lk_served : lwC [(2454, .aload 1, 2455, 0), (2455, .aload 4, 2457, 1), (2457, .invokestatic 197, 2460, 267), (2460, .istore 6, 2462, 1), (2462, .aload 2, 2463, 0), (2463, .invokevirtual 162, 2466, 270), (2466, .fstore 7, 2468, 1), (2468, .aload 2, 2469, 0), (2469, .invokevirtual 100, 2472, 143), (2472, .iload 6, 2474, 1), (2474, .if_icmp .eq 0, 2477, 2479), (2479, .iload 6, 2481, 1), (2481, .ifCond .ne 0, 2484, 2517), (2484, .aload 4, 2486, 1), (2486, .iconst 0, 2487, 0), (2487, .daload, 2488, 0), (2488, .fload 7, 2490, 1), (2490, .f2d, 2491, 0), (2491, .dcmp .l, 2492, 0), (2492, .ifCond .eq 0, 2495, 2517), (2517, .goto 0, 2520, 0)] = true := by decide +kernel
theorem and63 (x : Int32) : ∃ j, j < 64 ∧ x &&& 63 = nI j := by
  refine ⟨(x.toBitVec &&& 63#32).toNat, ?_, ?_⟩
  · rw [BitVec.toNat_and]
    exact Nat.lt_of_le_of_lt Nat.and_le_right (by decide)
  · apply Int32.toBitVec_inj.mp
    show x.toBitVec &&& 63#32 = BitVec.ofNat 32 (x.toBitVec &&& 63#32).toNat
    rw [BitVec.ofNat_toNat, BitVec.setWidth_eq]
section LP2
variable {n : Nat} {s : St} {iv : Int32} {l6 l7 : Value} {w : mmM} {c : Nat} {K : mmO → mmM → Prop}
theorem cs_served (hI : Inv n s) (hC : RepC w s) (hm : RepM w s) (hc : c + 14 ≤ 601024) (g : ∀ w' s' c' y6 y7, Inv n s' → RepC w' s' → RepM w' s' → w' 244 = w 244 → w' 245 = w 245 → c' ≤ c + 7 → mm_E 198 2520 (LL iv y6 y7) [] w' c' K) : mm_E 198 2454 (LL iv l6 l7) [] w c K := by
  refine e_al (lwC_at lk_served (i := 0) rfl) rfl (e_al (lwC_at lk_served (i := 1) rfl) rfl (e_call (j := kL_served) (ar := [.ref 0, .ref 243]) (rest := []) (lwC_at lk_served (i := 2) rfl) rfl (by show c + 1 ≤ 601024; omega) ?_))
  refine k_servedL hI.1 hC (fun q => mm_Kr (c + 1) rfl ?_) (fun q => mm_Kr (c + 1) rfl ?_)
  · refine e_ist (lwC_at lk_served (i := 3) rfl) rfl (e_al (lwC_at lk_served (i := 4) rfl) rfl (e_call (j := kX6_served) (ar := [.ref 81]) (rest := []) (lwC_at lk_served (i := 5) rfl) rfl (by show c + 1 + 0 ≤ 601024; omega) ?_))
    refine k_servedM hI.1 hm (fun _ => mm_Kr (c + 1) rfl ?_) (fun z => absurd q z)
    refine e_fst (lwC_at lk_served (i := 6) rfl) rfl (e_al (lwC_at lk_served (i := 7) rfl) rfl (e_call (j := kX6_thrown) (ar := [.ref 81]) (rest := []) (lwC_at lk_served (i := 8) rfl) rfl (by show c + 1 + 0 ≤ 601024; omega) (bX6_thrown_0 (mm_Kr (c + 1) rfl ?_))))
    rw [th_at]
    refine e_il (lwC_at lk_served (i := 9) rfl) rfl (e_icq (lwC_at lk_served (i := 10) rfl) (fun _ => ?_) (fun z => absurd rfl z))
    refine e_il (lwC_at lk_served (i := 11) rfl) rfl (e_ifn (lwC_at lk_served (i := 12) rfl) (fun z => absurd z (by decide)) (fun _ => ?_))
    refine e_go (lwC_at lk_served (i := 20) rfl) ?_
    exact g _ s _ _ _ hI (hC.keep (fun i hi => mm_up_row (by omega))) hm.th (mm_up_row (by decide)) (mm_up_row (by decide)) (by omega)
  · have hnp := hI.np_
    have hc2 := cs_two (s := s) (a := 111) (b := 112) (by decide)
    have hsh := shr_ok (a := s.cs 112) (b := s.np - s.cs 111) (by omega) (by omega) q
    have row : ∀ a, a ≠ 243 → ∀ x y, mm_up (mm_up w 243 0 x) 243 1 y a = w a := fun a ha x y => by rw [mm_up_row ha, mm_up_row ha]
    have hm1 : ∀ x y, RepM (mm_up (mm_up w 243 0 x) 243 1 y) s := fun x y => hm.keep (fun i hi => row i (by omega) x y) (fun j _ _ => by rw [row 81 (by decide)])
    refine e_ist (lwC_at lk_served (i := 3) rfl) rfl (e_al (lwC_at lk_served (i := 4) rfl) rfl (e_call (j := kX6_served) (ar := [.ref 81]) (rest := []) (lwC_at lk_served (i := 5) rfl) rfl (by show c + 1 + 0 ≤ 601024; omega) ?_))
    refine k_servedM hI.1 (hm1 _ _) (fun z => absurd z q) (fun _ => mm_Kr (c + 1) rfl ?_)
    refine e_fst (lwC_at lk_served (i := 6) rfl) rfl (e_al (lwC_at lk_served (i := 7) rfl) rfl (e_call (j := kX6_thrown) (ar := [.ref 81]) (rest := []) (lwC_at lk_served (i := 8) rfl) rfl (by show c + 1 + 0 ≤ 601024; omega) (bX6_thrown_0 (mm_Kr (c + 1) rfl ?_))))
    rw [th_at]
    refine e_il (lwC_at lk_served (i := 9) rfl) rfl (e_icq (lwC_at lk_served (i := 10) rfl) (fun _ => ?_) (fun z => absurd rfl z))
    refine e_il (lwC_at lk_served (i := 11) rfl) rfl (e_ifn (lwC_at lk_served (i := 12) rfl) (fun _ => ?_) (fun z => absurd rfl z))
    refine e_al (lwC_at lk_served (i := 13) rfl) rfl (e_ic (lwC_at lk_served (i := 14) rfl) (e_dald (lwC_at lk_served (i := 15) rfl) rfl (by decide) (by decide) (e_fl (lwC_at lk_served (i := 16) rfl) rfl (e_f2d (lwC_at lk_served (i := 17) rfl) hsh.2.1 (e_dcmp (lwC_at lk_served (i := 18) rfl) ?_)))))
    have ed : ∀ y, mm_dj (mm_up (mm_up (mm_up w 243 0 (mm_dh y)) 243 1 (mm_dl y)) 81 26 0 243 (2 * (Int32.ofInt 0).toNatClampNeg)) (mm_up (mm_up (mm_up w 243 0 (mm_dh y)) 243 1 (mm_dl y)) 81 26 0 243 (2 * (Int32.ofInt 0).toNatClampNeg + 1)) = y := fun y => by
      have e0 : 2 * (Int32.ofInt 0).toNatClampNeg = 0 := by decide
      rw [e0, mm_up_row (by decide), mm_up_same, up_ob (by decide), mm_up_same, mm_dj_eq]
    rw [ed, hsh.2.2]
    refine e_ife (lwC_at lk_served (i := 19) rfl) (fun _ => e_go (lwC_at lk_served (i := 20) rfl) ?_) (fun z => absurd rfl z)
    exact g _ s _ _ _ hI (hC.keep (fun i hi => by rw [mm_up_row (by omega), row i (by omega)])) (hm1 _ _).th (by rw [mm_up_row (by decide), row 244 (by decide)]) (by rw [mm_up_row (by decide), row 245 (by decide)]) (by omega)

theorem law_run {len : Nat} (hlen : len ≤ 2560) (hK : ∀ o v, o = .inl (some (.int 1)) → K o v) : ∀ m n w s c l6 l7, Inv n s → RepC w s → RepM w s → w 245 0 = nI len → 513 ≤ n + m → n ≤ 513 → c + 7 * m ≤ 600000 → mm_E 198 28 (LL (nI (5 * n)) l6 l7) [] w c K := by
  intro m
  induction m with
  | zero =>
    intro n w s c l6 l7 hI hC hm hl h1 h2 h3
    refine e_il (lwC_at lk_head (i := 0) rfl) rfl (e_al (lwC_at lk_head (i := 1) rfl) rfl (e_alen (lwC_at lk_head (i := 2) rfl) (e_ic (lwC_at lk_head (i := 3) rfl) (e_is (lwC_at lk_head (i := 4) rfl) (e_icg (lwC_at lk_head (i := 5) rfl) (fun _ => ?_) (fun q => ?_))))))
    · exact e_ic (lwC_at lk_head (i := 14) rfl) (e_iret (ty := .boolean) (lwC_at lk_head (i := 15) rfl) rfl (by decide) (hK _ _ rfl))
    · refine absurd ?_ q
      rw [hl, show Int32.ofInt 5 = nI 5 from by decide, Int32.lt_iff_toInt_lt, sub_nIt (by omega) (by omega), nI_toInt (by omega)]
      omega
  | succ m ih =>
    intro n w s c l6 l7 hI hC hm hl h1 h2 h3
    refine e_il (lwC_at lk_head (i := 0) rfl) rfl (e_al (lwC_at lk_head (i := 1) rfl) rfl (e_alen (lwC_at lk_head (i := 2) rfl) (e_ic (lwC_at lk_head (i := 3) rfl) (e_is (lwC_at lk_head (i := 4) rfl) (e_icg (lwC_at lk_head (i := 5) rfl) (fun _ => ?_) (fun q => ?_))))))
    · exact e_ic (lwC_at lk_head (i := 14) rfl) (e_iret (ty := .boolean) (lwC_at lk_head (i := 15) rfl) rfl (by decide) (hK _ _ rfl))
    · have hle : 5 * n + 5 ≤ len := by
        rw [hl, show Int32.ofInt 5 = nI 5 from by decide, Int32.lt_iff_toInt_lt, sub_nIt (by omega) (by omega), nI_toInt (by omega)] at q
        omega
      have hn1 : n + 1 ≤ 600 := by omega
      have hin : ∀ a, a ≤ 4 → mm_in (nI (5 * n + a)) (w 245 0).toNatClampNeg = true := fun a ha => by
        rw [hl, cl_nI (by omega)]
        exact in_nI (by omega) (by omega)
      have h_1 : mm_in (nI (5 * n) + Int32.ofInt 1) (w 245 0).toNatClampNeg = true := by rw [show Int32.ofInt 1 = nI 1 from by decide, nI_add]; exact hin 1 (by decide)
      have h_2 : mm_in (nI (5 * n) + Int32.ofInt 2) (w 245 0).toNatClampNeg = true := by rw [show Int32.ofInt 2 = nI 2 from by decide, nI_add]; exact hin 2 (by decide)
      have h_3 : mm_in (nI (5 * n) + Int32.ofInt 3) (w 245 0).toNatClampNeg = true := by rw [show Int32.ofInt 3 = nI 3 from by decide, nI_add]; exact hin 3 (by decide)
      have h_4 : mm_in (nI (5 * n) + Int32.ofInt 4) (w 245 0).toNatClampNeg = true := by rw [show Int32.ofInt 4 = nI 4 from by decide, nI_add]; exact hin 4 (by decide)
      have back1 : ∀ w' s' c' y6 y7, Inv (n + 1) s' → RepC w' s' → RepM w' s' → w' 244 = w 244 → w' 245 = w 245 → c' ≤ c + 7 → mm_E 198 2520 (LL (nI (5 * n)) y6 y7) [] w' c' K := by
        intro w' s' c' y6 y7 hI' hC' hm' e4 e5 hc'
        refine e_iinc (lwC_at lk_head (i := 12) rfl) rfl (e_go (lwC_at lk_head (i := 13) rfl) ?_)
        have e : nI (5 * n) + Int32.ofInt 5 = nI (5 * (n + 1)) := by rw [show Int32.ofInt 5 = nI 5 from by decide, nI_add, show 5 * n + 5 = 5 * (n + 1) by omega]
        show mm_E 198 28 (LL (nI (5 * n) + Int32.ofInt 5) y6 y7) [] w' c' K
        rw [e]
        exact ih (n + 1) w' s' c' y6 y7 hI' hC' hm' (by rw [e5]; exact hl) (by omega) (by omega) (by omega)
      have back : ∀ w' s' c' y6 y7, Inv n s' → RepC w' s' → RepM w' s' → w' 244 = w 244 → w' 245 = w 245 → c' ≤ c + 7 → mm_E 198 2520 (LL (nI (5 * n)) y6 y7) [] w' c' K := fun w' s' c' y6 y7 hI' => back1 w' s' c' y6 y7 (hI'.nx hn1)
      have hcc : c + 14 ≤ 601024 := by omega
      refine e_al (lwC_at lk_head (i := 6) rfl) rfl (e_il (lwC_at lk_head (i := 7) rfl) rfl (e_sald (lwC_at lk_head (i := 8) rfl) (hin 0 (by decide)) (e_ic (lwC_at lk_head (i := 9) rfl) (e_iand (lwC_at lk_head (i := 10) rfl) ?_))))
      obtain ⟨j, hj, ej⟩ := and63 (w 244 (nI (5 * n)).toNatClampNeg)
      have ej : w 244 (nI (5 * n)).toNatClampNeg &&& Int32.ofInt 63 = nI j := ej
      rw [ej]
      clear ej q ih
      have hsw := lwC_at lk_head (i := 11) rfl
      by_cases e0 : j = 0
      · subst e0
        exact e_sw (off := 172) (p := 216) hsw (by decide +kernel) (by decide +kernel) (by decide +kernel) (by decide +kernel) (cs_addItem (wr_addItem hC (op_addItem hI)) hm h_1 hcc back)
      by_cases e1 : j = 1
      · subst e1
        exact e_sw (off := 230) (p := 274) hsw (by decide +kernel) (by decide +kernel) (by decide +kernel) (by decide +kernel) (cs_addSubstitute (wr_addSubstitute hC (op_addSubstitute hI)) hm h_1 h_2 h_3 hcc back)
      by_cases e2 : j = 2
      · subst e2
        exact e_sw (off := 310) (p := 354) hsw (by decide +kernel) (by decide +kernel) (by decide +kernel) (by decide +kernel) (cs_receive (wr_receive hC (op_receive hI)) hm h_1 h_2 h_3 h_4 hcc back)
      by_cases e3 : j = 3
      · subst e3
        exact e_sw (off := 402) (p := 446) hsw (by decide +kernel) (by decide +kernel) (by decide +kernel) (by decide +kernel) (cs_move (wr_move hC (op_move hI)) hm h_1 h_2 h_3 h_4 hcc back)
      by_cases e4 : j = 4
      · subst e4
        exact e_sw (off := 494) (p := 538) hsw (by decide +kernel) (by decide +kernel) (by decide +kernel) (by decide +kernel) (cs_dispose (wr_dispose hC (op_dispose hI)) hm h_1 hcc back)
      by_cases e5 : j = 5
      · subst e5
        exact e_sw (off := 550) (p := 594) hsw (by decide +kernel) (by decide +kernel) (by decide +kernel) (by decide +kernel) (cs_count (wr_count hC (op_count hI)) hm h_1 h_2 h_3 hcc back)
      by_cases e6 : j = 6
      · subst e6
        exact e_sw (off := 630) (p := 674) hsw (by decide +kernel) (by decide +kernel) (by decide +kernel) (by decide +kernel) (cs_promise rfl (wr_promise hC (op_promise hI)) hm h_1 h_2 h_3 h_4 hcc back)
      by_cases e7 : j = 7
      · subst e7
        exact e_sw (off := 738) (p := 782) hsw (by decide +kernel) (by decide +kernel) (by decide +kernel) (by decide +kernel) (cs_cancel (wr_cancel hC (op_cancel hI)) hm h_1 hcc back)
      by_cases e8 : j = 8
      · subst e8
        exact e_sw (off := 794) (p := 838) hsw (by decide +kernel) (by decide +kernel) (by decide +kernel) (by decide +kernel) (cs_pick (wr_pick hC (op_pick hI)) hm h_1 hcc back)
      by_cases e9 : j = 9
      · subst e9
        exact e_sw (off := 850) (p := 894) hsw (by decide +kernel) (by decide +kernel) (by decide +kernel) (by decide +kernel) (cs_status (wr_status hC (op_status hI)) hm h_1 hcc back)
      by_cases e10 : j = 10
      · subst e10
        exact e_sw (off := 906) (p := 950) hsw (by decide +kernel) (by decide +kernel) (by decide +kernel) (by decide +kernel) (cs_quantity (wr_quantity hC (op_quantity hI)) hm h_1 h_2 hcc back)
      by_cases e11 : j = 11
      · subst e11
        exact e_sw (off := 974) (p := 1018) hsw (by decide +kernel) (by decide +kernel) (by decide +kernel) (by decide +kernel) (cs_available (wr_available hC (op_available hI)) hm h_1 h_2 hcc back)
      by_cases e12 : j = 12
      · subst e12
        exact e_sw (off := 1042) (p := 1086) hsw (by decide +kernel) (by decide +kernel) (by decide +kernel) (by decide +kernel) (cs_availableByTrying (wr_availableByTrying hC (op_availableByTrying hI)) hm h_1 h_2 hcc back)
      by_cases e13 : j = 13
      · subst e13
        exact e_sw (off := 1110) (p := 1154) hsw (by decide +kernel) (by decide +kernel) (by decide +kernel) (by decide +kernel) (cs_pickLines (wr_pickLines hC (op_pickLines hI)) hm h_1 hcc back)
      by_cases e14 : j = 14
      · subst e14
        exact e_sw (off := 1166) (p := 1210) hsw (by decide +kernel) (by decide +kernel) (by decide +kernel) (by decide +kernel) (cs_pickBin (wr_pickBin hC (op_pickBin hI)) hm h_1 h_2 hcc back)
      by_cases e15 : j = 15
      · subst e15
        exact e_sw (off := 1234) (p := 1278) hsw (by decide +kernel) (by decide +kernel) (by decide +kernel) (by decide +kernel) (cs_pickLot (wr_pickLot hC (op_pickLot hI)) hm h_1 h_2 hcc back)
      by_cases e16 : j = 16
      · subst e16
        exact e_sw (off := 1302) (p := 1346) hsw (by decide +kernel) (by decide +kernel) (by decide +kernel) (by decide +kernel) (cs_pickQuantity (wr_pickQuantity hC (op_pickQuantity hI)) hm h_1 h_2 hcc back)
      by_cases e17 : j = 17
      · subst e17
        exact e_sw (off := 1370) (p := 1414) hsw (by decide +kernel) (by decide +kernel) (by decide +kernel) (by decide +kernel) (cs_walk (wr_walk hC (op_walk hI)) hm h_1 hcc back)
      by_cases e18 : j = 18
      · subst e18
        exact e_sw (off := 1426) (p := 1470) hsw (by decide +kernel) (by decide +kernel) (by decide +kernel) (by decide +kernel) (cs_walkByTrying (wr_walkByTrying hC (op_walkByTrying hI)) hm h_1 hcc back)
      by_cases e19 : j = 19
      · subst e19
        exact e_sw (off := 1482) (p := 1526) hsw (by decide +kernel) (by decide +kernel) (by decide +kernel) (by decide +kernel) (cs_pass (wr_pass hC (op_pass hI hn1)) hm h_1 hcc back1)
      by_cases e20 : j = 20
      · subst e20
        exact e_sw (off := 1538) (p := 1582) hsw (by decide +kernel) (by decide +kernel) (by decide +kernel) (by decide +kernel) (cs_day hI hC hm hcc back)
      by_cases e21 : j = 21
      · subst e21
        exact e_sw (off := 1551) (p := 1595) hsw (by decide +kernel) (by decide +kernel) (by decide +kernel) (by decide +kernel) (cs_countsDue hI hC hm hcc back)
      by_cases e22 : j = 22
      · subst e22
        exact e_sw (off := 1564) (p := 1608) hsw (by decide +kernel) (by decide +kernel) (by decide +kernel) (by decide +kernel) (cs_nextCount (wr_nextCount hC (op_nextCount hI)) hm hcc back)
      by_cases e23 : j = 23
      · subst e23
        exact e_sw (off := 1608) (p := 1652) hsw (by decide +kernel) (by decide +kernel) (by decide +kernel) (by decide +kernel) (cs_countDay (wr_countDay hC (op_countDay hI)) hm h_1 hcc back)
      by_cases e24 : j = 24
      · subst e24
        exact e_sw (off := 1664) (p := 1708) hsw (by decide +kernel) (by decide +kernel) (by decide +kernel) (by decide +kernel) (cs_stock (wr_stock hC (op_stock hI)) hm h_1 h_2 hcc back)
      by_cases e25 : j = 25
      · subst e25
        exact e_sw (off := 1732) (p := 1776) hsw (by decide +kernel) (by decide +kernel) (by decide +kernel) (by decide +kernel) (cs_stockByJournal (wr_stockByJournal hC (op_stockByJournal hI)) hm h_1 h_2 hcc back)
      by_cases e26 : j = 26
      · subst e26
        exact e_sw (off := 1800) (p := 1844) hsw (by decide +kernel) (by decide +kernel) (by decide +kernel) (by decide +kernel) (cs_load (wr_load hC (op_load hI)) hm h_1 hcc back)
      by_cases e27 : j = 27
      · subst e27
        exact e_sw (off := 1856) (p := 1900) hsw (by decide +kernel) (by decide +kernel) (by decide +kernel) (by decide +kernel) (cs_lots hI hC hm hcc back)
      by_cases e28 : j = 28
      · subst e28
        exact e_sw (off := 1869) (p := 1913) hsw (by decide +kernel) (by decide +kernel) (by decide +kernel) (by decide +kernel) (cs_nextLot (wr_nextLot hC (op_nextLot hI)) hm h_1 h_2 hcc back)
      by_cases e29 : j = 29
      · subst e29
        exact e_sw (off := 1937) (p := 1981) hsw (by decide +kernel) (by decide +kernel) (by decide +kernel) (by decide +kernel) (cs_onHand (wr_onHand hC (op_onHand hI)) hm h_1 hcc back)
      by_cases e30 : j = 30
      · subst e30
        exact e_sw (off := 1993) (p := 2037) hsw (by decide +kernel) (by decide +kernel) (by decide +kernel) (by decide +kernel) (cs_expired (wr_expired hC (op_expired hI)) hm h_1 hcc back)
      by_cases e31 : j = 31
      · subst e31
        exact e_sw (off := 2049) (p := 2093) hsw (by decide +kernel) (by decide +kernel) (by decide +kernel) (by decide +kernel) (cs_entries hI hC hm hcc back)
      by_cases e32 : j = 32
      · subst e32
        exact e_sw (off := 2062) (p := 2106) hsw (by decide +kernel) (by decide +kernel) (by decide +kernel) (by decide +kernel) (cs_entryKind (wr_entryKind hC (op_entryKind hI)) hm h_1 hcc back)
      by_cases e33 : j = 33
      · subst e33
        exact e_sw (off := 2118) (p := 2162) hsw (by decide +kernel) (by decide +kernel) (by decide +kernel) (by decide +kernel) (cs_entryLot (wr_entryLot hC (op_entryLot hI)) hm h_1 hcc back)
      by_cases e34 : j = 34
      · subst e34
        exact e_sw (off := 2174) (p := 2218) hsw (by decide +kernel) (by decide +kernel) (by decide +kernel) (by decide +kernel) (cs_entryFrom (wr_entryFrom hC (op_entryFrom hI)) hm h_1 hcc back)
      by_cases e35 : j = 35
      · subst e35
        exact e_sw (off := 2230) (p := 2274) hsw (by decide +kernel) (by decide +kernel) (by decide +kernel) (by decide +kernel) (cs_entryTo (wr_entryTo hC (op_entryTo hI)) hm h_1 hcc back)
      by_cases e36 : j = 36
      · subst e36
        exact e_sw (off := 2286) (p := 2330) hsw (by decide +kernel) (by decide +kernel) (by decide +kernel) (by decide +kernel) (cs_entryQuantity (wr_entryQuantity hC (op_entryQuantity hI)) hm h_1 hcc back)
      by_cases e37 : j = 37
      · subst e37
        exact e_sw (off := 2342) (p := 2386) hsw (by decide +kernel) (by decide +kernel) (by decide +kernel) (by decide +kernel) (cs_onHandOn (wr_onHandOn hC (op_onHandOn hI)) hm h_1 h_2 hcc back)
      by_cases e38 : j = 38
      · subst e38
        exact e_sw (off := 2410) (p := 2454) hsw (by decide +kernel) (by decide +kernel) (by decide +kernel) (by decide +kernel) (cs_served hI hC hm hcc back)
      refine e_swd (p := 2520) hsw ?_ (by decide +kernel) (by decide +kernel) (back w s c _ _ hI hC hm rfl rfl (by omega))
      rw [nI_toInt (by omega)]
      have : decide ((38 : Int) < (j : Int)) = true := decide_eq_true (by omega)
      rw [this, Bool.or_true]
end LP2
