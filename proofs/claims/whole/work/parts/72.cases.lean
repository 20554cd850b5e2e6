/-! the cases of the law (by wip/whole/gencase.py) -/
section CA
variable {n : Nat} {s : St} {iv : Int32} {l6 l7 : Value} {w : mmM} {c : Nat} {K : mmO → mmM → Prop}
theorem ck_addItem : lwC [(216, .aload 1, 217, 0), (224, .aload 3, 225, 0), (225, .invokestatic 163, 228, 137), (228, .istore 6, 230, 1), (230, .aload 2, 231, 0), (238, .invokevirtual 111, 241, 142), (241, .istore 7, 243, 1), (223, .i2c, 224, 0), (237, .i2c, 238, 0)] = true := by decide +kernel
theorem cs_addItem (W : Wr kL_addItem kX6_addItem n [.ref 0, .int (((sc w iv 1).toUInt32 % 65536).toInt32), .ref 242] [.ref 81, .int (((sc w iv 1).toUInt32 % 65536).toInt32)] s w) (hm : RepM w s) (h1 : mm_in (iv + Int32.ofInt 1) (w 245 0).toNatClampNeg = true) (hc : c + 14 ≤ 601024) (g : ∀ w' s' c' y6 y7, Inv n s' → RepC w' s' → RepM w' s' → w' 244 = w 244 → w' 245 = w 245 → c' ≤ c + 7 → mm_E 198 2520 (LL iv y6 y7) [] w' c' K) : mm_E 198 216 (LL iv l6 l7) [] w c K := by
  obtain ⟨s', t, r, hi, ht, cc, mm⟩ := W
  refine e_al (lwC_at ck_addItem (i := 0) rfl) rfl ?_
  refine e_rd (a := 1) (by decide +kernel) h1 ?_
  refine e_i2c (lwC_at ck_addItem (i := 7) rfl) ?_
  refine e_al (lwC_at ck_addItem (i := 1) rfl) rfl (e_call (j := kL_addItem) (ar := [.ref 0, .int (((sc w iv 1).toUInt32 % 65536).toInt32), .ref 242]) (rest := []) (lwC_at ck_addItem (i := 2) rfl) rfl (by show c + 1 ≤ 601024; omega) (cc _ (fun w1 hc1 hf1 ho1 => mm_Kr (c + 1) rfl ?_)))
  have e244 := hf1 244 (by decide) (by decide) (by decide)
  have e245 := hf1 245 (by decide) (by decide) (by decide)
  have hm1 : RepM w1 s := hm.keep (fun i hi => hf1 i (by omega) (by omega) (by omega)) (fun j _ _ => by rw [hf1 81 (by decide) (by decide) (by decide)])
  refine e_ist (lwC_at ck_addItem (i := 3) rfl) rfl (e_al (lwC_at ck_addItem (i := 4) rfl) rfl ?_)
  refine e_rd (a := 1) (by decide +kernel) (by rw [e245]; exact h1) ?_
  refine e_i2c (lwC_at ck_addItem (i := 8) rfl) ?_
  have es : ∀ a, sc w1 iv a = sc w iv a := fun a => by show w1 244 _ = _; rw [e244]
  rw [es 1]
  refine e_call (j := kX6_addItem) (ar := [.ref 81, .int (((sc w iv 1).toUInt32 % 65536).toInt32)]) (rest := []) (lwC_at ck_addItem (i := 5) rfl) rfl (by show c + 1 + 0 ≤ 601024; omega) (mm w1 hm1 _ (fun w2 y hm2 hf2 h26 hy => mm_Kr (c + 1) rfl (e_ist (lwC_at ck_addItem (i := 6) rfl) rfl (e_tail (by decide +kernel) ht h26 (fun z => ?_) (by omega) ?_))))
  · rw [hy z, hf2 242 (by decide), ho1 z]
  · exact g w2 s' _ _ _ hi (hc1.keep (fun i hi => hf2 i (by omega))) hm2 (by rw [hf2 244 (by decide), e244]) (by rw [hf2 245 (by decide), e245]) (by omega)
theorem ck_addSubstitute : lwC [(274, .aload 1, 275, 0), (293, .aload 3, 294, 0), (294, .invokestatic 164, 297, 146), (297, .istore 6, 299, 1), (299, .aload 2, 300, 0), (318, .invokevirtual 112, 321, 149), (321, .istore 7, 323, 1)] = true := by decide +kernel
theorem cs_addSubstitute (W : Wr kL_addSubstitute kX6_addSubstitute n [.ref 0, .int (sc w iv 1), .int (sc w iv 2), .int (sc w iv 3), .ref 242] [.ref 81, .int (sc w iv 1), .int (sc w iv 2), .int (sc w iv 3)] s w) (hm : RepM w s) (h1 : mm_in (iv + Int32.ofInt 1) (w 245 0).toNatClampNeg = true) (h2 : mm_in (iv + Int32.ofInt 2) (w 245 0).toNatClampNeg = true) (h3 : mm_in (iv + Int32.ofInt 3) (w 245 0).toNatClampNeg = true) (hc : c + 14 ≤ 601024) (g : ∀ w' s' c' y6 y7, Inv n s' → RepC w' s' → RepM w' s' → w' 244 = w 244 → w' 245 = w 245 → c' ≤ c + 7 → mm_E 198 2520 (LL iv y6 y7) [] w' c' K) : mm_E 198 274 (LL iv l6 l7) [] w c K := by
  obtain ⟨s', t, r, hi, ht, cc, mm⟩ := W
  refine e_al (lwC_at ck_addSubstitute (i := 0) rfl) rfl ?_
  refine e_rd (a := 1) (by decide +kernel) h1 ?_
  refine e_rd (a := 2) (by decide +kernel) h2 ?_
  refine e_rd (a := 3) (by decide +kernel) h3 ?_
  refine e_al (lwC_at ck_addSubstitute (i := 1) rfl) rfl (e_call (j := kL_addSubstitute) (ar := [.ref 0, .int (sc w iv 1), .int (sc w iv 2), .int (sc w iv 3), .ref 242]) (rest := []) (lwC_at ck_addSubstitute (i := 2) rfl) rfl (by show c + 4 ≤ 601024; omega) (cc _ (fun w1 hc1 hf1 ho1 => mm_Kr (c + 4) rfl ?_)))
  have e244 := hf1 244 (by decide) (by decide) (by decide)
  have e245 := hf1 245 (by decide) (by decide) (by decide)
  have hm1 : RepM w1 s := hm.keep (fun i hi => hf1 i (by omega) (by omega) (by omega)) (fun j _ _ => by rw [hf1 81 (by decide) (by decide) (by decide)])
  refine e_ist (lwC_at ck_addSubstitute (i := 3) rfl) rfl (e_al (lwC_at ck_addSubstitute (i := 4) rfl) rfl ?_)
  refine e_rd (a := 1) (by decide +kernel) (by rw [e245]; exact h1) ?_
  refine e_rd (a := 2) (by decide +kernel) (by rw [e245]; exact h2) ?_
  refine e_rd (a := 3) (by decide +kernel) (by rw [e245]; exact h3) ?_
  have es : ∀ a, sc w1 iv a = sc w iv a := fun a => by show w1 244 _ = _; rw [e244]
  rw [es 1, es 2, es 3]
  refine e_call (j := kX6_addSubstitute) (ar := [.ref 81, .int (sc w iv 1), .int (sc w iv 2), .int (sc w iv 3)]) (rest := []) (lwC_at ck_addSubstitute (i := 5) rfl) rfl (by show c + 4 + 0 ≤ 601024; omega) (mm w1 hm1 _ (fun w2 y hm2 hf2 h26 hy => mm_Kr (c + 4) rfl (e_ist (lwC_at ck_addSubstitute (i := 6) rfl) rfl (e_tail (by decide +kernel) ht h26 (fun z => ?_) (by omega) ?_))))
  · rw [hy z, hf2 242 (by decide), ho1 z]
  · exact g w2 s' _ _ _ hi (hc1.keep (fun i hi => hf2 i (by omega))) hm2 (by rw [hf2 244 (by decide), e244]) (by rw [hf2 245 (by decide), e245]) (by omega)
theorem ck_receive : lwC [(354, .aload 1, 355, 0), (379, .aload 3, 380, 0), (380, .invokestatic 165, 383, 150), (383, .istore 6, 385, 1), (385, .aload 2, 386, 0), (410, .invokevirtual 113, 413, 153), (413, .istore 7, 415, 1)] = true := by decide +kernel
theorem cs_receive (W : Wr kL_receive kX6_receive n [.ref 0, .int (sc w iv 1), .int (sc w iv 2), .int (sc w iv 3), .int (sc w iv 4), .ref 242] [.ref 81, .int (sc w iv 1), .int (sc w iv 2), .int (sc w iv 3), .int (sc w iv 4)] s w) (hm : RepM w s) (h1 : mm_in (iv + Int32.ofInt 1) (w 245 0).toNatClampNeg = true) (h2 : mm_in (iv + Int32.ofInt 2) (w 245 0).toNatClampNeg = true) (h3 : mm_in (iv + Int32.ofInt 3) (w 245 0).toNatClampNeg = true) (h4 : mm_in (iv + Int32.ofInt 4) (w 245 0).toNatClampNeg = true) (hc : c + 14 ≤ 601024) (g : ∀ w' s' c' y6 y7, Inv n s' → RepC w' s' → RepM w' s' → w' 244 = w 244 → w' 245 = w 245 → c' ≤ c + 7 → mm_E 198 2520 (LL iv y6 y7) [] w' c' K) : mm_E 198 354 (LL iv l6 l7) [] w c K := by
  obtain ⟨s', t, r, hi, ht, cc, mm⟩ := W
  refine e_al (lwC_at ck_receive (i := 0) rfl) rfl ?_
  refine e_rd (a := 1) (by decide +kernel) h1 ?_
  refine e_rd (a := 2) (by decide +kernel) h2 ?_
  refine e_rd (a := 3) (by decide +kernel) h3 ?_
  refine e_rd (a := 4) (by decide +kernel) h4 ?_
  refine e_al (lwC_at ck_receive (i := 1) rfl) rfl (e_call (j := kL_receive) (ar := [.ref 0, .int (sc w iv 1), .int (sc w iv 2), .int (sc w iv 3), .int (sc w iv 4), .ref 242]) (rest := []) (lwC_at ck_receive (i := 2) rfl) rfl (by show c + 7 ≤ 601024; omega) (cc _ (fun w1 hc1 hf1 ho1 => mm_Kr (c + 7) rfl ?_)))
  have e244 := hf1 244 (by decide) (by decide) (by decide)
  have e245 := hf1 245 (by decide) (by decide) (by decide)
  have hm1 : RepM w1 s := hm.keep (fun i hi => hf1 i (by omega) (by omega) (by omega)) (fun j _ _ => by rw [hf1 81 (by decide) (by decide) (by decide)])
  refine e_ist (lwC_at ck_receive (i := 3) rfl) rfl (e_al (lwC_at ck_receive (i := 4) rfl) rfl ?_)
  refine e_rd (a := 1) (by decide +kernel) (by rw [e245]; exact h1) ?_
  refine e_rd (a := 2) (by decide +kernel) (by rw [e245]; exact h2) ?_
  refine e_rd (a := 3) (by decide +kernel) (by rw [e245]; exact h3) ?_
  refine e_rd (a := 4) (by decide +kernel) (by rw [e245]; exact h4) ?_
  have es : ∀ a, sc w1 iv a = sc w iv a := fun a => by show w1 244 _ = _; rw [e244]
  rw [es 1, es 2, es 3, es 4]
  refine e_call (j := kX6_receive) (ar := [.ref 81, .int (sc w iv 1), .int (sc w iv 2), .int (sc w iv 3), .int (sc w iv 4)]) (rest := []) (lwC_at ck_receive (i := 5) rfl) rfl (by show c + 7 + 0 ≤ 601024; omega) (mm w1 hm1 _ (fun w2 y hm2 hf2 h26 hy => mm_Kr (c + 7) rfl (e_ist (lwC_at ck_receive (i := 6) rfl) rfl (e_tail (by decide +kernel) ht h26 (fun z => ?_) (by omega) ?_))))
  · rw [hy z, hf2 242 (by decide), ho1 z]
  · exact g w2 s' _ _ _ hi (hc1.keep (fun i hi => hf2 i (by omega))) hm2 (by rw [hf2 244 (by decide), e244]) (by rw [hf2 245 (by decide), e245]) (by omega)
theorem ck_move : lwC [(446, .aload 1, 447, 0), (471, .aload 3, 472, 0), (472, .invokestatic 166, 475, 154), (475, .istore 6, 477, 1), (477, .aload 2, 478, 0), (502, .invokevirtual 114, 505, 156), (505, .istore 7, 507, 1)] = true := by decide +kernel
theorem cs_move (W : Wr kL_move kX6_move n [.ref 0, .int (sc w iv 1), .int (sc w iv 2), .int (sc w iv 3), .int (sc w iv 4), .ref 242] [.ref 81, .int (sc w iv 1), .int (sc w iv 2), .int (sc w iv 3), .int (sc w iv 4)] s w) (hm : RepM w s) (h1 : mm_in (iv + Int32.ofInt 1) (w 245 0).toNatClampNeg = true) (h2 : mm_in (iv + Int32.ofInt 2) (w 245 0).toNatClampNeg = true) (h3 : mm_in (iv + Int32.ofInt 3) (w 245 0).toNatClampNeg = true) (h4 : mm_in (iv + Int32.ofInt 4) (w 245 0).toNatClampNeg = true) (hc : c + 14 ≤ 601024) (g : ∀ w' s' c' y6 y7, Inv n s' → RepC w' s' → RepM w' s' → w' 244 = w 244 → w' 245 = w 245 → c' ≤ c + 7 → mm_E 198 2520 (LL iv y6 y7) [] w' c' K) : mm_E 198 446 (LL iv l6 l7) [] w c K := by
  obtain ⟨s', t, r, hi, ht, cc, mm⟩ := W
  refine e_al (lwC_at ck_move (i := 0) rfl) rfl ?_
  refine e_rd (a := 1) (by decide +kernel) h1 ?_
  refine e_rd (a := 2) (by decide +kernel) h2 ?_
  refine e_rd (a := 3) (by decide +kernel) h3 ?_
  refine e_rd (a := 4) (by decide +kernel) h4 ?_
  refine e_al (lwC_at ck_move (i := 1) rfl) rfl (e_call (j := kL_move) (ar := [.ref 0, .int (sc w iv 1), .int (sc w iv 2), .int (sc w iv 3), .int (sc w iv 4), .ref 242]) (rest := []) (lwC_at ck_move (i := 2) rfl) rfl (by show c + 7 ≤ 601024; omega) (cc _ (fun w1 hc1 hf1 ho1 => mm_Kr (c + 7) rfl ?_)))
  have e244 := hf1 244 (by decide) (by decide) (by decide)
  have e245 := hf1 245 (by decide) (by decide) (by decide)
  have hm1 : RepM w1 s := hm.keep (fun i hi => hf1 i (by omega) (by omega) (by omega)) (fun j _ _ => by rw [hf1 81 (by decide) (by decide) (by decide)])
  refine e_ist (lwC_at ck_move (i := 3) rfl) rfl (e_al (lwC_at ck_move (i := 4) rfl) rfl ?_)
  refine e_rd (a := 1) (by decide +kernel) (by rw [e245]; exact h1) ?_
  refine e_rd (a := 2) (by decide +kernel) (by rw [e245]; exact h2) ?_
  refine e_rd (a := 3) (by decide +kernel) (by rw [e245]; exact h3) ?_
  refine e_rd (a := 4) (by decide +kernel) (by rw [e245]; exact h4) ?_
  have es : ∀ a, sc w1 iv a = sc w iv a := fun a => by show w1 244 _ = _; rw [e244]
  rw [es 1, es 2, es 3, es 4]
  refine e_call (j := kX6_move) (ar := [.ref 81, .int (sc w iv 1), .int (sc w iv 2), .int (sc w iv 3), .int (sc w iv 4)]) (rest := []) (lwC_at ck_move (i := 5) rfl) rfl (by show c + 7 + 0 ≤ 601024; omega) (mm w1 hm1 _ (fun w2 y hm2 hf2 h26 hy => mm_Kr (c + 7) rfl (e_ist (lwC_at ck_move (i := 6) rfl) rfl (e_tail (by decide +kernel) ht h26 (fun z => ?_) (by omega) ?_))))
  · rw [hy z, hf2 242 (by decide), ho1 z]
  · exact g w2 s' _ _ _ hi (hc1.keep (fun i hi => hf2 i (by omega))) hm2 (by rw [hf2 244 (by decide), e244]) (by rw [hf2 245 (by decide), e245]) (by omega)
theorem ck_dispose : lwC [(538, .aload 1, 539, 0), (545, .aload 3, 546, 0), (546, .invokestatic 167, 549, 157), (549, .istore 6, 551, 1), (551, .aload 2, 552, 0), (558, .invokevirtual 115, 561, 160), (561, .istore 7, 563, 1)] = true := by decide +kernel
theorem cs_dispose (W : Wr kL_dispose kX6_dispose n [.ref 0, .int (sc w iv 1), .ref 242] [.ref 81, .int (sc w iv 1)] s w) (hm : RepM w s) (h1 : mm_in (iv + Int32.ofInt 1) (w 245 0).toNatClampNeg = true) (hc : c + 14 ≤ 601024) (g : ∀ w' s' c' y6 y7, Inv n s' → RepC w' s' → RepM w' s' → w' 244 = w 244 → w' 245 = w 245 → c' ≤ c + 7 → mm_E 198 2520 (LL iv y6 y7) [] w' c' K) : mm_E 198 538 (LL iv l6 l7) [] w c K := by
  obtain ⟨s', t, r, hi, ht, cc, mm⟩ := W
  refine e_al (lwC_at ck_dispose (i := 0) rfl) rfl ?_
  refine e_rd (a := 1) (by decide +kernel) h1 ?_
  refine e_al (lwC_at ck_dispose (i := 1) rfl) rfl (e_call (j := kL_dispose) (ar := [.ref 0, .int (sc w iv 1), .ref 242]) (rest := []) (lwC_at ck_dispose (i := 2) rfl) rfl (by show c + 3 ≤ 601024; omega) (cc _ (fun w1 hc1 hf1 ho1 => mm_Kr (c + 3) rfl ?_)))
  have e244 := hf1 244 (by decide) (by decide) (by decide)
  have e245 := hf1 245 (by decide) (by decide) (by decide)
  have hm1 : RepM w1 s := hm.keep (fun i hi => hf1 i (by omega) (by omega) (by omega)) (fun j _ _ => by rw [hf1 81 (by decide) (by decide) (by decide)])
  refine e_ist (lwC_at ck_dispose (i := 3) rfl) rfl (e_al (lwC_at ck_dispose (i := 4) rfl) rfl ?_)
  refine e_rd (a := 1) (by decide +kernel) (by rw [e245]; exact h1) ?_
  have es : ∀ a, sc w1 iv a = sc w iv a := fun a => by show w1 244 _ = _; rw [e244]
  rw [es 1]
  refine e_call (j := kX6_dispose) (ar := [.ref 81, .int (sc w iv 1)]) (rest := []) (lwC_at ck_dispose (i := 5) rfl) rfl (by show c + 3 + 0 ≤ 601024; omega) (mm w1 hm1 _ (fun w2 y hm2 hf2 h26 hy => mm_Kr (c + 3) rfl (e_ist (lwC_at ck_dispose (i := 6) rfl) rfl (e_tail (by decide +kernel) ht h26 (fun z => ?_) (by omega) ?_))))
  · rw [hy z, hf2 242 (by decide), ho1 z]
  · exact g w2 s' _ _ _ hi (hc1.keep (fun i hi => hf2 i (by omega))) hm2 (by rw [hf2 244 (by decide), e244]) (by rw [hf2 245 (by decide), e245]) (by omega)
theorem ck_count : lwC [(594, .aload 1, 595, 0), (613, .aload 3, 614, 0), (614, .invokestatic 168, 617, 161), (617, .istore 6, 619, 1), (619, .aload 2, 620, 0), (638, .invokevirtual 116, 641, 163), (641, .istore 7, 643, 1)] = true := by decide +kernel
theorem cs_count (W : Wr kL_count kX6_count n [.ref 0, .int (sc w iv 1), .int (sc w iv 2), .int (sc w iv 3), .ref 242] [.ref 81, .int (sc w iv 1), .int (sc w iv 2), .int (sc w iv 3)] s w) (hm : RepM w s) (h1 : mm_in (iv + Int32.ofInt 1) (w 245 0).toNatClampNeg = true) (h2 : mm_in (iv + Int32.ofInt 2) (w 245 0).toNatClampNeg = true) (h3 : mm_in (iv + Int32.ofInt 3) (w 245 0).toNatClampNeg = true) (hc : c + 14 ≤ 601024) (g : ∀ w' s' c' y6 y7, Inv n s' → RepC w' s' → RepM w' s' → w' 244 = w 244 → w' 245 = w 245 → c' ≤ c + 7 → mm_E 198 2520 (LL iv y6 y7) [] w' c' K) : mm_E 198 594 (LL iv l6 l7) [] w c K := by
  obtain ⟨s', t, r, hi, ht, cc, mm⟩ := W
  refine e_al (lwC_at ck_count (i := 0) rfl) rfl ?_
  refine e_rd (a := 1) (by decide +kernel) h1 ?_
  refine e_rd (a := 2) (by decide +kernel) h2 ?_
  refine e_rd (a := 3) (by decide +kernel) h3 ?_
  refine e_al (lwC_at ck_count (i := 1) rfl) rfl (e_call (j := kL_count) (ar := [.ref 0, .int (sc w iv 1), .int (sc w iv 2), .int (sc w iv 3), .ref 242]) (rest := []) (lwC_at ck_count (i := 2) rfl) rfl (by show c + 5 ≤ 601024; omega) (cc _ (fun w1 hc1 hf1 ho1 => mm_Kr (c + 5) rfl ?_)))
  have e244 := hf1 244 (by decide) (by decide) (by decide)
  have e245 := hf1 245 (by decide) (by decide) (by decide)
  have hm1 : RepM w1 s := hm.keep (fun i hi => hf1 i (by omega) (by omega) (by omega)) (fun j _ _ => by rw [hf1 81 (by decide) (by decide) (by decide)])
  refine e_ist (lwC_at ck_count (i := 3) rfl) rfl (e_al (lwC_at ck_count (i := 4) rfl) rfl ?_)
  refine e_rd (a := 1) (by decide +kernel) (by rw [e245]; exact h1) ?_
  refine e_rd (a := 2) (by decide +kernel) (by rw [e245]; exact h2) ?_
  refine e_rd (a := 3) (by decide +kernel) (by rw [e245]; exact h3) ?_
  have es : ∀ a, sc w1 iv a = sc w iv a := fun a => by show w1 244 _ = _; rw [e244]
  rw [es 1, es 2, es 3]
  refine e_call (j := kX6_count) (ar := [.ref 81, .int (sc w iv 1), .int (sc w iv 2), .int (sc w iv 3)]) (rest := []) (lwC_at ck_count (i := 5) rfl) rfl (by show c + 5 + 0 ≤ 601024; omega) (mm w1 hm1 _ (fun w2 y hm2 hf2 h26 hy => mm_Kr (c + 5) rfl (e_ist (lwC_at ck_count (i := 6) rfl) rfl (e_tail (by decide +kernel) ht h26 (fun z => ?_) (by omega) ?_))))
  · rw [hy z, hf2 242 (by decide), ho1 z]
  · exact g w2 s' _ _ _ hi (hc1.keep (fun i hi => hf2 i (by omega))) hm2 (by rw [hf2 244 (by decide), e244]) (by rw [hf2 245 (by decide), e245]) (by omega)
theorem ck_promise : lwC [(674, .aload 1, 675, 0), (707, .aload 3, 708, 0), (708, .invokestatic 169, 711, 164), (711, .istore 6, 713, 1), (713, .aload 2, 714, 0), (746, .invokevirtual 122, 749, 167), (749, .istore 7, 751, 1), (699, .ifCond .eq 0, 702, 706), (702, .iconst (1), 703, 0), (703, .goto 0, 707, 0), (706, .iconst (0), 707, 0), (738, .ifCond .eq 0, 741, 745), (741, .iconst (1), 742, 0), (742, .goto 0, 746, 0), (745, .iconst (0), 746, 0)] = true := by decide +kernel
theorem cs_promise {u : Int32} (hu : u = if sc w iv 4 = 0 then 0 else 1) (W : Wr kL_promise kX6_promise n [.ref 0, .int (sc w iv 1), .int (sc w iv 2), .int (sc w iv 3), .int (u), .ref 242] [.ref 81, .int (sc w iv 1), .int (sc w iv 2), .int (sc w iv 3), .int (u)] s w) (hm : RepM w s) (h1 : mm_in (iv + Int32.ofInt 1) (w 245 0).toNatClampNeg = true) (h2 : mm_in (iv + Int32.ofInt 2) (w 245 0).toNatClampNeg = true) (h3 : mm_in (iv + Int32.ofInt 3) (w 245 0).toNatClampNeg = true) (h4 : mm_in (iv + Int32.ofInt 4) (w 245 0).toNatClampNeg = true) (hc : c + 14 ≤ 601024) (g : ∀ w' s' c' y6 y7, Inv n s' → RepC w' s' → RepM w' s' → w' 244 = w 244 → w' 245 = w 245 → c' ≤ c + 7 → mm_E 198 2520 (LL iv y6 y7) [] w' c' K) : mm_E 198 674 (LL iv l6 l7) [] w c K := by
  obtain ⟨s', t, r, hi, ht, cc, mm⟩ := W
  have fin2 : ∀ w1, RepC w1 s' → fL w w1 → (t = 0 → w1 242 0 = r) → mm_E 198 746 (LL iv (.int (nI t)) l7) [.int u, .int (sc w iv 3), .int (sc w iv 2), .int (sc w iv 1), .ref 81] w1 (c + 4) K := by
    intro w1 hc1 hf1 ho1
    have hm1 : RepM w1 s := hm.keep (fun i hi => hf1 i (by omega) (by omega) (by omega)) (fun j _ _ => by rw [hf1 81 (by decide) (by decide) (by decide)])
    refine e_call (j := kX6_promise) (ar := [.ref 81, .int (sc w iv 1), .int (sc w iv 2), .int (sc w iv 3), .int (u)]) (rest := []) (lwC_at ck_promise (i := 5) rfl) rfl (by show c + 4 + 0 ≤ 601024; omega) (mm w1 hm1 _ (fun w2 y hm2 hf2 h26 hy => mm_Kr (c + 4) rfl (e_ist (lwC_at ck_promise (i := 6) rfl) rfl (e_tail (by decide +kernel) ht h26 (fun z => ?_) (by omega) ?_))))
    · rw [hy z, hf2 242 (by decide), ho1 z]
    · exact g w2 s' _ _ _ hi (hc1.keep (fun i hi => hf2 i (by omega))) hm2 (by rw [hf2 244 (by decide), hf1 244 (by decide) (by decide) (by decide)]) (by rw [hf2 245 (by decide), hf1 245 (by decide) (by decide) (by decide)]) (by omega)
  have fin1 : mm_E 198 707 (LL iv l6 l7) [.int u, .int (sc w iv 3), .int (sc w iv 2), .int (sc w iv 1), .ref 0] w c K := by
    refine e_al (lwC_at ck_promise (i := 1) rfl) rfl (e_call (j := kL_promise) (ar := [.ref 0, .int (sc w iv 1), .int (sc w iv 2), .int (sc w iv 3), .int (u), .ref 242]) (rest := []) (lwC_at ck_promise (i := 2) rfl) rfl (by show c + 4 ≤ 601024; omega) (cc _ (fun w1 hc1 hf1 ho1 => mm_Kr (c + 4) rfl ?_)))
    have e244 := hf1 244 (by decide) (by decide) (by decide)
    have e245 := hf1 245 (by decide) (by decide) (by decide)
    refine e_ist (lwC_at ck_promise (i := 3) rfl) rfl (e_al (lwC_at ck_promise (i := 4) rfl) rfl ?_)
    refine e_rd (a := 1) (by decide +kernel) (by rw [e245]; exact h1) ?_
    refine e_rd (a := 2) (by decide +kernel) (by rw [e245]; exact h2) ?_
    refine e_rd (a := 3) (by decide +kernel) (by rw [e245]; exact h3) ?_
    refine e_rd (a := 4) (by decide +kernel) (by rw [e245]; exact h4) ?_
    have es : ∀ a, sc w1 iv a = sc w iv a := fun a => by show w1 244 _ = _; rw [e244]
    rw [es 1, es 2, es 3, es 4]
    refine e_ife (lwC_at ck_promise (i := 11) rfl) (fun z => ?_) (fun z => ?_)
    · rw [if_pos z] at hu
      subst hu
      exact e_ic (lwC_at ck_promise (i := 14) rfl) (fin2 w1 hc1 hf1 ho1)
    · rw [if_neg z] at hu
      subst hu
      exact e_ic (lwC_at ck_promise (i := 12) rfl) (e_go (lwC_at ck_promise (i := 13) rfl) (fin2 w1 hc1 hf1 ho1))
  refine e_al (lwC_at ck_promise (i := 0) rfl) rfl ?_
  refine e_rd (a := 1) (by decide +kernel) h1 ?_
  refine e_rd (a := 2) (by decide +kernel) h2 ?_
  refine e_rd (a := 3) (by decide +kernel) h3 ?_
  refine e_rd (a := 4) (by decide +kernel) h4 ?_
  refine e_ife (lwC_at ck_promise (i := 7) rfl) (fun z => ?_) (fun z => ?_)
  · rw [if_pos z] at hu
    subst hu
    exact e_ic (lwC_at ck_promise (i := 10) rfl) fin1
  · rw [if_neg z] at hu
    subst hu
    exact e_ic (lwC_at ck_promise (i := 8) rfl) (e_go (lwC_at ck_promise (i := 9) rfl) fin1)
theorem ck_cancel : lwC [(782, .aload 1, 783, 0), (789, .aload 3, 790, 0), (790, .invokestatic 170, 793, 168), (793, .istore 6, 795, 1), (795, .aload 2, 796, 0), (802, .invokevirtual 125, 805, 170), (805, .istore 7, 807, 1)] = true := by decide +kernel
theorem cs_cancel (W : Wr kL_cancel kX6_cancel n [.ref 0, .int (sc w iv 1), .ref 242] [.ref 81, .int (sc w iv 1)] s w) (hm : RepM w s) (h1 : mm_in (iv + Int32.ofInt 1) (w 245 0).toNatClampNeg = true) (hc : c + 14 ≤ 601024) (g : ∀ w' s' c' y6 y7, Inv n s' → RepC w' s' → RepM w' s' → w' 244 = w 244 → w' 245 = w 245 → c' ≤ c + 7 → mm_E 198 2520 (LL iv y6 y7) [] w' c' K) : mm_E 198 782 (LL iv l6 l7) [] w c K := by
  obtain ⟨s', t, r, hi, ht, cc, mm⟩ := W
  refine e_al (lwC_at ck_cancel (i := 0) rfl) rfl ?_
  refine e_rd (a := 1) (by decide +kernel) h1 ?_
  refine e_al (lwC_at ck_cancel (i := 1) rfl) rfl (e_call (j := kL_cancel) (ar := [.ref 0, .int (sc w iv 1), .ref 242]) (rest := []) (lwC_at ck_cancel (i := 2) rfl) rfl (by show c + 2 ≤ 601024; omega) (cc _ (fun w1 hc1 hf1 ho1 => mm_Kr (c + 2) rfl ?_)))
  have e244 := hf1 244 (by decide) (by decide) (by decide)
  have e245 := hf1 245 (by decide) (by decide) (by decide)
  have hm1 : RepM w1 s := hm.keep (fun i hi => hf1 i (by omega) (by omega) (by omega)) (fun j _ _ => by rw [hf1 81 (by decide) (by decide) (by decide)])
  refine e_ist (lwC_at ck_cancel (i := 3) rfl) rfl (e_al (lwC_at ck_cancel (i := 4) rfl) rfl ?_)
  refine e_rd (a := 1) (by decide +kernel) (by rw [e245]; exact h1) ?_
  have es : ∀ a, sc w1 iv a = sc w iv a := fun a => by show w1 244 _ = _; rw [e244]
  rw [es 1]
  refine e_call (j := kX6_cancel) (ar := [.ref 81, .int (sc w iv 1)]) (rest := []) (lwC_at ck_cancel (i := 5) rfl) rfl (by show c + 2 + 0 ≤ 601024; omega) (mm w1 hm1 _ (fun w2 y hm2 hf2 h26 hy => mm_Kr (c + 2) rfl (e_ist (lwC_at ck_cancel (i := 6) rfl) rfl (e_tail (by decide +kernel) ht h26 (fun z => ?_) (by omega) ?_))))
  · rw [hy z, hf2 242 (by decide), ho1 z]
  · exact g w2 s' _ _ _ hi (hc1.keep (fun i hi => hf2 i (by omega))) hm2 (by rw [hf2 244 (by decide), e244]) (by rw [hf2 245 (by decide), e245]) (by omega)
theorem ck_pick : lwC [(838, .aload 1, 839, 0), (845, .aload 3, 846, 0), (846, .invokestatic 171, 849, 171), (849, .istore 6, 851, 1), (851, .aload 2, 852, 0), (858, .invokevirtual 126, 861, 173), (861, .istore 7, 863, 1)] = true := by decide +kernel
theorem cs_pick (W : Wr kL_pick kX6_pick n [.ref 0, .int (sc w iv 1), .ref 242] [.ref 81, .int (sc w iv 1)] s w) (hm : RepM w s) (h1 : mm_in (iv + Int32.ofInt 1) (w 245 0).toNatClampNeg = true) (hc : c + 14 ≤ 601024) (g : ∀ w' s' c' y6 y7, Inv n s' → RepC w' s' → RepM w' s' → w' 244 = w 244 → w' 245 = w 245 → c' ≤ c + 7 → mm_E 198 2520 (LL iv y6 y7) [] w' c' K) : mm_E 198 838 (LL iv l6 l7) [] w c K := by
  obtain ⟨s', t, r, hi, ht, cc, mm⟩ := W
  refine e_al (lwC_at ck_pick (i := 0) rfl) rfl ?_
  refine e_rd (a := 1) (by decide +kernel) h1 ?_
  refine e_al (lwC_at ck_pick (i := 1) rfl) rfl (e_call (j := kL_pick) (ar := [.ref 0, .int (sc w iv 1), .ref 242]) (rest := []) (lwC_at ck_pick (i := 2) rfl) rfl (by show c + 3 ≤ 601024; omega) (cc _ (fun w1 hc1 hf1 ho1 => mm_Kr (c + 3) rfl ?_)))
  have e244 := hf1 244 (by decide) (by decide) (by decide)
  have e245 := hf1 245 (by decide) (by decide) (by decide)
  have hm1 : RepM w1 s := hm.keep (fun i hi => hf1 i (by omega) (by omega) (by omega)) (fun j _ _ => by rw [hf1 81 (by decide) (by decide) (by decide)])
  refine e_ist (lwC_at ck_pick (i := 3) rfl) rfl (e_al (lwC_at ck_pick (i := 4) rfl) rfl ?_)
  refine e_rd (a := 1) (by decide +kernel) (by rw [e245]; exact h1) ?_
  have es : ∀ a, sc w1 iv a = sc w iv a := fun a => by show w1 244 _ = _; rw [e244]
  rw [es 1]
  refine e_call (j := kX6_pick) (ar := [.ref 81, .int (sc w iv 1)]) (rest := []) (lwC_at ck_pick (i := 5) rfl) rfl (by show c + 3 + 0 ≤ 601024; omega) (mm w1 hm1 _ (fun w2 y hm2 hf2 h26 hy => mm_Kr (c + 3) rfl (e_ist (lwC_at ck_pick (i := 6) rfl) rfl (e_tail (by decide +kernel) ht h26 (fun z => ?_) (by omega) ?_))))
  · rw [hy z, hf2 242 (by decide), ho1 z]
  · exact g w2 s' _ _ _ hi (hc1.keep (fun i hi => hf2 i (by omega))) hm2 (by rw [hf2 244 (by decide), e244]) (by rw [hf2 245 (by decide), e245]) (by omega)
theorem ck_status : lwC [(894, .aload 1, 895, 0), (901, .aload 3, 902, 0), (902, .invokestatic 172, 905, 174), (905, .istore 6, 907, 1), (907, .aload 2, 908, 0), (914, .invokevirtual 127, 917, 176), (917, .istore 7, 919, 1)] = true := by decide +kernel
theorem cs_status (W : Wr kL_status kX6_status n [.ref 0, .int (sc w iv 1), .ref 242] [.ref 81, .int (sc w iv 1)] s w) (hm : RepM w s) (h1 : mm_in (iv + Int32.ofInt 1) (w 245 0).toNatClampNeg = true) (hc : c + 14 ≤ 601024) (g : ∀ w' s' c' y6 y7, Inv n s' → RepC w' s' → RepM w' s' → w' 244 = w 244 → w' 245 = w 245 → c' ≤ c + 7 → mm_E 198 2520 (LL iv y6 y7) [] w' c' K) : mm_E 198 894 (LL iv l6 l7) [] w c K := by
  obtain ⟨s', t, r, hi, ht, cc, mm⟩ := W
  refine e_al (lwC_at ck_status (i := 0) rfl) rfl ?_
  refine e_rd (a := 1) (by decide +kernel) h1 ?_
  refine e_al (lwC_at ck_status (i := 1) rfl) rfl (e_call (j := kL_status) (ar := [.ref 0, .int (sc w iv 1), .ref 242]) (rest := []) (lwC_at ck_status (i := 2) rfl) rfl (by show c + 1 ≤ 601024; omega) (cc _ (fun w1 hc1 hf1 ho1 => mm_Kr (c + 1) rfl ?_)))
  have e244 := hf1 244 (by decide) (by decide) (by decide)
  have e245 := hf1 245 (by decide) (by decide) (by decide)
  have hm1 : RepM w1 s := hm.keep (fun i hi => hf1 i (by omega) (by omega) (by omega)) (fun j _ _ => by rw [hf1 81 (by decide) (by decide) (by decide)])
  refine e_ist (lwC_at ck_status (i := 3) rfl) rfl (e_al (lwC_at ck_status (i := 4) rfl) rfl ?_)
  refine e_rd (a := 1) (by decide +kernel) (by rw [e245]; exact h1) ?_
  have es : ∀ a, sc w1 iv a = sc w iv a := fun a => by show w1 244 _ = _; rw [e244]
  rw [es 1]
  refine e_call (j := kX6_status) (ar := [.ref 81, .int (sc w iv 1)]) (rest := []) (lwC_at ck_status (i := 5) rfl) rfl (by show c + 1 + 0 ≤ 601024; omega) (mm w1 hm1 _ (fun w2 y hm2 hf2 h26 hy => mm_Kr (c + 1) rfl (e_ist (lwC_at ck_status (i := 6) rfl) rfl (e_tail (by decide +kernel) ht h26 (fun z => ?_) (by omega) ?_))))
  · rw [hy z, hf2 242 (by decide), ho1 z]
  · exact g w2 s' _ _ _ hi (hc1.keep (fun i hi => hf2 i (by omega))) hm2 (by rw [hf2 244 (by decide), e244]) (by rw [hf2 245 (by decide), e245]) (by omega)
theorem ck_quantity : lwC [(950, .aload 1, 951, 0), (963, .aload 3, 964, 0), (964, .invokestatic 173, 967, 177), (967, .istore 6, 969, 1), (969, .aload 2, 970, 0), (982, .invokevirtual 128, 985, 180), (985, .istore 7, 987, 1)] = true := by decide +kernel
theorem cs_quantity (W : Wr kL_quantity kX6_quantity n [.ref 0, .int (sc w iv 1), .int (sc w iv 2), .ref 242] [.ref 81, .int (sc w iv 1), .int (sc w iv 2)] s w) (hm : RepM w s) (h1 : mm_in (iv + Int32.ofInt 1) (w 245 0).toNatClampNeg = true) (h2 : mm_in (iv + Int32.ofInt 2) (w 245 0).toNatClampNeg = true) (hc : c + 14 ≤ 601024) (g : ∀ w' s' c' y6 y7, Inv n s' → RepC w' s' → RepM w' s' → w' 244 = w 244 → w' 245 = w 245 → c' ≤ c + 7 → mm_E 198 2520 (LL iv y6 y7) [] w' c' K) : mm_E 198 950 (LL iv l6 l7) [] w c K := by
  obtain ⟨s', t, r, hi, ht, cc, mm⟩ := W
  refine e_al (lwC_at ck_quantity (i := 0) rfl) rfl ?_
  refine e_rd (a := 1) (by decide +kernel) h1 ?_
  refine e_rd (a := 2) (by decide +kernel) h2 ?_
  refine e_al (lwC_at ck_quantity (i := 1) rfl) rfl (e_call (j := kL_quantity) (ar := [.ref 0, .int (sc w iv 1), .int (sc w iv 2), .ref 242]) (rest := []) (lwC_at ck_quantity (i := 2) rfl) rfl (by show c + 2 ≤ 601024; omega) (cc _ (fun w1 hc1 hf1 ho1 => mm_Kr (c + 2) rfl ?_)))
  have e244 := hf1 244 (by decide) (by decide) (by decide)
  have e245 := hf1 245 (by decide) (by decide) (by decide)
  have hm1 : RepM w1 s := hm.keep (fun i hi => hf1 i (by omega) (by omega) (by omega)) (fun j _ _ => by rw [hf1 81 (by decide) (by decide) (by decide)])
  refine e_ist (lwC_at ck_quantity (i := 3) rfl) rfl (e_al (lwC_at ck_quantity (i := 4) rfl) rfl ?_)
  refine e_rd (a := 1) (by decide +kernel) (by rw [e245]; exact h1) ?_
  refine e_rd (a := 2) (by decide +kernel) (by rw [e245]; exact h2) ?_
  have es : ∀ a, sc w1 iv a = sc w iv a := fun a => by show w1 244 _ = _; rw [e244]
  rw [es 1, es 2]
  refine e_call (j := kX6_quantity) (ar := [.ref 81, .int (sc w iv 1), .int (sc w iv 2)]) (rest := []) (lwC_at ck_quantity (i := 5) rfl) rfl (by show c + 2 + 0 ≤ 601024; omega) (mm w1 hm1 _ (fun w2 y hm2 hf2 h26 hy => mm_Kr (c + 2) rfl (e_ist (lwC_at ck_quantity (i := 6) rfl) rfl (e_tail (by decide +kernel) ht h26 (fun z => ?_) (by omega) ?_))))
  · rw [hy z, hf2 242 (by decide), ho1 z]
  · exact g w2 s' _ _ _ hi (hc1.keep (fun i hi => hf2 i (by omega))) hm2 (by rw [hf2 244 (by decide), e244]) (by rw [hf2 245 (by decide), e245]) (by omega)
theorem ck_available : lwC [(1018, .aload 1, 1019, 0), (1031, .aload 3, 1032, 0), (1032, .invokestatic 174, 1035, 181), (1035, .istore 6, 1037, 1), (1037, .aload 2, 1038, 0), (1050, .invokevirtual 129, 1053, 183), (1053, .istore 7, 1055, 1)] = true := by decide +kernel
theorem cs_available (W : Wr kL_available kX6_available n [.ref 0, .int (sc w iv 1), .int (sc w iv 2), .ref 242] [.ref 81, .int (sc w iv 1), .int (sc w iv 2)] s w) (hm : RepM w s) (h1 : mm_in (iv + Int32.ofInt 1) (w 245 0).toNatClampNeg = true) (h2 : mm_in (iv + Int32.ofInt 2) (w 245 0).toNatClampNeg = true) (hc : c + 14 ≤ 601024) (g : ∀ w' s' c' y6 y7, Inv n s' → RepC w' s' → RepM w' s' → w' 244 = w 244 → w' 245 = w 245 → c' ≤ c + 7 → mm_E 198 2520 (LL iv y6 y7) [] w' c' K) : mm_E 198 1018 (LL iv l6 l7) [] w c K := by
  obtain ⟨s', t, r, hi, ht, cc, mm⟩ := W
  refine e_al (lwC_at ck_available (i := 0) rfl) rfl ?_
  refine e_rd (a := 1) (by decide +kernel) h1 ?_
  refine e_rd (a := 2) (by decide +kernel) h2 ?_
  refine e_al (lwC_at ck_available (i := 1) rfl) rfl (e_call (j := kL_available) (ar := [.ref 0, .int (sc w iv 1), .int (sc w iv 2), .ref 242]) (rest := []) (lwC_at ck_available (i := 2) rfl) rfl (by show c + 2 ≤ 601024; omega) (cc _ (fun w1 hc1 hf1 ho1 => mm_Kr (c + 2) rfl ?_)))
  have e244 := hf1 244 (by decide) (by decide) (by decide)
  have e245 := hf1 245 (by decide) (by decide) (by decide)
  have hm1 : RepM w1 s := hm.keep (fun i hi => hf1 i (by omega) (by omega) (by omega)) (fun j _ _ => by rw [hf1 81 (by decide) (by decide) (by decide)])
  refine e_ist (lwC_at ck_available (i := 3) rfl) rfl (e_al (lwC_at ck_available (i := 4) rfl) rfl ?_)
  refine e_rd (a := 1) (by decide +kernel) (by rw [e245]; exact h1) ?_
  refine e_rd (a := 2) (by decide +kernel) (by rw [e245]; exact h2) ?_
  have es : ∀ a, sc w1 iv a = sc w iv a := fun a => by show w1 244 _ = _; rw [e244]
  rw [es 1, es 2]
  refine e_call (j := kX6_available) (ar := [.ref 81, .int (sc w iv 1), .int (sc w iv 2)]) (rest := []) (lwC_at ck_available (i := 5) rfl) rfl (by show c + 2 + 0 ≤ 601024; omega) (mm w1 hm1 _ (fun w2 y hm2 hf2 h26 hy => mm_Kr (c + 2) rfl (e_ist (lwC_at ck_available (i := 6) rfl) rfl (e_tail (by decide +kernel) ht h26 (fun z => ?_) (by omega) ?_))))
  · rw [hy z, hf2 242 (by decide), ho1 z]
  · exact g w2 s' _ _ _ hi (hc1.keep (fun i hi => hf2 i (by omega))) hm2 (by rw [hf2 244 (by decide), e244]) (by rw [hf2 245 (by decide), e245]) (by omega)
theorem ck_availableByTrying : lwC [(1086, .aload 1, 1087, 0), (1099, .aload 3, 1100, 0), (1100, .invokestatic 175, 1103, 184), (1103, .istore 6, 1105, 1), (1105, .aload 2, 1106, 0), (1118, .invokevirtual 130, 1121, 186), (1121, .istore 7, 1123, 1)] = true := by decide +kernel
theorem cs_availableByTrying (W : Wr kL_availableByTrying kX6_availableByTrying n [.ref 0, .int (sc w iv 1), .int (sc w iv 2), .ref 242] [.ref 81, .int (sc w iv 1), .int (sc w iv 2)] s w) (hm : RepM w s) (h1 : mm_in (iv + Int32.ofInt 1) (w 245 0).toNatClampNeg = true) (h2 : mm_in (iv + Int32.ofInt 2) (w 245 0).toNatClampNeg = true) (hc : c + 14 ≤ 601024) (g : ∀ w' s' c' y6 y7, Inv n s' → RepC w' s' → RepM w' s' → w' 244 = w 244 → w' 245 = w 245 → c' ≤ c + 7 → mm_E 198 2520 (LL iv y6 y7) [] w' c' K) : mm_E 198 1086 (LL iv l6 l7) [] w c K := by
  obtain ⟨s', t, r, hi, ht, cc, mm⟩ := W
  refine e_al (lwC_at ck_availableByTrying (i := 0) rfl) rfl ?_
  refine e_rd (a := 1) (by decide +kernel) h1 ?_
  refine e_rd (a := 2) (by decide +kernel) h2 ?_
  refine e_al (lwC_at ck_availableByTrying (i := 1) rfl) rfl (e_call (j := kL_availableByTrying) (ar := [.ref 0, .int (sc w iv 1), .int (sc w iv 2), .ref 242]) (rest := []) (lwC_at ck_availableByTrying (i := 2) rfl) rfl (by show c + 2 ≤ 601024; omega) (cc _ (fun w1 hc1 hf1 ho1 => mm_Kr (c + 2) rfl ?_)))
  have e244 := hf1 244 (by decide) (by decide) (by decide)
  have e245 := hf1 245 (by decide) (by decide) (by decide)
  have hm1 : RepM w1 s := hm.keep (fun i hi => hf1 i (by omega) (by omega) (by omega)) (fun j _ _ => by rw [hf1 81 (by decide) (by decide) (by decide)])
  refine e_ist (lwC_at ck_availableByTrying (i := 3) rfl) rfl (e_al (lwC_at ck_availableByTrying (i := 4) rfl) rfl ?_)
  refine e_rd (a := 1) (by decide +kernel) (by rw [e245]; exact h1) ?_
  refine e_rd (a := 2) (by decide +kernel) (by rw [e245]; exact h2) ?_
  have es : ∀ a, sc w1 iv a = sc w iv a := fun a => by show w1 244 _ = _; rw [e244]
  rw [es 1, es 2]
  refine e_call (j := kX6_availableByTrying) (ar := [.ref 81, .int (sc w iv 1), .int (sc w iv 2)]) (rest := []) (lwC_at ck_availableByTrying (i := 5) rfl) rfl (by show c + 2 + 0 ≤ 601024; omega) (mm w1 hm1 _ (fun w2 y hm2 hf2 h26 hy => mm_Kr (c + 2) rfl (e_ist (lwC_at ck_availableByTrying (i := 6) rfl) rfl (e_tail (by decide +kernel) ht h26 (fun z => ?_) (by omega) ?_))))
  · rw [hy z, hf2 242 (by decide), ho1 z]
  · exact g w2 s' _ _ _ hi (hc1.keep (fun i hi => hf2 i (by omega))) hm2 (by rw [hf2 244 (by decide), e244]) (by rw [hf2 245 (by decide), e245]) (by omega)
theorem ck_pickLines : lwC [(1154, .aload 1, 1155, 0), (1161, .aload 3, 1162, 0), (1162, .invokestatic 176, 1165, 187), (1165, .istore 6, 1167, 1), (1167, .aload 2, 1168, 0), (1174, .invokevirtual 134, 1177, 189), (1177, .istore 7, 1179, 1)] = true := by decide +kernel
theorem cs_pickLines (W : Wr kL_pickLines kX6_pickLines n [.ref 0, .int (sc w iv 1), .ref 242] [.ref 81, .int (sc w iv 1)] s w) (hm : RepM w s) (h1 : mm_in (iv + Int32.ofInt 1) (w 245 0).toNatClampNeg = true) (hc : c + 14 ≤ 601024) (g : ∀ w' s' c' y6 y7, Inv n s' → RepC w' s' → RepM w' s' → w' 244 = w 244 → w' 245 = w 245 → c' ≤ c + 7 → mm_E 198 2520 (LL iv y6 y7) [] w' c' K) : mm_E 198 1154 (LL iv l6 l7) [] w c K := by
  obtain ⟨s', t, r, hi, ht, cc, mm⟩ := W
  refine e_al (lwC_at ck_pickLines (i := 0) rfl) rfl ?_
  refine e_rd (a := 1) (by decide +kernel) h1 ?_
  refine e_al (lwC_at ck_pickLines (i := 1) rfl) rfl (e_call (j := kL_pickLines) (ar := [.ref 0, .int (sc w iv 1), .ref 242]) (rest := []) (lwC_at ck_pickLines (i := 2) rfl) rfl (by show c + 2 ≤ 601024; omega) (cc _ (fun w1 hc1 hf1 ho1 => mm_Kr (c + 2) rfl ?_)))
  have e244 := hf1 244 (by decide) (by decide) (by decide)
  have e245 := hf1 245 (by decide) (by decide) (by decide)
  have hm1 : RepM w1 s := hm.keep (fun i hi => hf1 i (by omega) (by omega) (by omega)) (fun j _ _ => by rw [hf1 81 (by decide) (by decide) (by decide)])
  refine e_ist (lwC_at ck_pickLines (i := 3) rfl) rfl (e_al (lwC_at ck_pickLines (i := 4) rfl) rfl ?_)
  refine e_rd (a := 1) (by decide +kernel) (by rw [e245]; exact h1) ?_
  have es : ∀ a, sc w1 iv a = sc w iv a := fun a => by show w1 244 _ = _; rw [e244]
  rw [es 1]
  refine e_call (j := kX6_pickLines) (ar := [.ref 81, .int (sc w iv 1)]) (rest := []) (lwC_at ck_pickLines (i := 5) rfl) rfl (by show c + 2 + 0 ≤ 601024; omega) (mm w1 hm1 _ (fun w2 y hm2 hf2 h26 hy => mm_Kr (c + 2) rfl (e_ist (lwC_at ck_pickLines (i := 6) rfl) rfl (e_tail (by decide +kernel) ht h26 (fun z => ?_) (by omega) ?_))))
  · rw [hy z, hf2 242 (by decide), ho1 z]
  · exact g w2 s' _ _ _ hi (hc1.keep (fun i hi => hf2 i (by omega))) hm2 (by rw [hf2 244 (by decide), e244]) (by rw [hf2 245 (by decide), e245]) (by omega)
theorem ck_pickBin : lwC [(1210, .aload 1, 1211, 0), (1223, .aload 3, 1224, 0), (1224, .invokestatic 177, 1227, 190), (1227, .istore 6, 1229, 1), (1229, .aload 2, 1230, 0), (1242, .invokevirtual 135, 1245, 192), (1245, .istore 7, 1247, 1)] = true := by decide +kernel
theorem cs_pickBin (W : Wr kL_pickBin kX6_pickBin n [.ref 0, .int (sc w iv 1), .int (sc w iv 2), .ref 242] [.ref 81, .int (sc w iv 1), .int (sc w iv 2)] s w) (hm : RepM w s) (h1 : mm_in (iv + Int32.ofInt 1) (w 245 0).toNatClampNeg = true) (h2 : mm_in (iv + Int32.ofInt 2) (w 245 0).toNatClampNeg = true) (hc : c + 14 ≤ 601024) (g : ∀ w' s' c' y6 y7, Inv n s' → RepC w' s' → RepM w' s' → w' 244 = w 244 → w' 245 = w 245 → c' ≤ c + 7 → mm_E 198 2520 (LL iv y6 y7) [] w' c' K) : mm_E 198 1210 (LL iv l6 l7) [] w c K := by
  obtain ⟨s', t, r, hi, ht, cc, mm⟩ := W
  refine e_al (lwC_at ck_pickBin (i := 0) rfl) rfl ?_
  refine e_rd (a := 1) (by decide +kernel) h1 ?_
  refine e_rd (a := 2) (by decide +kernel) h2 ?_
  refine e_al (lwC_at ck_pickBin (i := 1) rfl) rfl (e_call (j := kL_pickBin) (ar := [.ref 0, .int (sc w iv 1), .int (sc w iv 2), .ref 242]) (rest := []) (lwC_at ck_pickBin (i := 2) rfl) rfl (by show c + 3 ≤ 601024; omega) (cc _ (fun w1 hc1 hf1 ho1 => mm_Kr (c + 3) rfl ?_)))
  have e244 := hf1 244 (by decide) (by decide) (by decide)
  have e245 := hf1 245 (by decide) (by decide) (by decide)
  have hm1 : RepM w1 s := hm.keep (fun i hi => hf1 i (by omega) (by omega) (by omega)) (fun j _ _ => by rw [hf1 81 (by decide) (by decide) (by decide)])
  refine e_ist (lwC_at ck_pickBin (i := 3) rfl) rfl (e_al (lwC_at ck_pickBin (i := 4) rfl) rfl ?_)
  refine e_rd (a := 1) (by decide +kernel) (by rw [e245]; exact h1) ?_
  refine e_rd (a := 2) (by decide +kernel) (by rw [e245]; exact h2) ?_
  have es : ∀ a, sc w1 iv a = sc w iv a := fun a => by show w1 244 _ = _; rw [e244]
  rw [es 1, es 2]
  refine e_call (j := kX6_pickBin) (ar := [.ref 81, .int (sc w iv 1), .int (sc w iv 2)]) (rest := []) (lwC_at ck_pickBin (i := 5) rfl) rfl (by show c + 3 + 0 ≤ 601024; omega) (mm w1 hm1 _ (fun w2 y hm2 hf2 h26 hy => mm_Kr (c + 3) rfl (e_ist (lwC_at ck_pickBin (i := 6) rfl) rfl (e_tail (by decide +kernel) ht h26 (fun z => ?_) (by omega) ?_))))
  · rw [hy z, hf2 242 (by decide), ho1 z]
  · exact g w2 s' _ _ _ hi (hc1.keep (fun i hi => hf2 i (by omega))) hm2 (by rw [hf2 244 (by decide), e244]) (by rw [hf2 245 (by decide), e245]) (by omega)
theorem ck_pickLot : lwC [(1278, .aload 1, 1279, 0), (1291, .aload 3, 1292, 0), (1292, .invokestatic 178, 1295, 193), (1295, .istore 6, 1297, 1), (1297, .aload 2, 1298, 0), (1310, .invokevirtual 136, 1313, 195), (1313, .istore 7, 1315, 1)] = true := by decide +kernel
theorem cs_pickLot (W : Wr kL_pickLot kX6_pickLot n [.ref 0, .int (sc w iv 1), .int (sc w iv 2), .ref 242] [.ref 81, .int (sc w iv 1), .int (sc w iv 2)] s w) (hm : RepM w s) (h1 : mm_in (iv + Int32.ofInt 1) (w 245 0).toNatClampNeg = true) (h2 : mm_in (iv + Int32.ofInt 2) (w 245 0).toNatClampNeg = true) (hc : c + 14 ≤ 601024) (g : ∀ w' s' c' y6 y7, Inv n s' → RepC w' s' → RepM w' s' → w' 244 = w 244 → w' 245 = w 245 → c' ≤ c + 7 → mm_E 198 2520 (LL iv y6 y7) [] w' c' K) : mm_E 198 1278 (LL iv l6 l7) [] w c K := by
  obtain ⟨s', t, r, hi, ht, cc, mm⟩ := W
  refine e_al (lwC_at ck_pickLot (i := 0) rfl) rfl ?_
  refine e_rd (a := 1) (by decide +kernel) h1 ?_
  refine e_rd (a := 2) (by decide +kernel) h2 ?_
  refine e_al (lwC_at ck_pickLot (i := 1) rfl) rfl (e_call (j := kL_pickLot) (ar := [.ref 0, .int (sc w iv 1), .int (sc w iv 2), .ref 242]) (rest := []) (lwC_at ck_pickLot (i := 2) rfl) rfl (by show c + 3 ≤ 601024; omega) (cc _ (fun w1 hc1 hf1 ho1 => mm_Kr (c + 3) rfl ?_)))
  have e244 := hf1 244 (by decide) (by decide) (by decide)
  have e245 := hf1 245 (by decide) (by decide) (by decide)
  have hm1 : RepM w1 s := hm.keep (fun i hi => hf1 i (by omega) (by omega) (by omega)) (fun j _ _ => by rw [hf1 81 (by decide) (by decide) (by decide)])
  refine e_ist (lwC_at ck_pickLot (i := 3) rfl) rfl (e_al (lwC_at ck_pickLot (i := 4) rfl) rfl ?_)
  refine e_rd (a := 1) (by decide +kernel) (by rw [e245]; exact h1) ?_
  refine e_rd (a := 2) (by decide +kernel) (by rw [e245]; exact h2) ?_
  have es : ∀ a, sc w1 iv a = sc w iv a := fun a => by show w1 244 _ = _; rw [e244]
  rw [es 1, es 2]
  refine e_call (j := kX6_pickLot) (ar := [.ref 81, .int (sc w iv 1), .int (sc w iv 2)]) (rest := []) (lwC_at ck_pickLot (i := 5) rfl) rfl (by show c + 3 + 0 ≤ 601024; omega) (mm w1 hm1 _ (fun w2 y hm2 hf2 h26 hy => mm_Kr (c + 3) rfl (e_ist (lwC_at ck_pickLot (i := 6) rfl) rfl (e_tail (by decide +kernel) ht h26 (fun z => ?_) (by omega) ?_))))
  · rw [hy z, hf2 242 (by decide), ho1 z]
  · exact g w2 s' _ _ _ hi (hc1.keep (fun i hi => hf2 i (by omega))) hm2 (by rw [hf2 244 (by decide), e244]) (by rw [hf2 245 (by decide), e245]) (by omega)
theorem ck_pickQuantity : lwC [(1346, .aload 1, 1347, 0), (1359, .aload 3, 1360, 0), (1360, .invokestatic 179, 1363, 196), (1363, .istore 6, 1365, 1), (1365, .aload 2, 1366, 0), (1378, .invokevirtual 137, 1381, 198), (1381, .istore 7, 1383, 1)] = true := by decide +kernel
theorem cs_pickQuantity (W : Wr kL_pickQuantity kX6_pickQuantity n [.ref 0, .int (sc w iv 1), .int (sc w iv 2), .ref 242] [.ref 81, .int (sc w iv 1), .int (sc w iv 2)] s w) (hm : RepM w s) (h1 : mm_in (iv + Int32.ofInt 1) (w 245 0).toNatClampNeg = true) (h2 : mm_in (iv + Int32.ofInt 2) (w 245 0).toNatClampNeg = true) (hc : c + 14 ≤ 601024) (g : ∀ w' s' c' y6 y7, Inv n s' → RepC w' s' → RepM w' s' → w' 244 = w 244 → w' 245 = w 245 → c' ≤ c + 7 → mm_E 198 2520 (LL iv y6 y7) [] w' c' K) : mm_E 198 1346 (LL iv l6 l7) [] w c K := by
  obtain ⟨s', t, r, hi, ht, cc, mm⟩ := W
  refine e_al (lwC_at ck_pickQuantity (i := 0) rfl) rfl ?_
  refine e_rd (a := 1) (by decide +kernel) h1 ?_
  refine e_rd (a := 2) (by decide +kernel) h2 ?_
  refine e_al (lwC_at ck_pickQuantity (i := 1) rfl) rfl (e_call (j := kL_pickQuantity) (ar := [.ref 0, .int (sc w iv 1), .int (sc w iv 2), .ref 242]) (rest := []) (lwC_at ck_pickQuantity (i := 2) rfl) rfl (by show c + 3 ≤ 601024; omega) (cc _ (fun w1 hc1 hf1 ho1 => mm_Kr (c + 3) rfl ?_)))
  have e244 := hf1 244 (by decide) (by decide) (by decide)
  have e245 := hf1 245 (by decide) (by decide) (by decide)
  have hm1 : RepM w1 s := hm.keep (fun i hi => hf1 i (by omega) (by omega) (by omega)) (fun j _ _ => by rw [hf1 81 (by decide) (by decide) (by decide)])
  refine e_ist (lwC_at ck_pickQuantity (i := 3) rfl) rfl (e_al (lwC_at ck_pickQuantity (i := 4) rfl) rfl ?_)
  refine e_rd (a := 1) (by decide +kernel) (by rw [e245]; exact h1) ?_
  refine e_rd (a := 2) (by decide +kernel) (by rw [e245]; exact h2) ?_
  have es : ∀ a, sc w1 iv a = sc w iv a := fun a => by show w1 244 _ = _; rw [e244]
  rw [es 1, es 2]
  refine e_call (j := kX6_pickQuantity) (ar := [.ref 81, .int (sc w iv 1), .int (sc w iv 2)]) (rest := []) (lwC_at ck_pickQuantity (i := 5) rfl) rfl (by show c + 3 + 0 ≤ 601024; omega) (mm w1 hm1 _ (fun w2 y hm2 hf2 h26 hy => mm_Kr (c + 3) rfl (e_ist (lwC_at ck_pickQuantity (i := 6) rfl) rfl (e_tail (by decide +kernel) ht h26 (fun z => ?_) (by omega) ?_))))
  · rw [hy z, hf2 242 (by decide), ho1 z]
  · exact g w2 s' _ _ _ hi (hc1.keep (fun i hi => hf2 i (by omega))) hm2 (by rw [hf2 244 (by decide), e244]) (by rw [hf2 245 (by decide), e245]) (by omega)
theorem ck_walk : lwC [(1414, .aload 1, 1415, 0), (1421, .aload 3, 1422, 0), (1422, .invokestatic 180, 1425, 199), (1425, .istore 6, 1427, 1), (1427, .aload 2, 1428, 0), (1434, .invokevirtual 138, 1437, 201), (1437, .istore 7, 1439, 1)] = true := by decide +kernel
theorem cs_walk (W : Wr kL_walk kX6_walk n [.ref 0, .int (sc w iv 1), .ref 242] [.ref 81, .int (sc w iv 1)] s w) (hm : RepM w s) (h1 : mm_in (iv + Int32.ofInt 1) (w 245 0).toNatClampNeg = true) (hc : c + 14 ≤ 601024) (g : ∀ w' s' c' y6 y7, Inv n s' → RepC w' s' → RepM w' s' → w' 244 = w 244 → w' 245 = w 245 → c' ≤ c + 7 → mm_E 198 2520 (LL iv y6 y7) [] w' c' K) : mm_E 198 1414 (LL iv l6 l7) [] w c K := by
  obtain ⟨s', t, r, hi, ht, cc, mm⟩ := W
  refine e_al (lwC_at ck_walk (i := 0) rfl) rfl ?_
  refine e_rd (a := 1) (by decide +kernel) h1 ?_
  refine e_al (lwC_at ck_walk (i := 1) rfl) rfl (e_call (j := kL_walk) (ar := [.ref 0, .int (sc w iv 1), .ref 242]) (rest := []) (lwC_at ck_walk (i := 2) rfl) rfl (by show c + 2 ≤ 601024; omega) (cc _ (fun w1 hc1 hf1 ho1 => mm_Kr (c + 2) rfl ?_)))
  have e244 := hf1 244 (by decide) (by decide) (by decide)
  have e245 := hf1 245 (by decide) (by decide) (by decide)
  have hm1 : RepM w1 s := hm.keep (fun i hi => hf1 i (by omega) (by omega) (by omega)) (fun j _ _ => by rw [hf1 81 (by decide) (by decide) (by decide)])
  refine e_ist (lwC_at ck_walk (i := 3) rfl) rfl (e_al (lwC_at ck_walk (i := 4) rfl) rfl ?_)
  refine e_rd (a := 1) (by decide +kernel) (by rw [e245]; exact h1) ?_
  have es : ∀ a, sc w1 iv a = sc w iv a := fun a => by show w1 244 _ = _; rw [e244]
  rw [es 1]
  refine e_call (j := kX6_walk) (ar := [.ref 81, .int (sc w iv 1)]) (rest := []) (lwC_at ck_walk (i := 5) rfl) rfl (by show c + 2 + 0 ≤ 601024; omega) (mm w1 hm1 _ (fun w2 y hm2 hf2 h26 hy => mm_Kr (c + 2) rfl (e_ist (lwC_at ck_walk (i := 6) rfl) rfl (e_tail (by decide +kernel) ht h26 (fun z => ?_) (by omega) ?_))))
  · rw [hy z, hf2 242 (by decide), ho1 z]
  · exact g w2 s' _ _ _ hi (hc1.keep (fun i hi => hf2 i (by omega))) hm2 (by rw [hf2 244 (by decide), e244]) (by rw [hf2 245 (by decide), e245]) (by omega)
theorem ck_walkByTrying : lwC [(1470, .aload 1, 1471, 0), (1477, .aload 3, 1478, 0), (1478, .invokestatic 181, 1481, 202), (1481, .istore 6, 1483, 1), (1483, .aload 2, 1484, 0), (1490, .invokevirtual 139, 1493, 204), (1493, .istore 7, 1495, 1)] = true := by decide +kernel
theorem cs_walkByTrying (W : Wr kL_walkByTrying kX6_walkByTrying n [.ref 0, .int (sc w iv 1), .ref 242] [.ref 81, .int (sc w iv 1)] s w) (hm : RepM w s) (h1 : mm_in (iv + Int32.ofInt 1) (w 245 0).toNatClampNeg = true) (hc : c + 14 ≤ 601024) (g : ∀ w' s' c' y6 y7, Inv n s' → RepC w' s' → RepM w' s' → w' 244 = w 244 → w' 245 = w 245 → c' ≤ c + 7 → mm_E 198 2520 (LL iv y6 y7) [] w' c' K) : mm_E 198 1470 (LL iv l6 l7) [] w c K := by
  obtain ⟨s', t, r, hi, ht, cc, mm⟩ := W
  refine e_al (lwC_at ck_walkByTrying (i := 0) rfl) rfl ?_
  refine e_rd (a := 1) (by decide +kernel) h1 ?_
  refine e_al (lwC_at ck_walkByTrying (i := 1) rfl) rfl (e_call (j := kL_walkByTrying) (ar := [.ref 0, .int (sc w iv 1), .ref 242]) (rest := []) (lwC_at ck_walkByTrying (i := 2) rfl) rfl (by show c + 2 ≤ 601024; omega) (cc _ (fun w1 hc1 hf1 ho1 => mm_Kr (c + 2) rfl ?_)))
  have e244 := hf1 244 (by decide) (by decide) (by decide)
  have e245 := hf1 245 (by decide) (by decide) (by decide)
  have hm1 : RepM w1 s := hm.keep (fun i hi => hf1 i (by omega) (by omega) (by omega)) (fun j _ _ => by rw [hf1 81 (by decide) (by decide) (by decide)])
  refine e_ist (lwC_at ck_walkByTrying (i := 3) rfl) rfl (e_al (lwC_at ck_walkByTrying (i := 4) rfl) rfl ?_)
  refine e_rd (a := 1) (by decide +kernel) (by rw [e245]; exact h1) ?_
  have es : ∀ a, sc w1 iv a = sc w iv a := fun a => by show w1 244 _ = _; rw [e244]
  rw [es 1]
  refine e_call (j := kX6_walkByTrying) (ar := [.ref 81, .int (sc w iv 1)]) (rest := []) (lwC_at ck_walkByTrying (i := 5) rfl) rfl (by show c + 2 + 0 ≤ 601024; omega) (mm w1 hm1 _ (fun w2 y hm2 hf2 h26 hy => mm_Kr (c + 2) rfl (e_ist (lwC_at ck_walkByTrying (i := 6) rfl) rfl (e_tail (by decide +kernel) ht h26 (fun z => ?_) (by omega) ?_))))
  · rw [hy z, hf2 242 (by decide), ho1 z]
  · exact g w2 s' _ _ _ hi (hc1.keep (fun i hi => hf2 i (by omega))) hm2 (by rw [hf2 244 (by decide), e244]) (by rw [hf2 245 (by decide), e245]) (by omega)
theorem ck_pass : lwC [(1526, .aload 1, 1527, 0), (1533, .aload 3, 1534, 0), (1534, .invokestatic 182, 1537, 205), (1537, .istore 6, 1539, 1), (1539, .aload 2, 1540, 0), (1546, .invokevirtual 140, 1549, 207), (1549, .istore 7, 1551, 1)] = true := by decide +kernel
theorem cs_pass (W : Wr kL_pass kX6_pass n [.ref 0, .int (sc w iv 1), .ref 242] [.ref 81, .int (sc w iv 1)] s w) (hm : RepM w s) (h1 : mm_in (iv + Int32.ofInt 1) (w 245 0).toNatClampNeg = true) (hc : c + 14 ≤ 601024) (g : ∀ w' s' c' y6 y7, Inv n s' → RepC w' s' → RepM w' s' → w' 244 = w 244 → w' 245 = w 245 → c' ≤ c + 7 → mm_E 198 2520 (LL iv y6 y7) [] w' c' K) : mm_E 198 1526 (LL iv l6 l7) [] w c K := by
  obtain ⟨s', t, r, hi, ht, cc, mm⟩ := W
  refine e_al (lwC_at ck_pass (i := 0) rfl) rfl ?_
  refine e_rd (a := 1) (by decide +kernel) h1 ?_
  refine e_al (lwC_at ck_pass (i := 1) rfl) rfl (e_call (j := kL_pass) (ar := [.ref 0, .int (sc w iv 1), .ref 242]) (rest := []) (lwC_at ck_pass (i := 2) rfl) rfl (by show c + 1 ≤ 601024; omega) (cc _ (fun w1 hc1 hf1 ho1 => mm_Kr (c + 1) rfl ?_)))
  have e244 := hf1 244 (by decide) (by decide) (by decide)
  have e245 := hf1 245 (by decide) (by decide) (by decide)
  have hm1 : RepM w1 s := hm.keep (fun i hi => hf1 i (by omega) (by omega) (by omega)) (fun j _ _ => by rw [hf1 81 (by decide) (by decide) (by decide)])
  refine e_ist (lwC_at ck_pass (i := 3) rfl) rfl (e_al (lwC_at ck_pass (i := 4) rfl) rfl ?_)
  refine e_rd (a := 1) (by decide +kernel) (by rw [e245]; exact h1) ?_
  have es : ∀ a, sc w1 iv a = sc w iv a := fun a => by show w1 244 _ = _; rw [e244]
  rw [es 1]
  refine e_call (j := kX6_pass) (ar := [.ref 81, .int (sc w iv 1)]) (rest := []) (lwC_at ck_pass (i := 5) rfl) rfl (by show c + 1 + 0 ≤ 601024; omega) (mm w1 hm1 _ (fun w2 y hm2 hf2 h26 hy => mm_Kr (c + 1) rfl (e_ist (lwC_at ck_pass (i := 6) rfl) rfl (e_tail (by decide +kernel) ht h26 (fun z => ?_) (by omega) ?_))))
  · rw [hy z, hf2 242 (by decide), ho1 z]
  · exact g w2 s' _ _ _ hi (hc1.keep (fun i hi => hf2 i (by omega))) hm2 (by rw [hf2 244 (by decide), e244]) (by rw [hf2 245 (by decide), e245]) (by omega)
theorem ck_day : lwC [(1582, .aload 1, 1583, 0), (1583, .invokevirtual 54, 1586, 208), (1586, .aload 2, 1587, 0), (1587, .invokevirtual 141, 1590, 211), (1590, .if_icmp .eq 0, 1593, 2520)] = true := by decide +kernel
theorem cs_day (hI : Inv n s) (hC : RepC w s) (hm : RepM w s) (hc : c + 14 ≤ 601024) (g : ∀ w' s' c' y6 y7, Inv n s' → RepC w' s' → RepM w' s' → w' 244 = w 244 → w' 245 = w 245 → c' ≤ c + 7 → mm_E 198 2520 (LL iv y6 y7) [] w' c' K) : mm_E 198 1582 (LL iv l6 l7) [] w c K := by
  refine e_al (lwC_at ck_day (i := 0) rfl) rfl (e_call (j := kX5_day) (ar := [.ref 0]) (rest := []) (lwC_at ck_day (i := 1) rfl) rfl (by show c + 0 ≤ 601024; omega) (k_dayC hC (mm_Kr c rfl ?_)))
  refine e_al (lwC_at ck_day (i := 2) rfl) rfl (e_call (j := kX6_day) (ar := [.ref 81]) (rest := [.int (nI s.td)]) (lwC_at ck_day (i := 3) rfl) rfl (by show c + 0 ≤ 601024; omega) (k_dayM hm (mm_Kr c rfl ?_)))
  refine e_icq (lwC_at ck_day (i := 4) rfl) (fun _ => ?_) (fun z => absurd rfl z)
  exact g _ s _ _ _ hI (hC.keep (fun i hi => mm_up_row (by omega))) hm.th (mm_up_row (by decide)) (mm_up_row (by decide)) (by omega)
theorem ck_countsDue : lwC [(1595, .aload 1, 1596, 0), (1596, .invokevirtual 55, 1599, 212), (1599, .aload 2, 1600, 0), (1600, .invokevirtual 143, 1603, 215), (1603, .if_icmp .eq 0, 1606, 2520)] = true := by decide +kernel
theorem cs_countsDue (hI : Inv n s) (hC : RepC w s) (hm : RepM w s) (hc : c + 14 ≤ 601024) (g : ∀ w' s' c' y6 y7, Inv n s' → RepC w' s' → RepM w' s' → w' 244 = w 244 → w' 245 = w 245 → c' ≤ c + 7 → mm_E 198 2520 (LL iv y6 y7) [] w' c' K) : mm_E 198 1595 (LL iv l6 l7) [] w c K := by
  refine e_al (lwC_at ck_countsDue (i := 0) rfl) rfl (e_call (j := kX5_countsDue) (ar := [.ref 0]) (rest := []) (lwC_at ck_countsDue (i := 1) rfl) rfl (by show c + 0 ≤ 601024; omega) (k_countsDueC hI hC (mm_Kr c rfl ?_)))
  refine e_al (lwC_at ck_countsDue (i := 2) rfl) rfl (e_call (j := kX6_countsDue) (ar := [.ref 81]) (rest := [.int (nI s.cd)]) (lwC_at ck_countsDue (i := 3) rfl) rfl (by show c + 0 ≤ 601024; omega) (k_countsDueM hI hm (mm_Kr c rfl ?_)))
  refine e_icq (lwC_at ck_countsDue (i := 4) rfl) (fun _ => ?_) (fun z => absurd rfl z)
  exact g _ s _ _ _ hI (hC.keep (fun i hi => mm_up_row (by omega))) hm.th (mm_up_row (by decide)) (mm_up_row (by decide)) (by omega)
theorem ck_nextCount : lwC [(1608, .aload 1, 1609, 0), (1609, .aload 3, 1610, 0), (1610, .invokestatic 183, 1613, 216), (1613, .istore 6, 1615, 1), (1615, .aload 2, 1616, 0), (1616, .invokevirtual 144, 1619, 219), (1619, .istore 7, 1621, 1)] = true := by decide +kernel
theorem cs_nextCount (W : Wr kL_nextCount kX6_nextCount n [.ref 0, .ref 242] [.ref 81] s w) (hm : RepM w s)  (hc : c + 14 ≤ 601024) (g : ∀ w' s' c' y6 y7, Inv n s' → RepC w' s' → RepM w' s' → w' 244 = w 244 → w' 245 = w 245 → c' ≤ c + 7 → mm_E 198 2520 (LL iv y6 y7) [] w' c' K) : mm_E 198 1608 (LL iv l6 l7) [] w c K := by
  obtain ⟨s', t, r, hi, ht, cc, mm⟩ := W
  refine e_al (lwC_at ck_nextCount (i := 0) rfl) rfl ?_
  refine e_al (lwC_at ck_nextCount (i := 1) rfl) rfl (e_call (j := kL_nextCount) (ar := [.ref 0, .ref 242]) (rest := []) (lwC_at ck_nextCount (i := 2) rfl) rfl (by show c + 1 ≤ 601024; omega) (cc _ (fun w1 hc1 hf1 ho1 => mm_Kr (c + 1) rfl ?_)))
  have e244 := hf1 244 (by decide) (by decide) (by decide)
  have e245 := hf1 245 (by decide) (by decide) (by decide)
  have hm1 : RepM w1 s := hm.keep (fun i hi => hf1 i (by omega) (by omega) (by omega)) (fun j _ _ => by rw [hf1 81 (by decide) (by decide) (by decide)])
  refine e_ist (lwC_at ck_nextCount (i := 3) rfl) rfl (e_al (lwC_at ck_nextCount (i := 4) rfl) rfl ?_)
  refine e_call (j := kX6_nextCount) (ar := [.ref 81]) (rest := []) (lwC_at ck_nextCount (i := 5) rfl) rfl (by show c + 1 + 0 ≤ 601024; omega) (mm w1 hm1 _ (fun w2 y hm2 hf2 h26 hy => mm_Kr (c + 1) rfl (e_ist (lwC_at ck_nextCount (i := 6) rfl) rfl (e_tail (by decide +kernel) ht h26 (fun z => ?_) (by omega) ?_))))
  · rw [hy z, hf2 242 (by decide), ho1 z]
  · exact g w2 s' _ _ _ hi (hc1.keep (fun i hi => hf2 i (by omega))) hm2 (by rw [hf2 244 (by decide), e244]) (by rw [hf2 245 (by decide), e245]) (by omega)
theorem ck_countDay : lwC [(1652, .aload 1, 1653, 0), (1659, .aload 3, 1660, 0), (1660, .invokestatic 184, 1663, 220), (1663, .istore 6, 1665, 1), (1665, .aload 2, 1666, 0), (1672, .invokevirtual 145, 1675, 222), (1675, .istore 7, 1677, 1)] = true := by decide +kernel
theorem cs_countDay (W : Wr kL_countDay kX6_countDay n [.ref 0, .int (sc w iv 1), .ref 242] [.ref 81, .int (sc w iv 1)] s w) (hm : RepM w s) (h1 : mm_in (iv + Int32.ofInt 1) (w 245 0).toNatClampNeg = true) (hc : c + 14 ≤ 601024) (g : ∀ w' s' c' y6 y7, Inv n s' → RepC w' s' → RepM w' s' → w' 244 = w 244 → w' 245 = w 245 → c' ≤ c + 7 → mm_E 198 2520 (LL iv y6 y7) [] w' c' K) : mm_E 198 1652 (LL iv l6 l7) [] w c K := by
  obtain ⟨s', t, r, hi, ht, cc, mm⟩ := W
  refine e_al (lwC_at ck_countDay (i := 0) rfl) rfl ?_
  refine e_rd (a := 1) (by decide +kernel) h1 ?_
  refine e_al (lwC_at ck_countDay (i := 1) rfl) rfl (e_call (j := kL_countDay) (ar := [.ref 0, .int (sc w iv 1), .ref 242]) (rest := []) (lwC_at ck_countDay (i := 2) rfl) rfl (by show c + 2 ≤ 601024; omega) (cc _ (fun w1 hc1 hf1 ho1 => mm_Kr (c + 2) rfl ?_)))
  have e244 := hf1 244 (by decide) (by decide) (by decide)
  have e245 := hf1 245 (by decide) (by decide) (by decide)
  have hm1 : RepM w1 s := hm.keep (fun i hi => hf1 i (by omega) (by omega) (by omega)) (fun j _ _ => by rw [hf1 81 (by decide) (by decide) (by decide)])
  refine e_ist (lwC_at ck_countDay (i := 3) rfl) rfl (e_al (lwC_at ck_countDay (i := 4) rfl) rfl ?_)
  refine e_rd (a := 1) (by decide +kernel) (by rw [e245]; exact h1) ?_
  have es : ∀ a, sc w1 iv a = sc w iv a := fun a => by show w1 244 _ = _; rw [e244]
  rw [es 1]
  refine e_call (j := kX6_countDay) (ar := [.ref 81, .int (sc w iv 1)]) (rest := []) (lwC_at ck_countDay (i := 5) rfl) rfl (by show c + 2 + 0 ≤ 601024; omega) (mm w1 hm1 _ (fun w2 y hm2 hf2 h26 hy => mm_Kr (c + 2) rfl (e_ist (lwC_at ck_countDay (i := 6) rfl) rfl (e_tail (by decide +kernel) ht h26 (fun z => ?_) (by omega) ?_))))
  · rw [hy z, hf2 242 (by decide), ho1 z]
  · exact g w2 s' _ _ _ hi (hc1.keep (fun i hi => hf2 i (by omega))) hm2 (by rw [hf2 244 (by decide), e244]) (by rw [hf2 245 (by decide), e245]) (by omega)
theorem ck_stock : lwC [(1708, .aload 1, 1709, 0), (1721, .aload 3, 1722, 0), (1722, .invokestatic 185, 1725, 223), (1725, .istore 6, 1727, 1), (1727, .aload 2, 1728, 0), (1740, .invokevirtual 146, 1743, 225), (1743, .istore 7, 1745, 1)] = true := by decide +kernel
theorem cs_stock (W : Wr kL_stock kX6_stock n [.ref 0, .int (sc w iv 1), .int (sc w iv 2), .ref 242] [.ref 81, .int (sc w iv 1), .int (sc w iv 2)] s w) (hm : RepM w s) (h1 : mm_in (iv + Int32.ofInt 1) (w 245 0).toNatClampNeg = true) (h2 : mm_in (iv + Int32.ofInt 2) (w 245 0).toNatClampNeg = true) (hc : c + 14 ≤ 601024) (g : ∀ w' s' c' y6 y7, Inv n s' → RepC w' s' → RepM w' s' → w' 244 = w 244 → w' 245 = w 245 → c' ≤ c + 7 → mm_E 198 2520 (LL iv y6 y7) [] w' c' K) : mm_E 198 1708 (LL iv l6 l7) [] w c K := by
  obtain ⟨s', t, r, hi, ht, cc, mm⟩ := W
  refine e_al (lwC_at ck_stock (i := 0) rfl) rfl ?_
  refine e_rd (a := 1) (by decide +kernel) h1 ?_
  refine e_rd (a := 2) (by decide +kernel) h2 ?_
  refine e_al (lwC_at ck_stock (i := 1) rfl) rfl (e_call (j := kL_stock) (ar := [.ref 0, .int (sc w iv 1), .int (sc w iv 2), .ref 242]) (rest := []) (lwC_at ck_stock (i := 2) rfl) rfl (by show c + 2 ≤ 601024; omega) (cc _ (fun w1 hc1 hf1 ho1 => mm_Kr (c + 2) rfl ?_)))
  have e244 := hf1 244 (by decide) (by decide) (by decide)
  have e245 := hf1 245 (by decide) (by decide) (by decide)
  have hm1 : RepM w1 s := hm.keep (fun i hi => hf1 i (by omega) (by omega) (by omega)) (fun j _ _ => by rw [hf1 81 (by decide) (by decide) (by decide)])
  refine e_ist (lwC_at ck_stock (i := 3) rfl) rfl (e_al (lwC_at ck_stock (i := 4) rfl) rfl ?_)
  refine e_rd (a := 1) (by decide +kernel) (by rw [e245]; exact h1) ?_
  refine e_rd (a := 2) (by decide +kernel) (by rw [e245]; exact h2) ?_
  have es : ∀ a, sc w1 iv a = sc w iv a := fun a => by show w1 244 _ = _; rw [e244]
  rw [es 1, es 2]
  refine e_call (j := kX6_stock) (ar := [.ref 81, .int (sc w iv 1), .int (sc w iv 2)]) (rest := []) (lwC_at ck_stock (i := 5) rfl) rfl (by show c + 2 + 0 ≤ 601024; omega) (mm w1 hm1 _ (fun w2 y hm2 hf2 h26 hy => mm_Kr (c + 2) rfl (e_ist (lwC_at ck_stock (i := 6) rfl) rfl (e_tail (by decide +kernel) ht h26 (fun z => ?_) (by omega) ?_))))
  · rw [hy z, hf2 242 (by decide), ho1 z]
  · exact g w2 s' _ _ _ hi (hc1.keep (fun i hi => hf2 i (by omega))) hm2 (by rw [hf2 244 (by decide), e244]) (by rw [hf2 245 (by decide), e245]) (by omega)
theorem ck_stockByJournal : lwC [(1776, .aload 1, 1777, 0), (1789, .aload 3, 1790, 0), (1790, .invokestatic 186, 1793, 226), (1793, .istore 6, 1795, 1), (1795, .aload 2, 1796, 0), (1808, .invokevirtual 147, 1811, 228), (1811, .istore 7, 1813, 1)] = true := by decide +kernel
theorem cs_stockByJournal (W : Wr kL_stockByJournal kX6_stockByJournal n [.ref 0, .int (sc w iv 1), .int (sc w iv 2), .ref 242] [.ref 81, .int (sc w iv 1), .int (sc w iv 2)] s w) (hm : RepM w s) (h1 : mm_in (iv + Int32.ofInt 1) (w 245 0).toNatClampNeg = true) (h2 : mm_in (iv + Int32.ofInt 2) (w 245 0).toNatClampNeg = true) (hc : c + 14 ≤ 601024) (g : ∀ w' s' c' y6 y7, Inv n s' → RepC w' s' → RepM w' s' → w' 244 = w 244 → w' 245 = w 245 → c' ≤ c + 7 → mm_E 198 2520 (LL iv y6 y7) [] w' c' K) : mm_E 198 1776 (LL iv l6 l7) [] w c K := by
  obtain ⟨s', t, r, hi, ht, cc, mm⟩ := W
  refine e_al (lwC_at ck_stockByJournal (i := 0) rfl) rfl ?_
  refine e_rd (a := 1) (by decide +kernel) h1 ?_
  refine e_rd (a := 2) (by decide +kernel) h2 ?_
  refine e_al (lwC_at ck_stockByJournal (i := 1) rfl) rfl (e_call (j := kL_stockByJournal) (ar := [.ref 0, .int (sc w iv 1), .int (sc w iv 2), .ref 242]) (rest := []) (lwC_at ck_stockByJournal (i := 2) rfl) rfl (by show c + 2 ≤ 601024; omega) (cc _ (fun w1 hc1 hf1 ho1 => mm_Kr (c + 2) rfl ?_)))
  have e244 := hf1 244 (by decide) (by decide) (by decide)
  have e245 := hf1 245 (by decide) (by decide) (by decide)
  have hm1 : RepM w1 s := hm.keep (fun i hi => hf1 i (by omega) (by omega) (by omega)) (fun j _ _ => by rw [hf1 81 (by decide) (by decide) (by decide)])
  refine e_ist (lwC_at ck_stockByJournal (i := 3) rfl) rfl (e_al (lwC_at ck_stockByJournal (i := 4) rfl) rfl ?_)
  refine e_rd (a := 1) (by decide +kernel) (by rw [e245]; exact h1) ?_
  refine e_rd (a := 2) (by decide +kernel) (by rw [e245]; exact h2) ?_
  have es : ∀ a, sc w1 iv a = sc w iv a := fun a => by show w1 244 _ = _; rw [e244]
  rw [es 1, es 2]
  refine e_call (j := kX6_stockByJournal) (ar := [.ref 81, .int (sc w iv 1), .int (sc w iv 2)]) (rest := []) (lwC_at ck_stockByJournal (i := 5) rfl) rfl (by show c + 2 + 0 ≤ 601024; omega) (mm w1 hm1 _ (fun w2 y hm2 hf2 h26 hy => mm_Kr (c + 2) rfl (e_ist (lwC_at ck_stockByJournal (i := 6) rfl) rfl (e_tail (by decide +kernel) ht h26 (fun z => ?_) (by omega) ?_))))
  · rw [hy z, hf2 242 (by decide), ho1 z]
  · exact g w2 s' _ _ _ hi (hc1.keep (fun i hi => hf2 i (by omega))) hm2 (by rw [hf2 244 (by decide), e244]) (by rw [hf2 245 (by decide), e245]) (by omega)
theorem ck_load : lwC [(1844, .aload 1, 1845, 0), (1851, .aload 3, 1852, 0), (1852, .invokestatic 187, 1855, 229), (1855, .istore 6, 1857, 1), (1857, .aload 2, 1858, 0), (1864, .invokevirtual 148, 1867, 231), (1867, .istore 7, 1869, 1)] = true := by decide +kernel
theorem cs_load (W : Wr kL_load kX6_load n [.ref 0, .int (sc w iv 1), .ref 242] [.ref 81, .int (sc w iv 1)] s w) (hm : RepM w s) (h1 : mm_in (iv + Int32.ofInt 1) (w 245 0).toNatClampNeg = true) (hc : c + 14 ≤ 601024) (g : ∀ w' s' c' y6 y7, Inv n s' → RepC w' s' → RepM w' s' → w' 244 = w 244 → w' 245 = w 245 → c' ≤ c + 7 → mm_E 198 2520 (LL iv y6 y7) [] w' c' K) : mm_E 198 1844 (LL iv l6 l7) [] w c K := by
  obtain ⟨s', t, r, hi, ht, cc, mm⟩ := W
  refine e_al (lwC_at ck_load (i := 0) rfl) rfl ?_
  refine e_rd (a := 1) (by decide +kernel) h1 ?_
  refine e_al (lwC_at ck_load (i := 1) rfl) rfl (e_call (j := kL_load) (ar := [.ref 0, .int (sc w iv 1), .ref 242]) (rest := []) (lwC_at ck_load (i := 2) rfl) rfl (by show c + 1 ≤ 601024; omega) (cc _ (fun w1 hc1 hf1 ho1 => mm_Kr (c + 1) rfl ?_)))
  have e244 := hf1 244 (by decide) (by decide) (by decide)
  have e245 := hf1 245 (by decide) (by decide) (by decide)
  have hm1 : RepM w1 s := hm.keep (fun i hi => hf1 i (by omega) (by omega) (by omega)) (fun j _ _ => by rw [hf1 81 (by decide) (by decide) (by decide)])
  refine e_ist (lwC_at ck_load (i := 3) rfl) rfl (e_al (lwC_at ck_load (i := 4) rfl) rfl ?_)
  refine e_rd (a := 1) (by decide +kernel) (by rw [e245]; exact h1) ?_
  have es : ∀ a, sc w1 iv a = sc w iv a := fun a => by show w1 244 _ = _; rw [e244]
  rw [es 1]
  refine e_call (j := kX6_load) (ar := [.ref 81, .int (sc w iv 1)]) (rest := []) (lwC_at ck_load (i := 5) rfl) rfl (by show c + 1 + 0 ≤ 601024; omega) (mm w1 hm1 _ (fun w2 y hm2 hf2 h26 hy => mm_Kr (c + 1) rfl (e_ist (lwC_at ck_load (i := 6) rfl) rfl (e_tail (by decide +kernel) ht h26 (fun z => ?_) (by omega) ?_))))
  · rw [hy z, hf2 242 (by decide), ho1 z]
  · exact g w2 s' _ _ _ hi (hc1.keep (fun i hi => hf2 i (by omega))) hm2 (by rw [hf2 244 (by decide), e244]) (by rw [hf2 245 (by decide), e245]) (by omega)
theorem ck_lots : lwC [(1900, .aload 1, 1901, 0), (1901, .invokevirtual 61, 1904, 232), (1904, .aload 2, 1905, 0), (1905, .invokevirtual 149, 1908, 235), (1908, .if_icmp .eq 0, 1911, 2520)] = true := by decide +kernel
theorem cs_lots (hI : Inv n s) (hC : RepC w s) (hm : RepM w s) (hc : c + 14 ≤ 601024) (g : ∀ w' s' c' y6 y7, Inv n s' → RepC w' s' → RepM w' s' → w' 244 = w 244 → w' 245 = w 245 → c' ≤ c + 7 → mm_E 198 2520 (LL iv y6 y7) [] w' c' K) : mm_E 198 1900 (LL iv l6 l7) [] w c K := by
  refine e_al (lwC_at ck_lots (i := 0) rfl) rfl (e_call (j := kX5_lots) (ar := [.ref 0]) (rest := []) (lwC_at ck_lots (i := 1) rfl) rfl (by show c + 0 ≤ 601024; omega) (k_lotsC hC (mm_Kr c rfl ?_)))
  refine e_al (lwC_at ck_lots (i := 2) rfl) rfl (e_call (j := kX6_lots) (ar := [.ref 81]) (rest := [.int (nI s.nl)]) (lwC_at ck_lots (i := 3) rfl) rfl (by show c + 0 ≤ 601024; omega) (k_lotsM hm (mm_Kr c rfl ?_)))
  refine e_icq (lwC_at ck_lots (i := 4) rfl) (fun _ => ?_) (fun z => absurd rfl z)
  exact g _ s _ _ _ hI (hC.keep (fun i hi => mm_up_row (by omega))) hm.th (mm_up_row (by decide)) (mm_up_row (by decide)) (by omega)
theorem ck_nextLot : lwC [(1913, .aload 1, 1914, 0), (1926, .aload 3, 1927, 0), (1927, .invokestatic 188, 1930, 236), (1930, .istore 6, 1932, 1), (1932, .aload 2, 1933, 0), (1945, .invokevirtual 150, 1948, 238), (1948, .istore 7, 1950, 1)] = true := by decide +kernel
theorem cs_nextLot (W : Wr kL_nextLot kX6_nextLot n [.ref 0, .int (sc w iv 1), .int (sc w iv 2), .ref 242] [.ref 81, .int (sc w iv 1), .int (sc w iv 2)] s w) (hm : RepM w s) (h1 : mm_in (iv + Int32.ofInt 1) (w 245 0).toNatClampNeg = true) (h2 : mm_in (iv + Int32.ofInt 2) (w 245 0).toNatClampNeg = true) (hc : c + 14 ≤ 601024) (g : ∀ w' s' c' y6 y7, Inv n s' → RepC w' s' → RepM w' s' → w' 244 = w 244 → w' 245 = w 245 → c' ≤ c + 7 → mm_E 198 2520 (LL iv y6 y7) [] w' c' K) : mm_E 198 1913 (LL iv l6 l7) [] w c K := by
  obtain ⟨s', t, r, hi, ht, cc, mm⟩ := W
  refine e_al (lwC_at ck_nextLot (i := 0) rfl) rfl ?_
  refine e_rd (a := 1) (by decide +kernel) h1 ?_
  refine e_rd (a := 2) (by decide +kernel) h2 ?_
  refine e_al (lwC_at ck_nextLot (i := 1) rfl) rfl (e_call (j := kL_nextLot) (ar := [.ref 0, .int (sc w iv 1), .int (sc w iv 2), .ref 242]) (rest := []) (lwC_at ck_nextLot (i := 2) rfl) rfl (by show c + 2 ≤ 601024; omega) (cc _ (fun w1 hc1 hf1 ho1 => mm_Kr (c + 2) rfl ?_)))
  have e244 := hf1 244 (by decide) (by decide) (by decide)
  have e245 := hf1 245 (by decide) (by decide) (by decide)
  have hm1 : RepM w1 s := hm.keep (fun i hi => hf1 i (by omega) (by omega) (by omega)) (fun j _ _ => by rw [hf1 81 (by decide) (by decide) (by decide)])
  refine e_ist (lwC_at ck_nextLot (i := 3) rfl) rfl (e_al (lwC_at ck_nextLot (i := 4) rfl) rfl ?_)
  refine e_rd (a := 1) (by decide +kernel) (by rw [e245]; exact h1) ?_
  refine e_rd (a := 2) (by decide +kernel) (by rw [e245]; exact h2) ?_
  have es : ∀ a, sc w1 iv a = sc w iv a := fun a => by show w1 244 _ = _; rw [e244]
  rw [es 1, es 2]
  refine e_call (j := kX6_nextLot) (ar := [.ref 81, .int (sc w iv 1), .int (sc w iv 2)]) (rest := []) (lwC_at ck_nextLot (i := 5) rfl) rfl (by show c + 2 + 0 ≤ 601024; omega) (mm w1 hm1 _ (fun w2 y hm2 hf2 h26 hy => mm_Kr (c + 2) rfl (e_ist (lwC_at ck_nextLot (i := 6) rfl) rfl (e_tail (by decide +kernel) ht h26 (fun z => ?_) (by omega) ?_))))
  · rw [hy z, hf2 242 (by decide), ho1 z]
  · exact g w2 s' _ _ _ hi (hc1.keep (fun i hi => hf2 i (by omega))) hm2 (by rw [hf2 244 (by decide), e244]) (by rw [hf2 245 (by decide), e245]) (by omega)
theorem ck_onHand : lwC [(1981, .aload 1, 1982, 0), (1988, .aload 3, 1989, 0), (1989, .invokestatic 189, 1992, 239), (1992, .istore 6, 1994, 1), (1994, .aload 2, 1995, 0), (2001, .invokevirtual 152, 2004, 241), (2004, .istore 7, 2006, 1)] = true := by decide +kernel
theorem cs_onHand (W : Wr kL_onHand kX6_onHand n [.ref 0, .int (sc w iv 1), .ref 242] [.ref 81, .int (sc w iv 1)] s w) (hm : RepM w s) (h1 : mm_in (iv + Int32.ofInt 1) (w 245 0).toNatClampNeg = true) (hc : c + 14 ≤ 601024) (g : ∀ w' s' c' y6 y7, Inv n s' → RepC w' s' → RepM w' s' → w' 244 = w 244 → w' 245 = w 245 → c' ≤ c + 7 → mm_E 198 2520 (LL iv y6 y7) [] w' c' K) : mm_E 198 1981 (LL iv l6 l7) [] w c K := by
  obtain ⟨s', t, r, hi, ht, cc, mm⟩ := W
  refine e_al (lwC_at ck_onHand (i := 0) rfl) rfl ?_
  refine e_rd (a := 1) (by decide +kernel) h1 ?_
  refine e_al (lwC_at ck_onHand (i := 1) rfl) rfl (e_call (j := kL_onHand) (ar := [.ref 0, .int (sc w iv 1), .ref 242]) (rest := []) (lwC_at ck_onHand (i := 2) rfl) rfl (by show c + 1 ≤ 601024; omega) (cc _ (fun w1 hc1 hf1 ho1 => mm_Kr (c + 1) rfl ?_)))
  have e244 := hf1 244 (by decide) (by decide) (by decide)
  have e245 := hf1 245 (by decide) (by decide) (by decide)
  have hm1 : RepM w1 s := hm.keep (fun i hi => hf1 i (by omega) (by omega) (by omega)) (fun j _ _ => by rw [hf1 81 (by decide) (by decide) (by decide)])
  refine e_ist (lwC_at ck_onHand (i := 3) rfl) rfl (e_al (lwC_at ck_onHand (i := 4) rfl) rfl ?_)
  refine e_rd (a := 1) (by decide +kernel) (by rw [e245]; exact h1) ?_
  have es : ∀ a, sc w1 iv a = sc w iv a := fun a => by show w1 244 _ = _; rw [e244]
  rw [es 1]
  refine e_call (j := kX6_onHand) (ar := [.ref 81, .int (sc w iv 1)]) (rest := []) (lwC_at ck_onHand (i := 5) rfl) rfl (by show c + 1 + 0 ≤ 601024; omega) (mm w1 hm1 _ (fun w2 y hm2 hf2 h26 hy => mm_Kr (c + 1) rfl (e_ist (lwC_at ck_onHand (i := 6) rfl) rfl (e_tail (by decide +kernel) ht h26 (fun z => ?_) (by omega) ?_))))
  · rw [hy z, hf2 242 (by decide), ho1 z]
  · exact g w2 s' _ _ _ hi (hc1.keep (fun i hi => hf2 i (by omega))) hm2 (by rw [hf2 244 (by decide), e244]) (by rw [hf2 245 (by decide), e245]) (by omega)
theorem ck_expired : lwC [(2037, .aload 1, 2038, 0), (2044, .aload 3, 2045, 0), (2045, .invokestatic 190, 2048, 242), (2048, .istore 6, 2050, 1), (2050, .aload 2, 2051, 0), (2057, .invokevirtual 153, 2060, 244), (2060, .istore 7, 2062, 1)] = true := by decide +kernel
theorem cs_expired (W : Wr kL_expired kX6_expired n [.ref 0, .int (sc w iv 1), .ref 242] [.ref 81, .int (sc w iv 1)] s w) (hm : RepM w s) (h1 : mm_in (iv + Int32.ofInt 1) (w 245 0).toNatClampNeg = true) (hc : c + 14 ≤ 601024) (g : ∀ w' s' c' y6 y7, Inv n s' → RepC w' s' → RepM w' s' → w' 244 = w 244 → w' 245 = w 245 → c' ≤ c + 7 → mm_E 198 2520 (LL iv y6 y7) [] w' c' K) : mm_E 198 2037 (LL iv l6 l7) [] w c K := by
  obtain ⟨s', t, r, hi, ht, cc, mm⟩ := W
  refine e_al (lwC_at ck_expired (i := 0) rfl) rfl ?_
  refine e_rd (a := 1) (by decide +kernel) h1 ?_
  refine e_al (lwC_at ck_expired (i := 1) rfl) rfl (e_call (j := kL_expired) (ar := [.ref 0, .int (sc w iv 1), .ref 242]) (rest := []) (lwC_at ck_expired (i := 2) rfl) rfl (by show c + 1 ≤ 601024; omega) (cc _ (fun w1 hc1 hf1 ho1 => mm_Kr (c + 1) rfl ?_)))
  have e244 := hf1 244 (by decide) (by decide) (by decide)
  have e245 := hf1 245 (by decide) (by decide) (by decide)
  have hm1 : RepM w1 s := hm.keep (fun i hi => hf1 i (by omega) (by omega) (by omega)) (fun j _ _ => by rw [hf1 81 (by decide) (by decide) (by decide)])
  refine e_ist (lwC_at ck_expired (i := 3) rfl) rfl (e_al (lwC_at ck_expired (i := 4) rfl) rfl ?_)
  refine e_rd (a := 1) (by decide +kernel) (by rw [e245]; exact h1) ?_
  have es : ∀ a, sc w1 iv a = sc w iv a := fun a => by show w1 244 _ = _; rw [e244]
  rw [es 1]
  refine e_call (j := kX6_expired) (ar := [.ref 81, .int (sc w iv 1)]) (rest := []) (lwC_at ck_expired (i := 5) rfl) rfl (by show c + 1 + 0 ≤ 601024; omega) (mm w1 hm1 _ (fun w2 y hm2 hf2 h26 hy => mm_Kr (c + 1) rfl (e_ist (lwC_at ck_expired (i := 6) rfl) rfl (e_tail (by decide +kernel) ht h26 (fun z => ?_) (by omega) ?_))))
  · rw [hy z, hf2 242 (by decide), ho1 z]
  · exact g w2 s' _ _ _ hi (hc1.keep (fun i hi => hf2 i (by omega))) hm2 (by rw [hf2 244 (by decide), e244]) (by rw [hf2 245 (by decide), e245]) (by omega)
theorem ck_entries : lwC [(2093, .aload 1, 2094, 0), (2094, .invokevirtual 65, 2097, 245), (2097, .aload 2, 2098, 0), (2098, .invokevirtual 154, 2101, 248), (2101, .if_icmp .eq 0, 2104, 2520)] = true := by decide +kernel
theorem cs_entries (hI : Inv n s) (hC : RepC w s) (hm : RepM w s) (hc : c + 14 ≤ 601024) (g : ∀ w' s' c' y6 y7, Inv n s' → RepC w' s' → RepM w' s' → w' 244 = w 244 → w' 245 = w 245 → c' ≤ c + 7 → mm_E 198 2520 (LL iv y6 y7) [] w' c' K) : mm_E 198 2093 (LL iv l6 l7) [] w c K := by
  refine e_al (lwC_at ck_entries (i := 0) rfl) rfl (e_call (j := kX5_entries) (ar := [.ref 0]) (rest := []) (lwC_at ck_entries (i := 1) rfl) rfl (by show c + 0 ≤ 601024; omega) (k_entriesC hC (mm_Kr c rfl ?_)))
  refine e_al (lwC_at ck_entries (i := 2) rfl) rfl (e_call (j := kX6_entries) (ar := [.ref 81]) (rest := [.int (nI s.ne)]) (lwC_at ck_entries (i := 3) rfl) rfl (by show c + 0 ≤ 601024; omega) (k_entriesM hm (mm_Kr c rfl ?_)))
  refine e_icq (lwC_at ck_entries (i := 4) rfl) (fun _ => ?_) (fun z => absurd rfl z)
  exact g _ s _ _ _ hI (hC.keep (fun i hi => mm_up_row (by omega))) hm.th (mm_up_row (by decide)) (mm_up_row (by decide)) (by omega)
theorem ck_entryKind : lwC [(2106, .aload 1, 2107, 0), (2113, .aload 3, 2114, 0), (2114, .invokestatic 191, 2117, 249), (2117, .istore 6, 2119, 1), (2119, .aload 2, 2120, 0), (2126, .invokevirtual 156, 2129, 251), (2129, .istore 7, 2131, 1)] = true := by decide +kernel
theorem cs_entryKind (W : Wr kL_entryKind kX6_entryKind n [.ref 0, .int (sc w iv 1), .ref 242] [.ref 81, .int (sc w iv 1)] s w) (hm : RepM w s) (h1 : mm_in (iv + Int32.ofInt 1) (w 245 0).toNatClampNeg = true) (hc : c + 14 ≤ 601024) (g : ∀ w' s' c' y6 y7, Inv n s' → RepC w' s' → RepM w' s' → w' 244 = w 244 → w' 245 = w 245 → c' ≤ c + 7 → mm_E 198 2520 (LL iv y6 y7) [] w' c' K) : mm_E 198 2106 (LL iv l6 l7) [] w c K := by
  obtain ⟨s', t, r, hi, ht, cc, mm⟩ := W
  refine e_al (lwC_at ck_entryKind (i := 0) rfl) rfl ?_
  refine e_rd (a := 1) (by decide +kernel) h1 ?_
  refine e_al (lwC_at ck_entryKind (i := 1) rfl) rfl (e_call (j := kL_entryKind) (ar := [.ref 0, .int (sc w iv 1), .ref 242]) (rest := []) (lwC_at ck_entryKind (i := 2) rfl) rfl (by show c + 1 ≤ 601024; omega) (cc _ (fun w1 hc1 hf1 ho1 => mm_Kr (c + 1) rfl ?_)))
  have e244 := hf1 244 (by decide) (by decide) (by decide)
  have e245 := hf1 245 (by decide) (by decide) (by decide)
  have hm1 : RepM w1 s := hm.keep (fun i hi => hf1 i (by omega) (by omega) (by omega)) (fun j _ _ => by rw [hf1 81 (by decide) (by decide) (by decide)])
  refine e_ist (lwC_at ck_entryKind (i := 3) rfl) rfl (e_al (lwC_at ck_entryKind (i := 4) rfl) rfl ?_)
  refine e_rd (a := 1) (by decide +kernel) (by rw [e245]; exact h1) ?_
  have es : ∀ a, sc w1 iv a = sc w iv a := fun a => by show w1 244 _ = _; rw [e244]
  rw [es 1]
  refine e_call (j := kX6_entryKind) (ar := [.ref 81, .int (sc w iv 1)]) (rest := []) (lwC_at ck_entryKind (i := 5) rfl) rfl (by show c + 1 + 0 ≤ 601024; omega) (mm w1 hm1 _ (fun w2 y hm2 hf2 h26 hy => mm_Kr (c + 1) rfl (e_ist (lwC_at ck_entryKind (i := 6) rfl) rfl (e_tail (by decide +kernel) ht h26 (fun z => ?_) (by omega) ?_))))
  · rw [hy z, hf2 242 (by decide), ho1 z]
  · exact g w2 s' _ _ _ hi (hc1.keep (fun i hi => hf2 i (by omega))) hm2 (by rw [hf2 244 (by decide), e244]) (by rw [hf2 245 (by decide), e245]) (by omega)
theorem ck_entryLot : lwC [(2162, .aload 1, 2163, 0), (2169, .aload 3, 2170, 0), (2170, .invokestatic 192, 2173, 252), (2173, .istore 6, 2175, 1), (2175, .aload 2, 2176, 0), (2182, .invokevirtual 157, 2185, 254), (2185, .istore 7, 2187, 1)] = true := by decide +kernel
theorem cs_entryLot (W : Wr kL_entryLot kX6_entryLot n [.ref 0, .int (sc w iv 1), .ref 242] [.ref 81, .int (sc w iv 1)] s w) (hm : RepM w s) (h1 : mm_in (iv + Int32.ofInt 1) (w 245 0).toNatClampNeg = true) (hc : c + 14 ≤ 601024) (g : ∀ w' s' c' y6 y7, Inv n s' → RepC w' s' → RepM w' s' → w' 244 = w 244 → w' 245 = w 245 → c' ≤ c + 7 → mm_E 198 2520 (LL iv y6 y7) [] w' c' K) : mm_E 198 2162 (LL iv l6 l7) [] w c K := by
  obtain ⟨s', t, r, hi, ht, cc, mm⟩ := W
  refine e_al (lwC_at ck_entryLot (i := 0) rfl) rfl ?_
  refine e_rd (a := 1) (by decide +kernel) h1 ?_
  refine e_al (lwC_at ck_entryLot (i := 1) rfl) rfl (e_call (j := kL_entryLot) (ar := [.ref 0, .int (sc w iv 1), .ref 242]) (rest := []) (lwC_at ck_entryLot (i := 2) rfl) rfl (by show c + 1 ≤ 601024; omega) (cc _ (fun w1 hc1 hf1 ho1 => mm_Kr (c + 1) rfl ?_)))
  have e244 := hf1 244 (by decide) (by decide) (by decide)
  have e245 := hf1 245 (by decide) (by decide) (by decide)
  have hm1 : RepM w1 s := hm.keep (fun i hi => hf1 i (by omega) (by omega) (by omega)) (fun j _ _ => by rw [hf1 81 (by decide) (by decide) (by decide)])
  refine e_ist (lwC_at ck_entryLot (i := 3) rfl) rfl (e_al (lwC_at ck_entryLot (i := 4) rfl) rfl ?_)
  refine e_rd (a := 1) (by decide +kernel) (by rw [e245]; exact h1) ?_
  have es : ∀ a, sc w1 iv a = sc w iv a := fun a => by show w1 244 _ = _; rw [e244]
  rw [es 1]
  refine e_call (j := kX6_entryLot) (ar := [.ref 81, .int (sc w iv 1)]) (rest := []) (lwC_at ck_entryLot (i := 5) rfl) rfl (by show c + 1 + 0 ≤ 601024; omega) (mm w1 hm1 _ (fun w2 y hm2 hf2 h26 hy => mm_Kr (c + 1) rfl (e_ist (lwC_at ck_entryLot (i := 6) rfl) rfl (e_tail (by decide +kernel) ht h26 (fun z => ?_) (by omega) ?_))))
  · rw [hy z, hf2 242 (by decide), ho1 z]
  · exact g w2 s' _ _ _ hi (hc1.keep (fun i hi => hf2 i (by omega))) hm2 (by rw [hf2 244 (by decide), e244]) (by rw [hf2 245 (by decide), e245]) (by omega)
theorem ck_entryFrom : lwC [(2218, .aload 1, 2219, 0), (2225, .aload 3, 2226, 0), (2226, .invokestatic 193, 2229, 255), (2229, .istore 6, 2231, 1), (2231, .aload 2, 2232, 0), (2238, .invokevirtual 158, 2241, 257), (2241, .istore 7, 2243, 1)] = true := by decide +kernel
theorem cs_entryFrom (W : Wr kL_entryFrom kX6_entryFrom n [.ref 0, .int (sc w iv 1), .ref 242] [.ref 81, .int (sc w iv 1)] s w) (hm : RepM w s) (h1 : mm_in (iv + Int32.ofInt 1) (w 245 0).toNatClampNeg = true) (hc : c + 14 ≤ 601024) (g : ∀ w' s' c' y6 y7, Inv n s' → RepC w' s' → RepM w' s' → w' 244 = w 244 → w' 245 = w 245 → c' ≤ c + 7 → mm_E 198 2520 (LL iv y6 y7) [] w' c' K) : mm_E 198 2218 (LL iv l6 l7) [] w c K := by
  obtain ⟨s', t, r, hi, ht, cc, mm⟩ := W
  refine e_al (lwC_at ck_entryFrom (i := 0) rfl) rfl ?_
  refine e_rd (a := 1) (by decide +kernel) h1 ?_
  refine e_al (lwC_at ck_entryFrom (i := 1) rfl) rfl (e_call (j := kL_entryFrom) (ar := [.ref 0, .int (sc w iv 1), .ref 242]) (rest := []) (lwC_at ck_entryFrom (i := 2) rfl) rfl (by show c + 1 ≤ 601024; omega) (cc _ (fun w1 hc1 hf1 ho1 => mm_Kr (c + 1) rfl ?_)))
  have e244 := hf1 244 (by decide) (by decide) (by decide)
  have e245 := hf1 245 (by decide) (by decide) (by decide)
  have hm1 : RepM w1 s := hm.keep (fun i hi => hf1 i (by omega) (by omega) (by omega)) (fun j _ _ => by rw [hf1 81 (by decide) (by decide) (by decide)])
  refine e_ist (lwC_at ck_entryFrom (i := 3) rfl) rfl (e_al (lwC_at ck_entryFrom (i := 4) rfl) rfl ?_)
  refine e_rd (a := 1) (by decide +kernel) (by rw [e245]; exact h1) ?_
  have es : ∀ a, sc w1 iv a = sc w iv a := fun a => by show w1 244 _ = _; rw [e244]
  rw [es 1]
  refine e_call (j := kX6_entryFrom) (ar := [.ref 81, .int (sc w iv 1)]) (rest := []) (lwC_at ck_entryFrom (i := 5) rfl) rfl (by show c + 1 + 0 ≤ 601024; omega) (mm w1 hm1 _ (fun w2 y hm2 hf2 h26 hy => mm_Kr (c + 1) rfl (e_ist (lwC_at ck_entryFrom (i := 6) rfl) rfl (e_tail (by decide +kernel) ht h26 (fun z => ?_) (by omega) ?_))))
  · rw [hy z, hf2 242 (by decide), ho1 z]
  · exact g w2 s' _ _ _ hi (hc1.keep (fun i hi => hf2 i (by omega))) hm2 (by rw [hf2 244 (by decide), e244]) (by rw [hf2 245 (by decide), e245]) (by omega)
theorem ck_entryTo : lwC [(2274, .aload 1, 2275, 0), (2281, .aload 3, 2282, 0), (2282, .invokestatic 194, 2285, 258), (2285, .istore 6, 2287, 1), (2287, .aload 2, 2288, 0), (2294, .invokevirtual 159, 2297, 260), (2297, .istore 7, 2299, 1)] = true := by decide +kernel
theorem cs_entryTo (W : Wr kL_entryTo kX6_entryTo n [.ref 0, .int (sc w iv 1), .ref 242] [.ref 81, .int (sc w iv 1)] s w) (hm : RepM w s) (h1 : mm_in (iv + Int32.ofInt 1) (w 245 0).toNatClampNeg = true) (hc : c + 14 ≤ 601024) (g : ∀ w' s' c' y6 y7, Inv n s' → RepC w' s' → RepM w' s' → w' 244 = w 244 → w' 245 = w 245 → c' ≤ c + 7 → mm_E 198 2520 (LL iv y6 y7) [] w' c' K) : mm_E 198 2274 (LL iv l6 l7) [] w c K := by
  obtain ⟨s', t, r, hi, ht, cc, mm⟩ := W
  refine e_al (lwC_at ck_entryTo (i := 0) rfl) rfl ?_
  refine e_rd (a := 1) (by decide +kernel) h1 ?_
  refine e_al (lwC_at ck_entryTo (i := 1) rfl) rfl (e_call (j := kL_entryTo) (ar := [.ref 0, .int (sc w iv 1), .ref 242]) (rest := []) (lwC_at ck_entryTo (i := 2) rfl) rfl (by show c + 1 ≤ 601024; omega) (cc _ (fun w1 hc1 hf1 ho1 => mm_Kr (c + 1) rfl ?_)))
  have e244 := hf1 244 (by decide) (by decide) (by decide)
  have e245 := hf1 245 (by decide) (by decide) (by decide)
  have hm1 : RepM w1 s := hm.keep (fun i hi => hf1 i (by omega) (by omega) (by omega)) (fun j _ _ => by rw [hf1 81 (by decide) (by decide) (by decide)])
  refine e_ist (lwC_at ck_entryTo (i := 3) rfl) rfl (e_al (lwC_at ck_entryTo (i := 4) rfl) rfl ?_)
  refine e_rd (a := 1) (by decide +kernel) (by rw [e245]; exact h1) ?_
  have es : ∀ a, sc w1 iv a = sc w iv a := fun a => by show w1 244 _ = _; rw [e244]
  rw [es 1]
  refine e_call (j := kX6_entryTo) (ar := [.ref 81, .int (sc w iv 1)]) (rest := []) (lwC_at ck_entryTo (i := 5) rfl) rfl (by show c + 1 + 0 ≤ 601024; omega) (mm w1 hm1 _ (fun w2 y hm2 hf2 h26 hy => mm_Kr (c + 1) rfl (e_ist (lwC_at ck_entryTo (i := 6) rfl) rfl (e_tail (by decide +kernel) ht h26 (fun z => ?_) (by omega) ?_))))
  · rw [hy z, hf2 242 (by decide), ho1 z]
  · exact g w2 s' _ _ _ hi (hc1.keep (fun i hi => hf2 i (by omega))) hm2 (by rw [hf2 244 (by decide), e244]) (by rw [hf2 245 (by decide), e245]) (by omega)
theorem ck_entryQuantity : lwC [(2330, .aload 1, 2331, 0), (2337, .aload 3, 2338, 0), (2338, .invokestatic 195, 2341, 261), (2341, .istore 6, 2343, 1), (2343, .aload 2, 2344, 0), (2350, .invokevirtual 160, 2353, 263), (2353, .istore 7, 2355, 1)] = true := by decide +kernel
theorem cs_entryQuantity (W : Wr kL_entryQuantity kX6_entryQuantity n [.ref 0, .int (sc w iv 1), .ref 242] [.ref 81, .int (sc w iv 1)] s w) (hm : RepM w s) (h1 : mm_in (iv + Int32.ofInt 1) (w 245 0).toNatClampNeg = true) (hc : c + 14 ≤ 601024) (g : ∀ w' s' c' y6 y7, Inv n s' → RepC w' s' → RepM w' s' → w' 244 = w 244 → w' 245 = w 245 → c' ≤ c + 7 → mm_E 198 2520 (LL iv y6 y7) [] w' c' K) : mm_E 198 2330 (LL iv l6 l7) [] w c K := by
  obtain ⟨s', t, r, hi, ht, cc, mm⟩ := W
  refine e_al (lwC_at ck_entryQuantity (i := 0) rfl) rfl ?_
  refine e_rd (a := 1) (by decide +kernel) h1 ?_
  refine e_al (lwC_at ck_entryQuantity (i := 1) rfl) rfl (e_call (j := kL_entryQuantity) (ar := [.ref 0, .int (sc w iv 1), .ref 242]) (rest := []) (lwC_at ck_entryQuantity (i := 2) rfl) rfl (by show c + 1 ≤ 601024; omega) (cc _ (fun w1 hc1 hf1 ho1 => mm_Kr (c + 1) rfl ?_)))
  have e244 := hf1 244 (by decide) (by decide) (by decide)
  have e245 := hf1 245 (by decide) (by decide) (by decide)
  have hm1 : RepM w1 s := hm.keep (fun i hi => hf1 i (by omega) (by omega) (by omega)) (fun j _ _ => by rw [hf1 81 (by decide) (by decide) (by decide)])
  refine e_ist (lwC_at ck_entryQuantity (i := 3) rfl) rfl (e_al (lwC_at ck_entryQuantity (i := 4) rfl) rfl ?_)
  refine e_rd (a := 1) (by decide +kernel) (by rw [e245]; exact h1) ?_
  have es : ∀ a, sc w1 iv a = sc w iv a := fun a => by show w1 244 _ = _; rw [e244]
  rw [es 1]
  refine e_call (j := kX6_entryQuantity) (ar := [.ref 81, .int (sc w iv 1)]) (rest := []) (lwC_at ck_entryQuantity (i := 5) rfl) rfl (by show c + 1 + 0 ≤ 601024; omega) (mm w1 hm1 _ (fun w2 y hm2 hf2 h26 hy => mm_Kr (c + 1) rfl (e_ist (lwC_at ck_entryQuantity (i := 6) rfl) rfl (e_tail (by decide +kernel) ht h26 (fun z => ?_) (by omega) ?_))))
  · rw [hy z, hf2 242 (by decide), ho1 z]
  · exact g w2 s' _ _ _ hi (hc1.keep (fun i hi => hf2 i (by omega))) hm2 (by rw [hf2 244 (by decide), e244]) (by rw [hf2 245 (by decide), e245]) (by omega)
theorem ck_onHandOn : lwC [(2386, .aload 1, 2387, 0), (2399, .aload 3, 2400, 0), (2400, .invokestatic 196, 2403, 264), (2403, .istore 6, 2405, 1), (2405, .aload 2, 2406, 0), (2418, .invokevirtual 161, 2421, 266), (2421, .istore 7, 2423, 1)] = true := by decide +kernel
theorem cs_onHandOn (W : Wr kL_onHandOn kX6_onHandOn n [.ref 0, .int (sc w iv 1), .int (sc w iv 2), .ref 242] [.ref 81, .int (sc w iv 1), .int (sc w iv 2)] s w) (hm : RepM w s) (h1 : mm_in (iv + Int32.ofInt 1) (w 245 0).toNatClampNeg = true) (h2 : mm_in (iv + Int32.ofInt 2) (w 245 0).toNatClampNeg = true) (hc : c + 14 ≤ 601024) (g : ∀ w' s' c' y6 y7, Inv n s' → RepC w' s' → RepM w' s' → w' 244 = w 244 → w' 245 = w 245 → c' ≤ c + 7 → mm_E 198 2520 (LL iv y6 y7) [] w' c' K) : mm_E 198 2386 (LL iv l6 l7) [] w c K := by
  obtain ⟨s', t, r, hi, ht, cc, mm⟩ := W
  refine e_al (lwC_at ck_onHandOn (i := 0) rfl) rfl ?_
  refine e_rd (a := 1) (by decide +kernel) h1 ?_
  refine e_rd (a := 2) (by decide +kernel) h2 ?_
  refine e_al (lwC_at ck_onHandOn (i := 1) rfl) rfl (e_call (j := kL_onHandOn) (ar := [.ref 0, .int (sc w iv 1), .int (sc w iv 2), .ref 242]) (rest := []) (lwC_at ck_onHandOn (i := 2) rfl) rfl (by show c + 2 ≤ 601024; omega) (cc _ (fun w1 hc1 hf1 ho1 => mm_Kr (c + 2) rfl ?_)))
  have e244 := hf1 244 (by decide) (by decide) (by decide)
  have e245 := hf1 245 (by decide) (by decide) (by decide)
  have hm1 : RepM w1 s := hm.keep (fun i hi => hf1 i (by omega) (by omega) (by omega)) (fun j _ _ => by rw [hf1 81 (by decide) (by decide) (by decide)])
  refine e_ist (lwC_at ck_onHandOn (i := 3) rfl) rfl (e_al (lwC_at ck_onHandOn (i := 4) rfl) rfl ?_)
  refine e_rd (a := 1) (by decide +kernel) (by rw [e245]; exact h1) ?_
  refine e_rd (a := 2) (by decide +kernel) (by rw [e245]; exact h2) ?_
  have es : ∀ a, sc w1 iv a = sc w iv a := fun a => by show w1 244 _ = _; rw [e244]
  rw [es 1, es 2]
  refine e_call (j := kX6_onHandOn) (ar := [.ref 81, .int (sc w iv 1), .int (sc w iv 2)]) (rest := []) (lwC_at ck_onHandOn (i := 5) rfl) rfl (by show c + 2 + 0 ≤ 601024; omega) (mm w1 hm1 _ (fun w2 y hm2 hf2 h26 hy => mm_Kr (c + 2) rfl (e_ist (lwC_at ck_onHandOn (i := 6) rfl) rfl (e_tail (by decide +kernel) ht h26 (fun z => ?_) (by omega) ?_))))
  · rw [hy z, hf2 242 (by decide), ho1 z]
  · exact g w2 s' _ _ _ hi (hc1.keep (fun i hi => hf2 i (by omega))) hm2 (by rw [hf2 244 (by decide), e244]) (by rw [hf2 245 (by decide), e245]) (by omega)
end CA
