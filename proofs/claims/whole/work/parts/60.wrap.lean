/-! the law's calls of the class, each from what the calls of both show (by wip/whole/genwrap.py) -/
def fL (w w' : mmM) : Prop := ∀ i, 81 ≤ i → i ≠ 242 → i ≠ 243 → w' i = w i
/-- what a wrapper shows -/
def Wr (jl jm n : Nat) (al am : List Value) (s : St) (w : mmM) : Prop := ∃ (s' : St) (t : Nat) (r : Int32), Inv n s' ∧ t ≤ 5 ∧ (∀ K : mmO → mmM → Prop, (∀ w', RepC w' s' → fL w w' → (t = 0 → w' 242 0 = r) → K (.inl (some (.int (nI t)))) w') → mm_M jl al w K) ∧ opM jm am s s' t r
theorem RepC.out {w : mmM} {s : St} {x : Int32} (h : RepC w s) : RepC (mm_up w 242 0 x) s := h.keep (fun i hi => mm_up_row (by omega))
theorem fC.out {w w' : mmM} {x : Int32} (h : fC w w') : fL w (mm_up w' 242 0 x) := fun i h1 h2 _ => by rw [mm_up_row h2]; exact h i h1
section WR
variable {n : Nat} {s : St} {w : mmM}
theorem wr_addItem {x1 : Int32} (hc : RepC w s) (o : Op kX5_addItem kX6_addItem kL_addItem n [.int x1] s) : Wr kL_addItem kX6_addItem n [.ref 0, .int x1, .ref 242] [.ref 81, .int x1] s w := by
  obtain ⟨s', t, r, e, hi, ht, c, hd, m⟩ := o
  refine ⟨s', t, r, hi, ht, fun K g => bL_addItem_0 (by decide) (c w hc _ (fun w' hw' hf => ?_)), m⟩
  by_cases h0 : t = 0
  · rw [if_pos h0]
    refine mm_Kr _ rfl (bL_addItem_7 (by decide) (bL_addItem_18 ?_))
    subst h0
    exact g _ hw'.out hf.out (fun _ => mm_up_same)
  · rw [if_neg h0]
    show if (mm_hh kL_addItem).isEmpty then K (.inr e) w' else match mm_hd kL_addItem e with
      | some x => K (.inl (some (.int x))) w'
      | none => False
    rw [if_neg (by decide), hd h0]
    exact g w' hw' (fun i h1 _ _ => hf i h1) (fun q => absurd q h0)
theorem wr_addSubstitute {x1 x2 x3 : Int32} (hc : RepC w s) (o : Op kX5_addSubstitute kX6_addSubstitute kL_addSubstitute n [.int x1, .int x2, .int x3] s) : Wr kL_addSubstitute kX6_addSubstitute n [.ref 0, .int x1, .int x2, .int x3, .ref 242] [.ref 81, .int x1, .int x2, .int x3] s w := by
  obtain ⟨s', t, r, e, hi, ht, c, hd, m⟩ := o
  refine ⟨s', t, r, hi, ht, fun K g => bL_addSubstitute_0 (by decide) (c w hc _ (fun w' hw' hf => ?_)), m⟩
  by_cases h0 : t = 0
  · rw [if_pos h0]
    refine mm_Kr _ rfl (bL_addSubstitute_10 (by decide) (bL_addSubstitute_31 ?_))
    subst h0
    exact g _ hw'.out hf.out (fun _ => mm_up_same)
  · rw [if_neg h0]
    show if (mm_hh kL_addSubstitute).isEmpty then K (.inr e) w' else match mm_hd kL_addSubstitute e with
      | some x => K (.inl (some (.int x))) w'
      | none => False
    rw [if_neg (by decide), hd h0]
    exact g w' hw' (fun i h1 _ _ => hf i h1) (fun q => absurd q h0)
theorem wr_receive {x1 x2 x3 x4 : Int32} (hc : RepC w s) (o : Op kX5_receive kX6_receive kL_receive n [.int x1, .int x2, .int x3, .int x4] s) : Wr kL_receive kX6_receive n [.ref 0, .int x1, .int x2, .int x3, .int x4, .ref 242] [.ref 81, .int x1, .int x2, .int x3, .int x4] s w := by
  obtain ⟨s', t, r, e, hi, ht, c, hd, m⟩ := o
  refine ⟨s', t, r, hi, ht, fun K g => bL_receive_0 (by decide) (c w hc _ (fun w' hw' hf => ?_)), m⟩
  by_cases h0 : t = 0
  · rw [if_pos h0]
    refine mm_Kr _ rfl (bL_receive_12 (by decide) (bL_receive_33 ?_))
    subst h0
    exact g _ hw'.out hf.out (fun _ => mm_up_same)
  · rw [if_neg h0]
    show if (mm_hh kL_receive).isEmpty then K (.inr e) w' else match mm_hd kL_receive e with
      | some x => K (.inl (some (.int x))) w'
      | none => False
    rw [if_neg (by decide), hd h0]
    exact g w' hw' (fun i h1 _ _ => hf i h1) (fun q => absurd q h0)
theorem wr_move {x1 x2 x3 x4 : Int32} (hc : RepC w s) (o : Op kX5_move kX6_move kL_move n [.int x1, .int x2, .int x3, .int x4] s) : Wr kL_move kX6_move n [.ref 0, .int x1, .int x2, .int x3, .int x4, .ref 242] [.ref 81, .int x1, .int x2, .int x3, .int x4] s w := by
  obtain ⟨s', t, r, e, hi, ht, c, hd, m⟩ := o
  refine ⟨s', t, r, hi, ht, fun K g => bL_move_0 (by decide) (c w hc _ (fun w' hw' hf => ?_)), m⟩
  by_cases h0 : t = 0
  · rw [if_pos h0]
    refine mm_Kr _ rfl (bL_move_12 (by decide) (bL_move_37 ?_))
    subst h0
    exact g _ hw'.out hf.out (fun _ => mm_up_same)
  · rw [if_neg h0]
    show if (mm_hh kL_move).isEmpty then K (.inr e) w' else match mm_hd kL_move e with
      | some x => K (.inl (some (.int x))) w'
      | none => False
    rw [if_neg (by decide), hd h0]
    exact g w' hw' (fun i h1 _ _ => hf i h1) (fun q => absurd q h0)
theorem wr_dispose {x1 : Int32} (hc : RepC w s) (o : Op kX5_dispose kX6_dispose kL_dispose n [.int x1] s) : Wr kL_dispose kX6_dispose n [.ref 0, .int x1, .ref 242] [.ref 81, .int x1] s w := by
  obtain ⟨s', t, r, e, hi, ht, c, hd, m⟩ := o
  refine ⟨s', t, r, hi, ht, fun K g => bL_dispose_0 (by decide) (c w hc _ (fun w' hw' hf => ?_)), m⟩
  by_cases h0 : t = 0
  · rw [if_pos h0]
    refine mm_Kr _ rfl (bL_dispose_7 (by decide) (bL_dispose_24 ?_))
    subst h0
    exact g _ hw'.out hf.out (fun _ => mm_up_same)
  · rw [if_neg h0]
    show if (mm_hh kL_dispose).isEmpty then K (.inr e) w' else match mm_hd kL_dispose e with
      | some x => K (.inl (some (.int x))) w'
      | none => False
    rw [if_neg (by decide), hd h0]
    exact g w' hw' (fun i h1 _ _ => hf i h1) (fun q => absurd q h0)
theorem wr_count {x1 x2 x3 : Int32} (hc : RepC w s) (o : Op kX5_count kX6_count kL_count n [.int x1, .int x2, .int x3] s) : Wr kL_count kX6_count n [.ref 0, .int x1, .int x2, .int x3, .ref 242] [.ref 81, .int x1, .int x2, .int x3] s w := by
  obtain ⟨s', t, r, e, hi, ht, c, hd, m⟩ := o
  refine ⟨s', t, r, hi, ht, fun K g => bL_count_0 (by decide) (c w hc _ (fun w' hw' hf => ?_)), m⟩
  by_cases h0 : t = 0
  · rw [if_pos h0]
    refine mm_Kr _ rfl (bL_count_10 (by decide) (bL_count_31 ?_))
    subst h0
    exact g _ hw'.out hf.out (fun _ => mm_up_same)
  · rw [if_neg h0]
    show if (mm_hh kL_count).isEmpty then K (.inr e) w' else match mm_hd kL_count e with
      | some x => K (.inl (some (.int x))) w'
      | none => False
    rw [if_neg (by decide), hd h0]
    exact g w' hw' (fun i h1 _ _ => hf i h1) (fun q => absurd q h0)
theorem wr_promise {x1 x2 x3 x4 : Int32} (hc : RepC w s) (o : Op kX5_promise kX6_promise kL_promise n [.int x1, .int x2, .int x3, .int x4] s) : Wr kL_promise kX6_promise n [.ref 0, .int x1, .int x2, .int x3, .int x4, .ref 242] [.ref 81, .int x1, .int x2, .int x3, .int x4] s w := by
  obtain ⟨s', t, r, e, hi, ht, c, hd, m⟩ := o
  refine ⟨s', t, r, hi, ht, fun K g => bL_promise_0 (by decide) (c w hc _ (fun w' hw' hf => ?_)), m⟩
  by_cases h0 : t = 0
  · rw [if_pos h0]
    refine mm_Kr _ rfl (bL_promise_12 (by decide) (bL_promise_33 ?_))
    subst h0
    exact g _ hw'.out hf.out (fun _ => mm_up_same)
  · rw [if_neg h0]
    show if (mm_hh kL_promise).isEmpty then K (.inr e) w' else match mm_hd kL_promise e with
      | some x => K (.inl (some (.int x))) w'
      | none => False
    rw [if_neg (by decide), hd h0]
    exact g w' hw' (fun i h1 _ _ => hf i h1) (fun q => absurd q h0)
theorem wr_cancel {x1 : Int32} (hc : RepC w s) (o : Op kX5_cancel kX6_cancel kL_cancel n [.int x1] s) : Wr kL_cancel kX6_cancel n [.ref 0, .int x1, .ref 242] [.ref 81, .int x1] s w := by
  obtain ⟨s', t, r, e, hi, ht, c, hd, m⟩ := o
  refine ⟨s', t, r, hi, ht, fun K g => bL_cancel_0 (by decide) (c w hc _ (fun w' hw' hf => ?_)), m⟩
  by_cases h0 : t = 0
  · rw [if_pos h0]
    refine mm_Kr _ rfl (bL_cancel_7 (by decide) (bL_cancel_18 ?_))
    subst h0
    exact g _ hw'.out hf.out (fun _ => mm_up_same)
  · rw [if_neg h0]
    show if (mm_hh kL_cancel).isEmpty then K (.inr e) w' else match mm_hd kL_cancel e with
      | some x => K (.inl (some (.int x))) w'
      | none => False
    rw [if_neg (by decide), hd h0]
    exact g w' hw' (fun i h1 _ _ => hf i h1) (fun q => absurd q h0)
theorem wr_pick {x1 : Int32} (hc : RepC w s) (o : Op kX5_pick kX6_pick kL_pick n [.int x1] s) : Wr kL_pick kX6_pick n [.ref 0, .int x1, .ref 242] [.ref 81, .int x1] s w := by
  obtain ⟨s', t, r, e, hi, ht, c, hd, m⟩ := o
  refine ⟨s', t, r, hi, ht, fun K g => bL_pick_0 (by decide) (c w hc _ (fun w' hw' hf => ?_)), m⟩
  by_cases h0 : t = 0
  · rw [if_pos h0]
    refine mm_Kr _ rfl (bL_pick_7 (by decide) (bL_pick_18 ?_))
    subst h0
    exact g _ hw'.out hf.out (fun _ => mm_up_same)
  · rw [if_neg h0]
    show if (mm_hh kL_pick).isEmpty then K (.inr e) w' else match mm_hd kL_pick e with
      | some x => K (.inl (some (.int x))) w'
      | none => False
    rw [if_neg (by decide), hd h0]
    exact g w' hw' (fun i h1 _ _ => hf i h1) (fun q => absurd q h0)
theorem wr_status {x1 : Int32} (hc : RepC w s) (o : Op kX5_status kX6_status kL_status n [.int x1] s) : Wr kL_status kX6_status n [.ref 0, .int x1, .ref 242] [.ref 81, .int x1] s w := by
  obtain ⟨s', t, r, e, hi, ht, c, hd, m⟩ := o
  refine ⟨s', t, r, hi, ht, fun K g => bL_status_0 (by decide) (c w hc _ (fun w' hw' hf => ?_)), m⟩
  by_cases h0 : t = 0
  · rw [if_pos h0]
    refine mm_Kr _ rfl (bL_status_7 (by decide) (bL_status_15 ?_))
    subst h0
    exact g _ hw'.out hf.out (fun _ => mm_up_same)
  · rw [if_neg h0]
    show if (mm_hh kL_status).isEmpty then K (.inr e) w' else match mm_hd kL_status e with
      | some x => K (.inl (some (.int x))) w'
      | none => False
    rw [if_neg (by decide), hd h0]
    exact g w' hw' (fun i h1 _ _ => hf i h1) (fun q => absurd q h0)
theorem wr_quantity {x1 x2 : Int32} (hc : RepC w s) (o : Op kX5_quantity kX6_quantity kL_quantity n [.int x1, .int x2] s) : Wr kL_quantity kX6_quantity n [.ref 0, .int x1, .int x2, .ref 242] [.ref 81, .int x1, .int x2] s w := by
  obtain ⟨s', t, r, e, hi, ht, c, hd, m⟩ := o
  refine ⟨s', t, r, hi, ht, fun K g => bL_quantity_0 (by decide) (c w hc _ (fun w' hw' hf => ?_)), m⟩
  by_cases h0 : t = 0
  · rw [if_pos h0]
    refine mm_Kr _ rfl (bL_quantity_8 (by decide) (bL_quantity_17 ?_))
    subst h0
    exact g _ hw'.out hf.out (fun _ => mm_up_same)
  · rw [if_neg h0]
    show if (mm_hh kL_quantity).isEmpty then K (.inr e) w' else match mm_hd kL_quantity e with
      | some x => K (.inl (some (.int x))) w'
      | none => False
    rw [if_neg (by decide), hd h0]
    exact g w' hw' (fun i h1 _ _ => hf i h1) (fun q => absurd q h0)
theorem wr_available {x1 x2 : Int32} (hc : RepC w s) (o : Op kX5_available kX6_available kL_available n [.int x1, .int x2] s) : Wr kL_available kX6_available n [.ref 0, .int x1, .int x2, .ref 242] [.ref 81, .int x1, .int x2] s w := by
  obtain ⟨s', t, r, e, hi, ht, c, hd, m⟩ := o
  refine ⟨s', t, r, hi, ht, fun K g => bL_available_0 (by decide) (c w hc _ (fun w' hw' hf => ?_)), m⟩
  by_cases h0 : t = 0
  · rw [if_pos h0]
    refine mm_Kr _ rfl (bL_available_8 (by decide) (bL_available_21 ?_))
    subst h0
    exact g _ hw'.out hf.out (fun _ => mm_up_same)
  · rw [if_neg h0]
    show if (mm_hh kL_available).isEmpty then K (.inr e) w' else match mm_hd kL_available e with
      | some x => K (.inl (some (.int x))) w'
      | none => False
    rw [if_neg (by decide), hd h0]
    exact g w' hw' (fun i h1 _ _ => hf i h1) (fun q => absurd q h0)
theorem wr_availableByTrying {x1 x2 : Int32} (hc : RepC w s) (o : Op kX5_availableByTrying kX6_availableByTrying kL_availableByTrying n [.int x1, .int x2] s) : Wr kL_availableByTrying kX6_availableByTrying n [.ref 0, .int x1, .int x2, .ref 242] [.ref 81, .int x1, .int x2] s w := by
  obtain ⟨s', t, r, e, hi, ht, c, hd, m⟩ := o
  refine ⟨s', t, r, hi, ht, fun K g => bL_availableByTrying_0 (by decide) (c w hc _ (fun w' hw' hf => ?_)), m⟩
  by_cases h0 : t = 0
  · rw [if_pos h0]
    refine mm_Kr _ rfl (bL_availableByTrying_8 (by decide) (bL_availableByTrying_21 ?_))
    subst h0
    exact g _ hw'.out hf.out (fun _ => mm_up_same)
  · rw [if_neg h0]
    show if (mm_hh kL_availableByTrying).isEmpty then K (.inr e) w' else match mm_hd kL_availableByTrying e with
      | some x => K (.inl (some (.int x))) w'
      | none => False
    rw [if_neg (by decide), hd h0]
    exact g w' hw' (fun i h1 _ _ => hf i h1) (fun q => absurd q h0)
theorem wr_pickLines {x1 : Int32} (hc : RepC w s) (o : Op kX5_pickLines kX6_pickLines kL_pickLines n [.int x1] s) : Wr kL_pickLines kX6_pickLines n [.ref 0, .int x1, .ref 242] [.ref 81, .int x1] s w := by
  obtain ⟨s', t, r, e, hi, ht, c, hd, m⟩ := o
  refine ⟨s', t, r, hi, ht, fun K g => bL_pickLines_0 (by decide) (c w hc _ (fun w' hw' hf => ?_)), m⟩
  by_cases h0 : t = 0
  · rw [if_pos h0]
    refine mm_Kr _ rfl (bL_pickLines_7 (by decide) (bL_pickLines_18 ?_))
    subst h0
    exact g _ hw'.out hf.out (fun _ => mm_up_same)
  · rw [if_neg h0]
    show if (mm_hh kL_pickLines).isEmpty then K (.inr e) w' else match mm_hd kL_pickLines e with
      | some x => K (.inl (some (.int x))) w'
      | none => False
    rw [if_neg (by decide), hd h0]
    exact g w' hw' (fun i h1 _ _ => hf i h1) (fun q => absurd q h0)
theorem wr_pickBin {x1 x2 : Int32} (hc : RepC w s) (o : Op kX5_pickBin kX6_pickBin kL_pickBin n [.int x1, .int x2] s) : Wr kL_pickBin kX6_pickBin n [.ref 0, .int x1, .int x2, .ref 242] [.ref 81, .int x1, .int x2] s w := by
  obtain ⟨s', t, r, e, hi, ht, c, hd, m⟩ := o
  refine ⟨s', t, r, hi, ht, fun K g => bL_pickBin_0 (by decide) (c w hc _ (fun w' hw' hf => ?_)), m⟩
  by_cases h0 : t = 0
  · rw [if_pos h0]
    refine mm_Kr _ rfl (bL_pickBin_8 (by decide) (bL_pickBin_25 ?_))
    subst h0
    exact g _ hw'.out hf.out (fun _ => mm_up_same)
  · rw [if_neg h0]
    show if (mm_hh kL_pickBin).isEmpty then K (.inr e) w' else match mm_hd kL_pickBin e with
      | some x => K (.inl (some (.int x))) w'
      | none => False
    rw [if_neg (by decide), hd h0]
    exact g w' hw' (fun i h1 _ _ => hf i h1) (fun q => absurd q h0)
theorem wr_pickLot {x1 x2 : Int32} (hc : RepC w s) (o : Op kX5_pickLot kX6_pickLot kL_pickLot n [.int x1, .int x2] s) : Wr kL_pickLot kX6_pickLot n [.ref 0, .int x1, .int x2, .ref 242] [.ref 81, .int x1, .int x2] s w := by
  obtain ⟨s', t, r, e, hi, ht, c, hd, m⟩ := o
  refine ⟨s', t, r, hi, ht, fun K g => bL_pickLot_0 (by decide) (c w hc _ (fun w' hw' hf => ?_)), m⟩
  by_cases h0 : t = 0
  · rw [if_pos h0]
    refine mm_Kr _ rfl (bL_pickLot_8 (by decide) (bL_pickLot_25 ?_))
    subst h0
    exact g _ hw'.out hf.out (fun _ => mm_up_same)
  · rw [if_neg h0]
    show if (mm_hh kL_pickLot).isEmpty then K (.inr e) w' else match mm_hd kL_pickLot e with
      | some x => K (.inl (some (.int x))) w'
      | none => False
    rw [if_neg (by decide), hd h0]
    exact g w' hw' (fun i h1 _ _ => hf i h1) (fun q => absurd q h0)
theorem wr_pickQuantity {x1 x2 : Int32} (hc : RepC w s) (o : Op kX5_pickQuantity kX6_pickQuantity kL_pickQuantity n [.int x1, .int x2] s) : Wr kL_pickQuantity kX6_pickQuantity n [.ref 0, .int x1, .int x2, .ref 242] [.ref 81, .int x1, .int x2] s w := by
  obtain ⟨s', t, r, e, hi, ht, c, hd, m⟩ := o
  refine ⟨s', t, r, hi, ht, fun K g => bL_pickQuantity_0 (by decide) (c w hc _ (fun w' hw' hf => ?_)), m⟩
  by_cases h0 : t = 0
  · rw [if_pos h0]
    refine mm_Kr _ rfl (bL_pickQuantity_8 (by decide) (bL_pickQuantity_25 ?_))
    subst h0
    exact g _ hw'.out hf.out (fun _ => mm_up_same)
  · rw [if_neg h0]
    show if (mm_hh kL_pickQuantity).isEmpty then K (.inr e) w' else match mm_hd kL_pickQuantity e with
      | some x => K (.inl (some (.int x))) w'
      | none => False
    rw [if_neg (by decide), hd h0]
    exact g w' hw' (fun i h1 _ _ => hf i h1) (fun q => absurd q h0)
theorem wr_walk {x1 : Int32} (hc : RepC w s) (o : Op kX5_walk kX6_walk kL_walk n [.int x1] s) : Wr kL_walk kX6_walk n [.ref 0, .int x1, .ref 242] [.ref 81, .int x1] s w := by
  obtain ⟨s', t, r, e, hi, ht, c, hd, m⟩ := o
  refine ⟨s', t, r, hi, ht, fun K g => bL_walk_0 (by decide) (c w hc _ (fun w' hw' hf => ?_)), m⟩
  by_cases h0 : t = 0
  · rw [if_pos h0]
    refine mm_Kr _ rfl (bL_walk_7 (by decide) (bL_walk_18 ?_))
    subst h0
    exact g _ hw'.out hf.out (fun _ => mm_up_same)
  · rw [if_neg h0]
    show if (mm_hh kL_walk).isEmpty then K (.inr e) w' else match mm_hd kL_walk e with
      | some x => K (.inl (some (.int x))) w'
      | none => False
    rw [if_neg (by decide), hd h0]
    exact g w' hw' (fun i h1 _ _ => hf i h1) (fun q => absurd q h0)
theorem wr_walkByTrying {x1 : Int32} (hc : RepC w s) (o : Op kX5_walkByTrying kX6_walkByTrying kL_walkByTrying n [.int x1] s) : Wr kL_walkByTrying kX6_walkByTrying n [.ref 0, .int x1, .ref 242] [.ref 81, .int x1] s w := by
  obtain ⟨s', t, r, e, hi, ht, c, hd, m⟩ := o
  refine ⟨s', t, r, hi, ht, fun K g => bL_walkByTrying_0 (by decide) (c w hc _ (fun w' hw' hf => ?_)), m⟩
  by_cases h0 : t = 0
  · rw [if_pos h0]
    refine mm_Kr _ rfl (bL_walkByTrying_7 (by decide) (bL_walkByTrying_18 ?_))
    subst h0
    exact g _ hw'.out hf.out (fun _ => mm_up_same)
  · rw [if_neg h0]
    show if (mm_hh kL_walkByTrying).isEmpty then K (.inr e) w' else match mm_hd kL_walkByTrying e with
      | some x => K (.inl (some (.int x))) w'
      | none => False
    rw [if_neg (by decide), hd h0]
    exact g w' hw' (fun i h1 _ _ => hf i h1) (fun q => absurd q h0)
theorem wr_pass {x1 : Int32} (hc : RepC w s) (o : Op kX5_pass kX6_pass kL_pass n [.int x1] s) : Wr kL_pass kX6_pass n [.ref 0, .int x1, .ref 242] [.ref 81, .int x1] s w := by
  obtain ⟨s', t, r, e, hi, ht, c, hd, m⟩ := o
  refine ⟨s', t, r, hi, ht, fun K g => bL_pass_0 (by decide) (c w hc _ (fun w' hw' hf => ?_)), m⟩
  by_cases h0 : t = 0
  · rw [if_pos h0]
    refine mm_Kr _ rfl (bL_pass_7 (by decide) (bL_pass_15 ?_))
    subst h0
    exact g _ hw'.out hf.out (fun _ => mm_up_same)
  · rw [if_neg h0]
    show if (mm_hh kL_pass).isEmpty then K (.inr e) w' else match mm_hd kL_pass e with
      | some x => K (.inl (some (.int x))) w'
      | none => False
    rw [if_neg (by decide), hd h0]
    exact g w' hw' (fun i h1 _ _ => hf i h1) (fun q => absurd q h0)
theorem wr_nextCount (hc : RepC w s) (o : Op kX5_nextCount kX6_nextCount kL_nextCount n [] s) : Wr kL_nextCount kX6_nextCount n [.ref 0, .ref 242] [.ref 81] s w := by
  obtain ⟨s', t, r, e, hi, ht, c, hd, m⟩ := o
  refine ⟨s', t, r, hi, ht, fun K g => bL_nextCount_0 (by decide) (c w hc _ (fun w' hw' hf => ?_)), m⟩
  by_cases h0 : t = 0
  · rw [if_pos h0]
    refine mm_Kr _ rfl (bL_nextCount_6 (by decide) (bL_nextCount_14 ?_))
    subst h0
    exact g _ hw'.out hf.out (fun _ => mm_up_same)
  · rw [if_neg h0]
    show if (mm_hh kL_nextCount).isEmpty then K (.inr e) w' else match mm_hd kL_nextCount e with
      | some x => K (.inl (some (.int x))) w'
      | none => False
    rw [if_neg (by decide), hd h0]
    exact g w' hw' (fun i h1 _ _ => hf i h1) (fun q => absurd q h0)
theorem wr_countDay {x1 : Int32} (hc : RepC w s) (o : Op kX5_countDay kX6_countDay kL_countDay n [.int x1] s) : Wr kL_countDay kX6_countDay n [.ref 0, .int x1, .ref 242] [.ref 81, .int x1] s w := by
  obtain ⟨s', t, r, e, hi, ht, c, hd, m⟩ := o
  refine ⟨s', t, r, hi, ht, fun K g => bL_countDay_0 (by decide) (c w hc _ (fun w' hw' hf => ?_)), m⟩
  by_cases h0 : t = 0
  · rw [if_pos h0]
    refine mm_Kr _ rfl (bL_countDay_7 (by decide) (bL_countDay_18 ?_))
    subst h0
    exact g _ hw'.out hf.out (fun _ => mm_up_same)
  · rw [if_neg h0]
    show if (mm_hh kL_countDay).isEmpty then K (.inr e) w' else match mm_hd kL_countDay e with
      | some x => K (.inl (some (.int x))) w'
      | none => False
    rw [if_neg (by decide), hd h0]
    exact g w' hw' (fun i h1 _ _ => hf i h1) (fun q => absurd q h0)
theorem wr_stock {x1 x2 : Int32} (hc : RepC w s) (o : Op kX5_stock kX6_stock kL_stock n [.int x1, .int x2] s) : Wr kL_stock kX6_stock n [.ref 0, .int x1, .int x2, .ref 242] [.ref 81, .int x1, .int x2] s w := by
  obtain ⟨s', t, r, e, hi, ht, c, hd, m⟩ := o
  refine ⟨s', t, r, hi, ht, fun K g => bL_stock_0 (by decide) (c w hc _ (fun w' hw' hf => ?_)), m⟩
  by_cases h0 : t = 0
  · rw [if_pos h0]
    refine mm_Kr _ rfl (bL_stock_8 (by decide) (bL_stock_17 ?_))
    subst h0
    exact g _ hw'.out hf.out (fun _ => mm_up_same)
  · rw [if_neg h0]
    show if (mm_hh kL_stock).isEmpty then K (.inr e) w' else match mm_hd kL_stock e with
      | some x => K (.inl (some (.int x))) w'
      | none => False
    rw [if_neg (by decide), hd h0]
    exact g w' hw' (fun i h1 _ _ => hf i h1) (fun q => absurd q h0)
theorem wr_stockByJournal {x1 x2 : Int32} (hc : RepC w s) (o : Op kX5_stockByJournal kX6_stockByJournal kL_stockByJournal n [.int x1, .int x2] s) : Wr kL_stockByJournal kX6_stockByJournal n [.ref 0, .int x1, .int x2, .ref 242] [.ref 81, .int x1, .int x2] s w := by
  obtain ⟨s', t, r, e, hi, ht, c, hd, m⟩ := o
  refine ⟨s', t, r, hi, ht, fun K g => bL_stockByJournal_0 (by decide) (c w hc _ (fun w' hw' hf => ?_)), m⟩
  by_cases h0 : t = 0
  · rw [if_pos h0]
    refine mm_Kr _ rfl (bL_stockByJournal_8 (by decide) (bL_stockByJournal_17 ?_))
    subst h0
    exact g _ hw'.out hf.out (fun _ => mm_up_same)
  · rw [if_neg h0]
    show if (mm_hh kL_stockByJournal).isEmpty then K (.inr e) w' else match mm_hd kL_stockByJournal e with
      | some x => K (.inl (some (.int x))) w'
      | none => False
    rw [if_neg (by decide), hd h0]
    exact g w' hw' (fun i h1 _ _ => hf i h1) (fun q => absurd q h0)
theorem wr_load {x1 : Int32} (hc : RepC w s) (o : Op kX5_load kX6_load kL_load n [.int x1] s) : Wr kL_load kX6_load n [.ref 0, .int x1, .ref 242] [.ref 81, .int x1] s w := by
  obtain ⟨s', t, r, e, hi, ht, c, hd, m⟩ := o
  refine ⟨s', t, r, hi, ht, fun K g => bL_load_0 (by decide) (c w hc _ (fun w' hw' hf => ?_)), m⟩
  by_cases h0 : t = 0
  · rw [if_pos h0]
    refine mm_Kr _ rfl (bL_load_7 (by decide) (bL_load_15 ?_))
    subst h0
    exact g _ hw'.out hf.out (fun _ => mm_up_same)
  · rw [if_neg h0]
    show if (mm_hh kL_load).isEmpty then K (.inr e) w' else match mm_hd kL_load e with
      | some x => K (.inl (some (.int x))) w'
      | none => False
    rw [if_neg (by decide), hd h0]
    exact g w' hw' (fun i h1 _ _ => hf i h1) (fun q => absurd q h0)
theorem wr_nextLot {x1 x2 : Int32} (hc : RepC w s) (o : Op kX5_nextLot kX6_nextLot kL_nextLot n [.int x1, .int x2] s) : Wr kL_nextLot kX6_nextLot n [.ref 0, .int x1, .int x2, .ref 242] [.ref 81, .int x1, .int x2] s w := by
  obtain ⟨s', t, r, e, hi, ht, c, hd, m⟩ := o
  refine ⟨s', t, r, hi, ht, fun K g => bL_nextLot_0 (by decide) (c w hc _ (fun w' hw' hf => ?_)), m⟩
  by_cases h0 : t = 0
  · rw [if_pos h0]
    refine mm_Kr _ rfl (bL_nextLot_8 (by decide) (bL_nextLot_21 ?_))
    subst h0
    exact g _ hw'.out hf.out (fun _ => mm_up_same)
  · rw [if_neg h0]
    show if (mm_hh kL_nextLot).isEmpty then K (.inr e) w' else match mm_hd kL_nextLot e with
      | some x => K (.inl (some (.int x))) w'
      | none => False
    rw [if_neg (by decide), hd h0]
    exact g w' hw' (fun i h1 _ _ => hf i h1) (fun q => absurd q h0)
theorem wr_onHand {x1 : Int32} (hc : RepC w s) (o : Op kX5_onHand kX6_onHand kL_onHand n [.int x1] s) : Wr kL_onHand kX6_onHand n [.ref 0, .int x1, .ref 242] [.ref 81, .int x1] s w := by
  obtain ⟨s', t, r, e, hi, ht, c, hd, m⟩ := o
  refine ⟨s', t, r, hi, ht, fun K g => bL_onHand_0 (by decide) (c w hc _ (fun w' hw' hf => ?_)), m⟩
  by_cases h0 : t = 0
  · rw [if_pos h0]
    refine mm_Kr _ rfl (bL_onHand_7 (by decide) (bL_onHand_15 ?_))
    subst h0
    exact g _ hw'.out hf.out (fun _ => mm_up_same)
  · rw [if_neg h0]
    show if (mm_hh kL_onHand).isEmpty then K (.inr e) w' else match mm_hd kL_onHand e with
      | some x => K (.inl (some (.int x))) w'
      | none => False
    rw [if_neg (by decide), hd h0]
    exact g w' hw' (fun i h1 _ _ => hf i h1) (fun q => absurd q h0)
theorem wr_expired {x1 : Int32} (hc : RepC w s) (o : Op kX5_expired kX6_expired kL_expired n [.int x1] s) : Wr kL_expired kX6_expired n [.ref 0, .int x1, .ref 242] [.ref 81, .int x1] s w := by
  obtain ⟨s', t, r, e, hi, ht, c, hd, m⟩ := o
  refine ⟨s', t, r, hi, ht, fun K g => bL_expired_0 (by decide) (c w hc _ (fun w' hw' hf => ?_)), m⟩
  by_cases h0 : t = 0
  · rw [if_pos h0]
    refine mm_Kr _ rfl (bL_expired_7 (by decide) (bL_expired_15 ?_))
    subst h0
    exact g _ hw'.out hf.out (fun _ => mm_up_same)
  · rw [if_neg h0]
    show if (mm_hh kL_expired).isEmpty then K (.inr e) w' else match mm_hd kL_expired e with
      | some x => K (.inl (some (.int x))) w'
      | none => False
    rw [if_neg (by decide), hd h0]
    exact g w' hw' (fun i h1 _ _ => hf i h1) (fun q => absurd q h0)
theorem wr_entryKind {x1 : Int32} (hc : RepC w s) (o : Op kX5_entryKind kX6_entryKind kL_entryKind n [.int x1] s) : Wr kL_entryKind kX6_entryKind n [.ref 0, .int x1, .ref 242] [.ref 81, .int x1] s w := by
  obtain ⟨s', t, r, e, hi, ht, c, hd, m⟩ := o
  refine ⟨s', t, r, hi, ht, fun K g => bL_entryKind_0 (by decide) (c w hc _ (fun w' hw' hf => ?_)), m⟩
  by_cases h0 : t = 0
  · rw [if_pos h0]
    refine mm_Kr _ rfl (bL_entryKind_7 (by decide) (bL_entryKind_15 ?_))
    subst h0
    exact g _ hw'.out hf.out (fun _ => mm_up_same)
  · rw [if_neg h0]
    show if (mm_hh kL_entryKind).isEmpty then K (.inr e) w' else match mm_hd kL_entryKind e with
      | some x => K (.inl (some (.int x))) w'
      | none => False
    rw [if_neg (by decide), hd h0]
    exact g w' hw' (fun i h1 _ _ => hf i h1) (fun q => absurd q h0)
theorem wr_entryLot {x1 : Int32} (hc : RepC w s) (o : Op kX5_entryLot kX6_entryLot kL_entryLot n [.int x1] s) : Wr kL_entryLot kX6_entryLot n [.ref 0, .int x1, .ref 242] [.ref 81, .int x1] s w := by
  obtain ⟨s', t, r, e, hi, ht, c, hd, m⟩ := o
  refine ⟨s', t, r, hi, ht, fun K g => bL_entryLot_0 (by decide) (c w hc _ (fun w' hw' hf => ?_)), m⟩
  by_cases h0 : t = 0
  · rw [if_pos h0]
    refine mm_Kr _ rfl (bL_entryLot_7 (by decide) (bL_entryLot_15 ?_))
    subst h0
    exact g _ hw'.out hf.out (fun _ => mm_up_same)
  · rw [if_neg h0]
    show if (mm_hh kL_entryLot).isEmpty then K (.inr e) w' else match mm_hd kL_entryLot e with
      | some x => K (.inl (some (.int x))) w'
      | none => False
    rw [if_neg (by decide), hd h0]
    exact g w' hw' (fun i h1 _ _ => hf i h1) (fun q => absurd q h0)
theorem wr_entryFrom {x1 : Int32} (hc : RepC w s) (o : Op kX5_entryFrom kX6_entryFrom kL_entryFrom n [.int x1] s) : Wr kL_entryFrom kX6_entryFrom n [.ref 0, .int x1, .ref 242] [.ref 81, .int x1] s w := by
  obtain ⟨s', t, r, e, hi, ht, c, hd, m⟩ := o
  refine ⟨s', t, r, hi, ht, fun K g => bL_entryFrom_0 (by decide) (c w hc _ (fun w' hw' hf => ?_)), m⟩
  by_cases h0 : t = 0
  · rw [if_pos h0]
    refine mm_Kr _ rfl (bL_entryFrom_7 (by decide) (bL_entryFrom_15 ?_))
    subst h0
    exact g _ hw'.out hf.out (fun _ => mm_up_same)
  · rw [if_neg h0]
    show if (mm_hh kL_entryFrom).isEmpty then K (.inr e) w' else match mm_hd kL_entryFrom e with
      | some x => K (.inl (some (.int x))) w'
      | none => False
    rw [if_neg (by decide), hd h0]
    exact g w' hw' (fun i h1 _ _ => hf i h1) (fun q => absurd q h0)
theorem wr_entryTo {x1 : Int32} (hc : RepC w s) (o : Op kX5_entryTo kX6_entryTo kL_entryTo n [.int x1] s) : Wr kL_entryTo kX6_entryTo n [.ref 0, .int x1, .ref 242] [.ref 81, .int x1] s w := by
  obtain ⟨s', t, r, e, hi, ht, c, hd, m⟩ := o
  refine ⟨s', t, r, hi, ht, fun K g => bL_entryTo_0 (by decide) (c w hc _ (fun w' hw' hf => ?_)), m⟩
  by_cases h0 : t = 0
  · rw [if_pos h0]
    refine mm_Kr _ rfl (bL_entryTo_7 (by decide) (bL_entryTo_15 ?_))
    subst h0
    exact g _ hw'.out hf.out (fun _ => mm_up_same)
  · rw [if_neg h0]
    show if (mm_hh kL_entryTo).isEmpty then K (.inr e) w' else match mm_hd kL_entryTo e with
      | some x => K (.inl (some (.int x))) w'
      | none => False
    rw [if_neg (by decide), hd h0]
    exact g w' hw' (fun i h1 _ _ => hf i h1) (fun q => absurd q h0)
theorem wr_entryQuantity {x1 : Int32} (hc : RepC w s) (o : Op kX5_entryQuantity kX6_entryQuantity kL_entryQuantity n [.int x1] s) : Wr kL_entryQuantity kX6_entryQuantity n [.ref 0, .int x1, .ref 242] [.ref 81, .int x1] s w := by
  obtain ⟨s', t, r, e, hi, ht, c, hd, m⟩ := o
  refine ⟨s', t, r, hi, ht, fun K g => bL_entryQuantity_0 (by decide) (c w hc _ (fun w' hw' hf => ?_)), m⟩
  by_cases h0 : t = 0
  · rw [if_pos h0]
    refine mm_Kr _ rfl (bL_entryQuantity_7 (by decide) (bL_entryQuantity_15 ?_))
    subst h0
    exact g _ hw'.out hf.out (fun _ => mm_up_same)
  · rw [if_neg h0]
    show if (mm_hh kL_entryQuantity).isEmpty then K (.inr e) w' else match mm_hd kL_entryQuantity e with
      | some x => K (.inl (some (.int x))) w'
      | none => False
    rw [if_neg (by decide), hd h0]
    exact g w' hw' (fun i h1 _ _ => hf i h1) (fun q => absurd q h0)
theorem wr_onHandOn {x1 x2 : Int32} (hc : RepC w s) (o : Op kX5_onHandOn kX6_onHandOn kL_onHandOn n [.int x1, .int x2] s) : Wr kL_onHandOn kX6_onHandOn n [.ref 0, .int x1, .int x2, .ref 242] [.ref 81, .int x1, .int x2] s w := by
  obtain ⟨s', t, r, e, hi, ht, c, hd, m⟩ := o
  refine ⟨s', t, r, hi, ht, fun K g => bL_onHandOn_0 (by decide) (c w hc _ (fun w' hw' hf => ?_)), m⟩
  by_cases h0 : t = 0
  · rw [if_pos h0]
    refine mm_Kr _ rfl (bL_onHandOn_8 (by decide) (bL_onHandOn_21 ?_))
    subst h0
    exact g _ hw'.out hf.out (fun _ => mm_up_same)
  · rw [if_neg h0]
    show if (mm_hh kL_onHandOn).isEmpty then K (.inr e) w' else match mm_hd kL_onHandOn e with
      | some x => K (.inl (some (.int x))) w'
      | none => False
    rw [if_neg (by decide), hd h0]
    exact g w' hw' (fun i h1 _ _ => hf i h1) (fun q => absurd q h0)
end WR
