/-! the class's questions over a state: what they answer, what they throw -/
section QY
variable {n : Nat} {s : St} {x y z u : Int32}
theorem q_day : opC kX5_day [.ref 0] s s (.inl (some (.int (nI s.td)))) := fun w hw K hK => k_dayC hw (hK _ hw fC.rfl)
theorem q_lots : opC kX5_lots [.ref 0] s s (.inl (some (.int (nI s.nl)))) := fun w hw K hK => k_lotsC hw (hK _ hw fC.rfl)
theorem q_entries : opC kX5_entries [.ref 0] s s (.inl (some (.int (nI s.ne)))) := fun w hw K hK => k_entriesC hw (hK _ hw fC.rfl)
theorem q_countsDue (h : Inv n s) : opC kX5_countsDue [.ref 0] s s (.inl (some (.int (nI s.cd)))) := fun w hw K hK => k_countsDueC h hw (hK _ hw fC.rfl)
theorem q_nextCount (h : Inv n s) (h0 : s.nc ≠ 0) : opC kX5_nextCount [.ref 0] s s (.inl (some (.int (nI (s.nc - 1))))) := fun w hw K hK => k_nextCountC h hw (fun q => absurd q h0) (fun _ => hK _ hw fC.rfl)
theorem q_nextCount0 (h : Inv n s) (h0 : s.nc = 0) : opC kX5_nextCount [.ref 0] s s (.inr 4) := fun w hw K hK => k_nextCountC h hw (fun _ => hK _ hw fC.rfl) (fun q => absurd h0 q)
theorem q_status (h : Inv n s) {i : Nat} (hi : i < s.np) : opC kX5_status [.ref 0, .int (nI i)] s s (.inl (some (.int (nI (s.st i))))) := fun w hw K hK => by
  have hb := h.np_
  refine bX5_status_0 (by decide) (k_rPromise hb hw.np hi (mm_Kv 1 rfl ?_))
  refine bX5_status_5 (in_nI (by omega) (by decide)) (by rw [cl_nI (by omega), hw.st]; exact nr_char (h.st_ i)) ?_
  rw [cl_nI (by omega), hw.st]
  exact hK _ hw fC.rfl
theorem q_status0 (h : Inv n s) (hx : ∀ i, i < s.np → x ≠ nI i) : opC kX5_status [.ref 0, .int x] s s (.inr 2) := fun w hw K hK => bX5_status_0 (by decide) (k_nPromise h.np_ hw.np hx (mm_Kx rfl (hK _ hw fC.rfl)))
theorem q_quantity (h : Inv n s) {i j : Nat} (hi : i < s.np) (hj : j < s.ni) : opC kX5_quantity [.ref 0, .int (nI i), .int (nI j)] s s (.inl (some (.int (nI (s.q i j))))) := fun w hw K hK => by
  have hb := h.np_
  have hb2 := h.ni_
  refine bX5_quantity_0 (by decide) (k_rPromise hb hw.np hi (mm_Kv 1 rfl ?_))
  refine bX5_quantity_5 (by decide) (k_rItem hb2 hw.ni hj (mm_Kv 2 rfl ?_))
  refine bX5_quantity_10 (in_nI (by omega) (by decide)) (in_nI (by omega) (by decide)) ?_
  rw [cl_nI (by omega), cl_nI (by omega), hw.q i (by omega) j (by omega)]
  exact hK _ hw fC.rfl
theorem q_stock (h : Inv n s) {i j : Nat} (hi : i < s.nl) (hj : j < 40) : opC kX5_stock [.ref 0, .int (nI i), .int (nI j)] s s (.inl (some (.int (nI (s.un i j))))) := fun w hw K hK => by
  have hb := h.nl_
  refine bX5_stock_0 (by decide) (k_rLot hb hw.nl hi (mm_Kv 1 rfl ?_))
  refine bX5_stock_5 (by decide) (k_rBin hj (mm_Kv 2 rfl ?_))
  refine bX5_stock_10 (in_nI (by omega) (by decide)) (in_nI (by omega) (by decide)) ?_
  rw [cl_nI (by omega), cl_nI (by omega), hw.un i (by omega)]
  exact hK _ hw fC.rfl
theorem q_stockJ (h : Inv n s) {i j : Nat} (hi : i < s.nl) (hj : j < 40) : opC kX5_stockByJournal [.ref 0, .int (nI i), .int (nI j)] s s (.inl (some (.int (nI (s.un i j))))) := fun w hw K hK => by
  have hb := h.nl_
  have hne := h.ne_
  refine bX5_stockByJournal_0 (by decide) (k_rLot hb hw.nl hi (mm_Kv 1 rfl ?_))
  refine bX5_stockByJournal_5 (by decide) (k_rBin hj (mm_Kv 2 rfl ?_))
  refine bX5_stockByJournal_10 (by decide) (m_unitsIn hne hw.ne (mm_Kr 2 rfl (bX5_stockByJournal_19 ?_)))
  rw [hw.jl, hw.jf, hw.jt, hw.jq, sIn_nI (by omega) (by omega) (fun e he => ⟨by have := h.jl_ e he; omega, h.jf_ e he, h.jt_ e he⟩), h.js_ i j hi hj, i32_cancel]
  exact hK _ hw fC.rfl
theorem q_stockJ0 (h : Inv n s) (hx : ∀ i, i < s.nl → x ≠ nI i) : opC kX5_stockByJournal [.ref 0, .int x, .int y] s s (.inr 2) := fun w hw K hK => bX5_stockByJournal_0 (by decide) (k_nLot h.nl_ hw.nl hx (mm_Kx rfl (hK _ hw fC.rfl)))
theorem q_load {i : Nat} (hi : i < 40) : opC kX5_load [.ref 0, .int (nI i)] s s (.inl (some (.int (nI (s.bl i))))) := fun w hw K hK => by
  refine bX5_load_0 (by decide) (k_rBin hi (mm_Kv 1 rfl ?_))
  refine bX5_load_5 (in_nI (by omega) (by decide)) ?_
  rw [cl_nI (by omega), hw.bl]
  exact hK _ hw fC.rfl
def St.fl (s : St) (i : Nat) (y : Int32) : Option Nat := sFirst (fun l => nI (s.od l)) (fun l => nI (s.it l)) (fun l => nI (s.ex l)) (fun l => nI (s.lu l)) (nI i) y s.nl
theorem q_nextLot (h : Inv n s) {i k : Nat} (hi : i < s.ni) (hF : s.fl i y = some k) : opC kX5_nextLot [.ref 0, .int (nI i), .int y] s s (.inl (some (.int (nI (s.od k))))) := fun w hw K hK => by
  have hl := h.nl_
  have hoC : ∀ k, k < s.nl → ∃ o, o < 24 ∧ w 18 k = nI o := fun k hk => ⟨s.od k, by have := h.od_ k hk; omega, by rw [hw.od]⟩
  have hk : k < s.nl := by have := (ffr_lt hF).1; omega
  unfold St.fl at hF
  refine bX5_nextLot_0 (by decide) (k_rItem h.ni_ hw.ni hi (mm_Kv 1 rfl ?_))
  refine bX5_nextLot_5 (by decide) (m_firstLot hl hw.nl hoC (mm_Kr 1 rfl ?_))
  rw [hw.od, hw.it, hw.ex, hw.lu, hF]
  exact bX5_nextLot_14 (fun q => absurd q (nI_m1 (by have := h.od_ k hk; omega))) (fun _ => bX5_nextLot_30 (hK _ hw fC.rfl))
theorem q_nextLot0 (h : Inv n s) {i : Nat} (hi : i < s.ni) (hF : s.fl i y = none) : opC kX5_nextLot [.ref 0, .int (nI i), .int y] s s (.inr 4) := fun w hw K hK => by
  have hl := h.nl_
  have hoC : ∀ k, k < s.nl → ∃ o, o < 24 ∧ w 18 k = nI o := fun k hk => ⟨s.od k, by have := h.od_ k hk; omega, by rw [hw.od]⟩
  unfold St.fl at hF
  refine bX5_nextLot_0 (by decide) (k_rItem h.ni_ hw.ni hi (mm_Kv 1 rfl ?_))
  refine bX5_nextLot_5 (by decide) (m_firstLot hl hw.nl hoC (mm_Kr 1 rfl ?_))
  rw [hw.od, hw.it, hw.ex, hw.lu, hF]
  exact bX5_nextLot_14 (fun _ => bX5_nextLot_20 (by decide) (hK _ hw fC.rfl)) (fun h => absurd rfl h)
theorem q_nextLot1 (h : Inv n s) (hx : ∀ i, i < s.ni → x ≠ nI i) : opC kX5_nextLot [.ref 0, .int x, .int y] s s (.inr 2) := fun w hw K hK => bX5_nextLot_0 (by decide) (k_nItem h.ni_ hw.ni hx (mm_Kx rfl (hK _ hw fC.rfl)))
theorem q_onHand (h : Inv n s) {i : Nat} (hi : i < s.ni) : opC kX5_onHand [.ref 0, .int (nI i)] s s (.inl (some (.int (nI (s.sk i s.td))))) := fun w hw K hK => by
  have h1 := h.ni_; have h2 := h.td_; have h3 := h.n_
  refine bX5_onHand_0 (by decide) (k_rItem h.ni_ hw.ni hi (mm_Kv 1 rfl ?_))
  refine bX5_onHand_5 (by decide) (m_unitsFrom h.nl_ hw.nl (mm_Kr 1 rfl (bX5_onHand_17 ?_)))
  rw [hw.it, hw.ex, hw.lu, hw.td, sFrom_nI h.1 (by omega) (by omega)]
  exact hK _ hw fC.rfl
/-- units of an item that are past their day -/
def St.xp (s : St) (i d : Nat) : Nat := sm (fun l => if s.it l = i ∧ s.ex l < d then s.lu l else 0) s.nl
theorem sBefore_nI (h : Inw n s) {i d : Nat} (hi : i < 100) (hd : d < 100000) : sBefore (fun l => nI (s.it l)) (fun l => nI (s.ex l)) (fun l => nI (s.lu l)) (nI i) (nI d) s.nl = nI (s.xp i d) := by
  have h1 := h.n_; have h2 := h.td_; have h3 := h.ni_
  have : sBefore (fun l => nI (s.it l)) (fun l => nI (s.ex l)) (fun l => nI (s.lu l)) (nI i) (nI d) s.nl = fo (fun l a => if s.it l = i ∧ s.ex l < d then a + nI (s.lu l) else a) (nI 0) s.nl := by
    refine fo_cong fun l a hl => ?_
    have h4 := h.it_ l hl
    have h5 := h.ex_ l hl
    have e1 : (nI (s.it l) = nI i) ↔ s.it l = i := nI_eq (by omega) (by omega)
    have e2 : (nI (s.ex l) < nI d) ↔ s.ex l < d := nI_lti (by omega) (by omega)
    by_cases q : s.it l = i ∧ s.ex l < d
    · rw [if_pos ⟨e1.mpr q.1, e2.mpr q.2⟩, if_pos q]
    · rw [if_neg (fun z => q ⟨e1.mp z.1, e2.mp z.2⟩), if_neg q]
  rw [this, fo_nI (c := fun l => s.it l = i ∧ s.ex l < d) (y := s.lu), Nat.zero_add]
  rfl
theorem q_expired (h : Inv n s) {i : Nat} (hi : i < s.ni) : opC kX5_expired [.ref 0, .int (nI i)] s s (.inl (some (.int (nI (s.xp i s.td))))) := fun w hw K hK => by
  have h1 := h.ni_; have h2 := h.td_; have h3 := h.n_
  refine bX5_expired_0 (by decide) (k_rItem h.ni_ hw.ni hi (mm_Kv 1 rfl ?_))
  refine bX5_expired_5 (by decide) (m_unitsBefore h.nl_ hw.nl (mm_Kr 1 rfl (bX5_expired_17 ?_)))
  rw [hw.it, hw.ex, hw.lu, hw.td, sBefore_nI h.1 (by omega) (by omega)]
  exact hK _ hw fC.rfl
theorem q_countDay (h : Inv n s) {i : Nat} (hi : i < 40) (hz : s.bl i ≠ 0) : opC kX5_countDay [.ref 0, .int (nI i)] s s (.inl (some (.int (nI (s.dd i))))) := fun w hw K hK => by
  have hbl := h.bl_ i hi
  refine bX5_countDay_0 (by decide) (k_rBin hi (mm_Kv 1 rfl ?_))
  refine bX5_countDay_5 (in_nI hi (by decide)) (fun q => absurd ?_ hz) (fun _ => bX5_countDay_27 (by decide) (k_dayOfCount h hw hi (mm_Kr 1 rfl (bX5_countDay_32 (hK _ hw fC.rfl)))))
  rw [cl_nI (by omega), hw.bl] at q
  exact (nI_eq (b := 0) (by omega) (by omega)).mp q
theorem q_countDay0 {i : Nat} (hi : i < 40) (hz : s.bl i = 0) : opC kX5_countDay [.ref 0, .int (nI i)] s s (.inr 4) := fun w hw K hK => by
  refine bX5_countDay_0 (by decide) (k_rBin hi (mm_Kv 1 rfl ?_))
  refine bX5_countDay_5 (in_nI hi (by decide)) (fun _ => bX5_countDay_17 (by decide) (hK _ hw fC.rfl)) (fun q => absurd ?_ q)
  rw [cl_nI (by omega), hw.bl]
  show nI (s.bl i) = 0
  rw [hz]
  rfl
theorem q_countDay1 (hx : ∀ i, i < 40 → x ≠ nI i) : opC kX5_countDay [.ref 0, .int x] s s (.inr 2) := fun w hw K hK => bX5_countDay_0 (by decide) (k_nBin hx (mm_Kx rfl (hK _ hw fC.rfl)))
theorem q_available (h : Inv n s) {i k : Nat} (hi : i < s.ni) (hk : k ≤ 60) : opC kX5_available [.ref 0, .int (nI i), .int (nI (s.td + k))] s s (.inl (some (.int (nI (s.la i k))))) := fun w hw K hK => by
  have h1 := h.ni_; have h2 := h.td_; have h3 := h.n_
  refine bX5_available_0 (by decide) (k_rItem h1 hw.ni hi (mm_Kv 1 rfl (bX5_available_5 (by decide) ?_)))
  rw [hw.td, show (60 : Int32) = nI 60 from rfl, nI_add]
  refine k_bt (by omega) (by omega) ⟨s.td + k, by omega, by omega, rfl⟩ (mm_Kv 2 rfl ?_)
  exact bX5_available_21 (by decide) (k_least h hw hi hk (mm_Kr 2 rfl (bX5_available_27 (hK _ hw fC.rfl))))
theorem q_available1 (h : Inv n s) (hx : ∀ i, i < s.ni → x ≠ nI i) : opC kX5_available [.ref 0, .int x, .int y] s s (.inr 2) := fun w hw K hK => bX5_available_0 (by decide) (k_nItem h.ni_ hw.ni hx (mm_Kx rfl (hK _ hw fC.rfl)))
theorem q_availT (h : Inv n s) {i k : Nat} (hi : i < s.ni) (hk : k ≤ 60) : opC kX5_availableByTrying [.ref 0, .int (nI i), .int (nI (s.td + k))] s s (.inl (some (.int (nI (s.la i k))))) := fun w hw K hK => by
  have h1 := h.ni_; have h2 := h.td_; have h3 := h.n_
  refine bX5_availableByTrying_0 (by decide) (k_rItem h1 hw.ni hi (mm_Kv 1 rfl (bX5_availableByTrying_5 (by decide) ?_)))
  rw [hw.td, show (60 : Int32) = nI 60 from rfl, nI_add]
  refine k_bt (by omega) (by omega) ⟨s.td + k, by omega, by omega, rfl⟩ (mm_Kv 2 rfl ?_)
  exact k_tryAv h hw hi hk (fun w' hf => hK _ (hf.rep hw) hf.fC)
theorem q_availT2 (h : Inv n s) {i : Nat} (hi : i < s.ni) (hy : ¬ bt s.td (s.td + 60) y) : opC kX5_availableByTrying [.ref 0, .int (nI i), .int y] s s (.inr 0) := fun w hw K hK => by
  have h1 := h.ni_; have h2 := h.td_; have h3 := h.n_
  refine bX5_availableByTrying_0 (by decide) (k_rItem h1 hw.ni hi (mm_Kv 1 rfl (bX5_availableByTrying_5 (by decide) ?_)))
  rw [hw.td, show (60 : Int32) = nI 60 from rfl, nI_add]
  exact k_nbt (by omega) (by omega) hy (mm_Kx rfl (hK _ hw fC.rfl))
theorem q_onHandOn2 (h : Inv n s) {i : Nat} (hi : i < s.ni) (hy : ¬ bt 0 s.td y) : opC kX5_onHandOn [.ref 0, .int (nI i), .int y] s s (.inr 0) := fun w hw K hK => by
  have htd := h.td_; have hnn := h.n_
  refine bX5_onHandOn_0 (by decide) (k_rItem h.ni_ hw.ni hi (mm_Kv 1 rfl (bX5_onHandOn_5 (by decide) ?_)))
  rw [hw.td]
  exact k_nbt (a := 0) (by decide) (by omega) hy (mm_Kx rfl (hK _ hw fC.rfl))
theorem q_onHandOn (h : Inv n s) {i : Nat} (hi : i < s.ni) : opC kX5_onHandOn [.ref 0, .int (nI i), .int (nI s.td)] s s (.inl (some (.int (s.ho i s.td)))) := fun w hw K hK => by
  have hni := h.ni_; have hnl := h.nl_; have hne := h.ne_; have htd := h.td_; have hnn := h.n_
  refine bX5_onHandOn_0 (by decide) (k_rItem hni hw.ni hi (mm_Kv 1 rfl (bX5_onHandOn_5 (by decide) ?_)))
  rw [hw.td]
  refine k_bt (a := 0) (by decide) (by omega) ⟨s.td, Nat.zero_le _, Nat.le_refl _, rfl⟩ (mm_Kv 2 rfl (bX5_onHandOn_15 ?_))
  refine e_for0 (n := s.nl) (E := fun l a => mm_E kX5_onHandOn 20 [.ref 0, .int (nI i), .int (nI s.td), .int a, .int (nI l)] [] w 2 K) (f := fun l a => if s.it l = i then a + s32 (fun e => if s.jl e = l ∧ s.jd e ≤ s.td then s.gn e else 0) s.ne else a) ?_ ?_
  · intro l a hl ih
    have hit := h.it_ l hl
    refine bX5_onHandOn_20 (fun q => absurd (hw.nl ▸ q) (ge_nI hl (by omega))) (fun _ => ?_)
    refine bX5_onHandOn_32 (in_nI (by omega) (by decide)) (fun q => ?_) (fun q => ?_) <;> rw [cl_nI (by omega), hw.it, nI_eq (by omega) (by omega)] at q
    · refine bX5_onHandOn_46 (by decide) (m_unitsAtEndOf hne hw.ne (mm_Kr 2 rfl (bX5_onHandOn_57 (bX5_onHandOn_59 ?_))))
      rw [hw.jl, hw.jf, hw.jt, hw.jq, hw.jd, sEnd_eq h.1 (by omega) (by omega), nI_1]
      rw [if_pos q] at ih
      exact ih
    · refine bX5_onHandOn_59 ?_
      rw [nI_1]
      rw [if_neg q] at ih
      exact ih
  · refine bX5_onHandOn_20 (fun _ => bX5_onHandOn_65 ?_) (fun q => absurd (hw.nl ▸ le_nI (Nat.le_refl s.nl) (by omega)) q)
    rw [fo_s32 (c := fun l => s.it l = i), ho_sw (fun e he => h.jl_ e he)]
    exact hK _ hw fC.rfl
/-! the lines -/
def opn (s : St) (p : Nat) : Prop := s.st p = 111 ∨ s.st p = 112
theorem q_pickLines (h : Inv n s) {p : Nat} (hp : p < s.np) (hs : s.st p = 111 ∨ s.st p = 112) : opC kX5_pickLines [.ref 0, .int (nI p)] s s (.inl (some (.int (nI (vN s p))))) := fun w hw K hK => by
  refine bX5_pickLines_0 (by decide) (k_loadC h.1 hw hp hs (fun w' g1 g2 g3 => mm_Kv 2 rfl (bX5_pickLines_5 ?_)))
  rw [g1]
  exact hK _ (g3.rep hw) g3.fC
theorem q_pickLines1 (h : Inv n s) {p : Nat} (hp : p < s.np) (h1 : s.st p ≠ 111) (h2 : s.st p ≠ 112) : opC kX5_pickLines [.ref 0, .int (nI p)] s s (.inr 1) := fun w hw K hK => bX5_pickLines_0 (by decide) (k_loadC2 h.1 hw hp h1 h2 (mm_Kx rfl (hK _ hw fC.rfl)))
theorem q_pickLines2 (h : Inv n s) (hx : ∀ i, i < s.np → x ≠ nI i) : opC kX5_pickLines [.ref 0, .int x] s s (.inr 2) := fun w hw K hK => bX5_pickLines_0 (by decide) (k_loadC1 h.1 hw hx (mm_Kx rfl (hK _ hw fC.rfl)))
theorem q_pickBin (h : Inv n s) {p i : Nat} (hp : p < s.np) (hs : s.st p = 111 ∨ s.st p = 112) (hi : i < vN s p) : opC kX5_pickBin [.ref 0, .int (nI p), .int (nI i)] s s (.inl (some (.int (nI (vB s p i))))) := fun w hw K hK => by
  have hN := (vw_ok h.1 hp hs).1
  have a1 := in_nI (show i < 60 by omega) (by decide)
  refine bX5_pickBin_0 (by decide) (k_loadC h.1 hw hp hs (fun w' g1 g2 g3 => mm_Kv 2 rfl (bX5_pickBin_5 (by decide) (k_rLine hN g1 hi (mm_Kv 3 rfl (bX5_pickBin_10 a1 ?_))))))
  rw [cl_nI (by omega), (g2 i hi).1]
  exact hK _ (g3.rep hw) g3.fC
theorem q_pickBin4 (h : Inv n s) {p : Nat} (hp : p < s.np) (hs : s.st p = 111 ∨ s.st p = 112) (hy : ∀ i, i < vN s p → y ≠ nI i) : opC kX5_pickBin [.ref 0, .int (nI p), .int y] s s (.inr 4) := fun w hw K hK => by
  have hN := (vw_ok h.1 hp hs).1
  exact bX5_pickBin_0 (by decide) (k_loadC h.1 hw hp hs (fun w' g1 g2 g3 => mm_Kv 2 rfl (bX5_pickBin_5 (by decide) (k_nLine hN g1 hy (mm_Kx rfl (hK _ (g3.rep hw) g3.fC))))))
theorem q_pickBin1 (h : Inv n s) {p : Nat} (hp : p < s.np) (h1 : s.st p ≠ 111) (h2 : s.st p ≠ 112) : opC kX5_pickBin [.ref 0, .int (nI p), .int y] s s (.inr 1) := fun w hw K hK => bX5_pickBin_0 (by decide) (k_loadC2 h.1 hw hp h1 h2 (mm_Kx rfl (hK _ hw fC.rfl)))
theorem q_pickLot (h : Inv n s) {p i : Nat} (hp : p < s.np) (hs : s.st p = 111 ∨ s.st p = 112) (hi : i < vN s p) : opC kX5_pickLot [.ref 0, .int (nI p), .int (nI i)] s s (.inl (some (.int (nI (vL s p i))))) := fun w hw K hK => by
  have hN := (vw_ok h.1 hp hs).1
  have a1 := in_nI (show i < 60 by omega) (by decide)
  refine bX5_pickLot_0 (by decide) (k_loadC h.1 hw hp hs (fun w' g1 g2 g3 => mm_Kv 2 rfl (bX5_pickLot_5 (by decide) (k_rLine hN g1 hi (mm_Kv 3 rfl (bX5_pickLot_10 a1 ?_))))))
  rw [cl_nI (by omega), (g2 i hi).2.1]
  exact hK _ (g3.rep hw) g3.fC
theorem q_pickLot2 (h : Inv n s) (hx : ∀ i, i < s.np → x ≠ nI i) : opC kX5_pickLot [.ref 0, .int x, .int y] s s (.inr 2) := fun w hw K hK => bX5_pickLot_0 (by decide) (k_loadC1 h.1 hw hx (mm_Kx rfl (hK _ hw fC.rfl)))
theorem q_pickQuantity (h : Inv n s) {p i : Nat} (hp : p < s.np) (hs : s.st p = 111 ∨ s.st p = 112) (hi : i < vN s p) : opC kX5_pickQuantity [.ref 0, .int (nI p), .int (nI i)] s s (.inl (some (.int (nI (vQ s p i))))) := fun w hw K hK => by
  have hN := (vw_ok h.1 hp hs).1
  have a1 := in_nI (show i < 60 by omega) (by decide)
  refine bX5_pickQuantity_0 (by decide) (k_loadC h.1 hw hp hs (fun w' g1 g2 g3 => mm_Kv 2 rfl (bX5_pickQuantity_5 (by decide) (k_rLine hN g1 hi (mm_Kv 3 rfl (bX5_pickQuantity_10 a1 ?_))))))
  rw [cl_nI (by omega), (g2 i hi).2.2]
  exact hK _ (g3.rep hw) g3.fC
noncomputable def wkN (s : St) (p : Nat) : Nat := (wkc (vB s p) (vN s p) (lstA (vB s p) (vN s p) + 1)).1 + 8 * lstA (vB s p) (vN s p)
theorem q_walk (h : Inv n s) {p : Nat} (hp : p < s.np) (hs : s.st p = 111 ∨ s.st p = 112) : opC kX5_walk [.ref 0, .int (nI p)] s s (.inl (some (.int (nI (wkN s p))))) := fun w hw K hK => by
  obtain ⟨hN, hB⟩ := vw_ok h.1 hp hs
  exact bX5_walk_0 (by decide) (k_loadC h.1 hw hp hs (fun w' g1 g2 g3 => mm_Kv 2 rfl (bX5_walk_5 (by decide) (k_walkC hN g1 (fun k hk => ⟨(g2 k hk).1, (hB k hk).1⟩) (mm_Kr 2 rfl (bX5_walk_12 (hK _ (g3.rep hw) g3.fC)))))))
theorem q_walk1 (h : Inv n s) {p : Nat} (hp : p < s.np) (h1 : s.st p ≠ 111) (h2 : s.st p ≠ 112) : opC kX5_walk [.ref 0, .int (nI p)] s s (.inr 1) := fun w hw K hK => bX5_walk_0 (by decide) (k_loadC2 h.1 hw hp h1 h2 (mm_Kx rfl (hK _ hw fC.rfl)))
theorem q_walkT (h : Inv n s) {p : Nat} (hp : p < s.np) (hs : s.st p = 111 ∨ s.st p = 112) : opC kX5_walkByTrying [.ref 0, .int (nI p)] s s (.inl (some (.int (nI (wkN s p))))) := fun w hw K hK => by
  obtain ⟨hN, hB⟩ := vw_ok h.1 hp hs
  exact bX5_walkByTrying_0 (by decide) (k_loadC h.1 hw hp hs (fun w' g1 g2 g3 => mm_Kv 2 rfl (bX5_walkByTrying_5 (by decide) (k_tryC hN g1 (fun k hk => ⟨(g2 k hk).1, (hB k hk).1⟩) (mm_Kr 2 rfl (bX5_walkByTrying_12 (hK _ (g3.rep hw) g3.fC)))))))
theorem q_walkT1 (h : Inv n s) {p : Nat} (hp : p < s.np) (h1 : s.st p ≠ 111) (h2 : s.st p ≠ 112) : opC kX5_walkByTrying [.ref 0, .int (nI p)] s s (.inr 1) := fun w hw K hK => bX5_walkByTrying_0 (by decide) (k_loadC2 h.1 hw hp h1 h2 (mm_Kx rfl (hK _ hw fC.rfl)))
theorem q_walkT2 (h : Inv n s) (hx : ∀ i, i < s.np → x ≠ nI i) : opC kX5_walkByTrying [.ref 0, .int x] s s (.inr 2) := fun w hw K hK => bX5_walkByTrying_0 (by decide) (k_loadC1 h.1 hw hx (mm_Kx rfl (hK _ hw fC.rfl)))
theorem q_entryKind2 (h : Inv n s) (hx : ∀ i, i < s.ne → x ≠ nI i) : opC kX5_entryKind [.ref 0, .int x] s s (.inr 2) := fun w hw K hK => bX5_entryKind_0 (by decide) (k_nEntry h.ne_ hw.ne hx (mm_Kx rfl (hK _ hw fC.rfl)))
/-! what the law's last calls throw -/
theorem t_adds1 (h1 : x ≠ 65) (h2 : x ≠ 66) (h3 : x ≠ 67) : opC kX5_addItem [.ref 0, .int x] s s (.inr 0) := fun w hw K hK => bX5_addItem_0 (fun q => absurd q h1) (fun _ => bX5_addItem_6 (fun q => absurd q h2) (fun _ => bX5_addItem_12 (fun q => absurd q h3) (fun _ => bX5_addItem_18 (by decide) (hK _ hw fC.rfl))))
theorem t_adds2 {c : Nat} (hc : c = 65 ∨ c = 66 ∨ c = 67) (hn : s.ni = 6) : opC kX5_addItem [.ref 0, .int (nI c)] s s (.inr 1) := fun w hw K hK => k_addItemC hc (by
  refine bX5_addItem_28 (fun q => ?_) (fun _ => bX5_addItem_40 (by decide) (hK _ hw fC.rfl))
  rw [hw.ni, hn] at q
  exact absurd q (by decide))
theorem q_addItem (h : Inv n s) {c : Nat} (hc : c = 65 ∨ c = 66 ∨ c = 67) (hn : s.ni ≠ 6) : Inv n ((s.set 0 (fun _ _ => s.ni + 1)).set 5 (fun _ => updN s.ct s.ni c)) ∧ opC kX5_addItem [.ref 0, .int (nI c)] s ((s.set 0 (fun _ _ => s.ni + 1)).set 5 (fun _ => updN s.ct s.ni c)) (.inl (some (.int (nI s.ni)))) := by
  have h1 := h.ni_
  have hcl : c ≤ 120 := by omega
  refine ⟨?_, fun w hw K hK => k_addItemC hc ?_⟩
  · refine ⟨h.1.c_ni_ct (by omega) (fun i hi => ?_) (fun l hl => ?_), fun i d hi hd => ?_⟩
    · by_cases e : i = s.ni
      · subst e; rw [updN_at]; exact hc
      · rw [updN_ne e]; exact h.ct_ i (by omega)
    · have := h.it_ l hl
      omega
    · exact h.cv_ i d hi hd
  · refine bX5_addItem_28 (fun _ => bX5_addItem_50 (by decide) (m_iappend (by omega) hw.ni (vn_char hcl) (mm_Kr 0 rfl (bX5_addItem_58 (hK _ ?_ ?_))))) (fun q => ?_)
    · refine hw.c_ni_ct (fun i hi => by rw [mm_up_row (by omega), mm_up_row (by omega)]) mm_up_same ?_
      rw [mm_up_row (by decide)]
      exact row_nI hw.ct
    · intro i hi
      rw [mm_up_row (by omega), mm_up_row (by omega)]
    · rw [hw.ni, show (6 : Int32) = nI 6 from rfl, nI_lti (by omega) (by omega)] at q
      omega
theorem t_subs1 (h : Inv n s) (hx : ∀ i, i < s.ni → x ≠ nI i) : opC kX5_addSubstitute [.ref 0, .int x, .int y, .int z] s s (.inr 2) := fun w hw K hK => bX5_addSubstitute_0 (by decide) (k_nItem h.ni_ hw.ni hx (mm_Kx rfl (hK _ hw fC.rfl)))
theorem t_subs2 (h : Inv n s) {i j : Nat} (hi : i < s.ni) (hj : j < s.ni) (hz : ¬ bt 1 9 z) : opC kX5_addSubstitute [.ref 0, .int (nI i), .int (nI j), .int z] s s (.inr 0) := fun w hw K hK => by
  refine bX5_addSubstitute_0 (by decide) (k_rItem h.ni_ hw.ni hi (mm_Kv 1 rfl (bX5_addSubstitute_5 (by decide) (k_rItem h.ni_ hw.ni hj (mm_Kv 2 rfl (bX5_addSubstitute_10 (by decide) ?_))))))
  exact k_nbt (a := 1) (b := 9) (by decide) (by decide) hz (mm_Kx rfl (hK _ hw fC.rfl))
theorem t_subs3 (h : Inv n s) {i : Nat} (hi : i < s.ni) (hz : bt 1 9 z) : opC kX5_addSubstitute [.ref 0, .int (nI i), .int (nI i), .int z] s s (.inr 3) := fun w hw K hK => by
  refine bX5_addSubstitute_0 (by decide) (k_rItem h.ni_ hw.ni hi (mm_Kv 1 rfl (bX5_addSubstitute_5 (by decide) (k_rItem h.ni_ hw.ni hi (mm_Kv 2 rfl (bX5_addSubstitute_10 (by decide) ?_))))))
  exact k_bt (a := 1) (b := 9) (by decide) (by decide) hz (mm_Kv 3 rfl (bX5_addSubstitute_18 (fun _ => bX5_addSubstitute_23 (by decide) (hK _ hw fC.rfl)) (fun q => absurd rfl q)))
end QY
