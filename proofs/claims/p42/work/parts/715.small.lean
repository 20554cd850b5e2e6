/-! numbers of the law; its script; how many promises -/
theorem nI_div {a b : Nat} (ha : a < 2 ^ 31) (hb : b < 2 ^ 31) (hb0 : 0 < b) : nI a / nI b = nI (a / b) := by
  have hq : a / b ≤ a := Nat.div_le_self a b
  apply Int32.toInt_inj.mp
  have e : ((a : Int) / (b : Int)) = ((a / b : Nat) : Int) := rfl
  have key : ∀ q : Nat, q ≤ a → ((q : Nat) : Int).bmod (2 ^ 32) = q := fun q hq => Int.bmod_eq_of_le (by omega) (by omega)
  rw [Int32.toInt_div, nI_toInt ha, nI_toInt hb, nI_toInt (n := a / b) (Nat.lt_of_le_of_lt hq ha), Int.tdiv_eq_ediv_of_nonneg (by omega), e]
  exact key (a / b) hq
theorem nI_rem {a b : Nat} (ha : a < 2 ^ 31) (hb : b < 2 ^ 31) : nI a - nI a / nI b * nI b = nI (a % b) := by
  have hq : a % b ≤ a := Nat.mod_le a b
  rw [irem_eq_mod]
  apply Int32.toInt_inj.mp
  rw [Int32.toInt_mod, nI_toInt ha, nI_toInt hb, nI_toInt (by omega), Int.tmod_eq_emod_of_nonneg (by omega)]
  rfl
theorem nI_mod {a b : Nat} (ha : a < 2 ^ 31) (hb : b < 2 ^ 31) : nI a % nI b = nI (a % b) := by rw [← irem_eq_mod, nI_rem ha hb]
/-- a number of a script -/
def atv (w : mmM) (k : Nat) : Int32 := if w 82 0 ≤ nI k then 0 else w 81 k
section SM
variable {n : Nat} {s : St} {w : mmM} {K : mmO → mmM → Prop} {x y : Int32}
theorem m_at {k Ls : Nat} (hL : w 82 0 = nI Ls) (hl : Ls ≤ 1000) (hk : k < 1000) (g : K (.inl (some (.int (atv w k)))) w) : mm_M kL_at [.ref 81, .int (nI k)] w K := by
  refine bL_at_0 (fun q => ?_) (fun q => ?_)
  · refine bL_at_12 (bL_at_13 ?_)
    unfold atv at g
    rw [if_pos q] at g
    exact g
  · have hk2 : k < Ls := by
      rw [hL, nI_lei (by omega) (by omega)] at q
      omega
    refine bL_at_6 (by rw [hL, cl_nI (by omega)]; exact in_nI hk2 (by omega)) (bL_at_13 ?_)
    unfold atv at g
    rw [if_neg q] at g
    rw [cl_nI (by omega)]
    exact g
theorem some_ok {m : Nat} (hm : 0 < m) (hm2 : m < 1000000000) (x : Int32) : (0 ≤ x - x / nI m * nI m → ∃ r, r < m ∧ x - x / nI m * nI m = nI r) ∧ (¬ 0 ≤ x - x / nI m * nI m → ∃ r, r < m ∧ x - x / nI m * nI m + nI m = nI r) := by
  rw [irem_eq_mod]
  have e : (x % nI m).toInt = x.toInt.tmod m := by rw [Int32.toInt_mod, nI_toInt (by omega)]
  have h1 : x.toInt.tmod (m : Int) < m := Int.tmod_lt_of_pos _ (by omega)
  have h2 : -(m : Int) < x.toInt.tmod (m : Int) := by
    have := Int.tmod_lt_of_pos (-x.toInt) (b := (m : Int)) (by omega)
    rw [Int.neg_tmod] at this
    omega
  constructor
  · intro h
    rw [Int32.le_iff_toInt_le, e] at h
    have h : 0 ≤ x.toInt.tmod (m : Int) := h
    refine ⟨(x.toInt.tmod (m : Int)).toNat, by omega, ?_⟩
    apply Int32.toInt_inj.mp
    rw [e, nI_toInt (by omega)]
    omega
  · intro h
    rw [Int32.le_iff_toInt_le, e] at h
    have h : ¬ 0 ≤ x.toInt.tmod (m : Int) := h
    refine ⟨(x.toInt.tmod (m : Int) + m).toNat, by omega, ?_⟩
    apply Int32.toInt_inj.mp
    rw [Int32.toInt_add, e, nI_toInt (by omega), nI_toInt (by omega), Int.bmod_eq_of_le (by omega) (by omega)]
    omega
theorem m_some {m : Nat} (hm : 0 < m) (hm2 : m < 1000000000) (g : ∀ r, r < m → K (.inl (some (.int (nI r)))) w) : mm_M kL_some [.int x, .int (nI m)] w K := by
  obtain ⟨h1, h2⟩ := some_ok hm hm2 x
  refine bL_some_0 (fun z => ?_) (fun q => ?_) (fun q => ?_)
  · have := (nI_eq (b := 0) (by omega) (by omega)).mp z
    omega
  · obtain ⟨r, hr, e⟩ := h1 q
    refine bL_some_14 (bL_some_15 ?_)
    rw [e]
    exact g r hr
  · obtain ⟨r, hr, e⟩ := h2 q
    refine bL_some_8 (bL_some_15 ?_)
    rw [e]
    exact g r hr
/-! the little methods over a state -/
theorem v_status (h : Inv n s) {p : Nat} (hp : p < s.np) : opC kL_status [.ref 0, .int (nI p)] s s (.inl (some (.int (nI (s.st p))))) := wA_status (h.st_ p) (q_status h hp)
theorem v_status0 (h : Inv n s) (hx : ∀ i, i < s.np → x ≠ nI i) : opC kL_status [.ref 0, .int x] s s (.inl (some (.int 45))) := wX_status (q_status0 h hx) (by decide)
theorem ne_ge {m : Nat} {x : Int32} {k : Nat} (hx : x = nI k) (hk : m ≤ k) (hk2 : k < 1000000) : ∀ i, i < m → x ≠ nI i := fun i hi e => by
  rw [hx] at e
  have := (nI_eq (by omega) (by omega)).mp e
  omega
theorem v_promises (h : Inv n s) (hj : Jn s) : opC kL_promisesOf [.ref 0] s s (.inl (some (.int (nI s.np)))) := by
  intro w0 hw0 K hK
  have hnp := h.np_
  refine bL_promisesOf_0 ?_
  refine e_for0 (n := s.np) (a0 := ()) (f := fun _ a => a) (E := fun m _ => ∀ w, RepC w s → fC w0 w → mm_E kL_promisesOf 2 [.ref 0, .int (nI m)] [] w m K) ?_ ?_ w0 hw0 fC.rfl
  · intro m _ hm ih w hw hf
    refine bL_promisesOf_2 (fun q => ?_) (fun _ => bL_promisesOf_8 (by show m + 1 ≤ 20; omega) (v_status h hm w hw _ (fun w' hw' hf' => mm_Kr (m + 1) rfl (bL_promisesOf_13 (fun q => ?_) (fun _ => bL_promisesOf_18 ?_)))))
    · rw [show (20 : Int32) = nI 20 from rfl, nI_lei (by omega) (by omega)] at q
      omega
    · exact absurd ((nI_eq (b := 45) (by have := h.st_ m; omega) (by decide)).mp q) (hj.1 m hm)
    · rw [nI_1]
      exact ih w' hw' (hf.tr hf')
  · intro w hw hf
    refine bL_promisesOf_2 (fun _ => bL_promisesOf_24 (hK w hw hf)) (fun q => ?_)
    have : s.np < 20 := by
      rw [show (20 : Int32) = nI 20 from rfl, nI_lei (by omega) (by omega)] at q
      omega
    refine bL_promisesOf_8 (by show s.np + 1 ≤ 20; omega) (v_status0 h (ne_ge rfl (Nat.le_refl _) (by omega)) w hw _ (fun w' hw' hf' => mm_Kr (s.np + 1) rfl (bL_promisesOf_13 (fun _ => bL_promisesOf_24 (hK w' hw' (hf.tr hf'))) (fun q => absurd rfl q))))
def nxA (s : St) : Int32 := if s.nc = 0 then -1001 else nI (s.nc - 1)
def dyA (s : St) (b : Nat) : Int32 := if s.bl b = 0 then -1002 else nI (s.dd b)
def fsA (s : St) (i : Nat) : Int32 := match s.fl i (nI s.td) with
  | none => -1002
  | some k => nI (s.od k)
noncomputable def lnA (s : St) (p : Nat) : Int32 := if s.st p = 111 ∨ s.st p = 112 then nI (vN s p) else -1002
noncomputable def wkA (s : St) (p : Nat) : Int32 := if s.st p = 111 ∨ s.st p = 112 then nI (wkN s p) else -1002
theorem v_next (h : Inv n s) : opC kL_next [.ref 0] s s (.inl (some (.int (nxA s)))) := by
  unfold nxA
  by_cases q : s.nc = 0
  · rw [if_pos q]; exact wX_next (q_nextCount0 h q) (by decide)
  · rw [if_neg q]; exact wA_next (q_nextCount h q)
theorem v_dueDay (h : Inv n s) {b : Nat} (hb : b < 40) : opC kL_dueDay [.ref 0, .int (nI b)] s s (.inl (some (.int (dyA s b)))) := by
  unfold dyA
  by_cases q : s.bl b = 0
  · rw [if_pos q]; exact wX_dueDay (q_countDay0 hb q) (by decide)
  · rw [if_neg q]; exact wA_dueDay (q_countDay h hb q)
theorem v_first (h : Inv n s) {i : Nat} (hi : i < s.ni) : opC kL_first [.ref 0, .int (nI i), .int (nI s.td)] s s (.inl (some (.int (fsA s i)))) := by
  unfold fsA
  split
  · rename_i q
    exact wX_first (q_nextLot0 h hi q) (by decide)
  · rename_i k q
    exact wA_first (q_nextLot h hi q)
theorem v_lines (h : Inv n s) {p : Nat} (hp : p < s.np) : opC kL_lines [.ref 0, .int (nI p)] s s (.inl (some (.int (lnA s p)))) := by
  unfold lnA
  by_cases q : s.st p = 111 ∨ s.st p = 112
  · rw [if_pos q]; exact wA_lines (q_pickLines h hp q)
  · rw [if_neg q]; exact wX_lines (q_pickLines1 h hp (fun z => q (Or.inl z)) (fun z => q (Or.inr z))) (by decide)
theorem v_walk0 (h : Inv n s) {p : Nat} (hp : p < s.np) : opC kL_walks [.ref 0, .int (nI p), .int 0] s s (.inl (some (.int (wkA s p)))) := by
  unfold wkA
  by_cases q : s.st p = 111 ∨ s.st p = 112
  · rw [if_pos q]; exact wA0_walks (q_walk h hp q)
  · rw [if_neg q]; exact wX0_walks (q_walk1 h hp (fun z => q (Or.inl z)) (fun z => q (Or.inr z))) (by decide)
theorem v_walk1 (h : Inv n s) {p : Nat} (hp : p < s.np) : opC kL_walks [.ref 0, .int (nI p), .int 1] s s (.inl (some (.int (wkA s p)))) := by
  unfold wkA
  by_cases q : s.st p = 111 ∨ s.st p = 112
  · rw [if_pos q]; exact wA1_walks (q_walkT h hp q)
  · rw [if_neg q]; exact wX1_walks (q_walkT1 h hp (fun z => q (Or.inl z)) (fun z => q (Or.inr z))) (by decide)
theorem v_stock0 (h : Inv n s) {l b : Nat} (hl : l < s.nl) (hb : b < 40) : opC kL_stock [.ref 0, .int (nI l), .int (nI b), .int 0] s s (.inl (some (.int (nI (s.un l b))))) := wA0_stock (q_stock h hl hb)
theorem v_stock1 (h : Inv n s) {l b : Nat} (hl : l < s.nl) (hb : b < 40) : opC kL_stock [.ref 0, .int (nI l), .int (nI b), .int 1] s s (.inl (some (.int (nI (s.un l b))))) := wA1_stock (q_stockJ h hl hb)
theorem v_free0 (h : Inv n s) {i k : Nat} (hi : i < s.ni) (hk : k ≤ 60) : opC kL_free [.ref 0, .int (nI i), .int (nI (s.td + k)), .int 0] s s (.inl (some (.int (nI (s.la i k))))) := wA0_free (q_available h hi hk)
theorem v_free1 (h : Inv n s) {i k : Nat} (hi : i < s.ni) (hk : k ≤ 60) : opC kL_free [.ref 0, .int (nI i), .int (nI (s.td + k)), .int 1] s s (.inl (some (.int (nI (s.la i k))))) := wA1_free (q_availT h hi hk)
theorem v_had (h : Inv n s) {i : Nat} (hi : i < s.ni) : opC kL_had [.ref 0, .int (nI i), .int (nI s.td)] s s (.inl (some (.int (nI (s.uu i))))) := by
  have := q_onHandOn h hi
  rw [ho_eq h.1 i] at this
  exact wA_had this
end SM
