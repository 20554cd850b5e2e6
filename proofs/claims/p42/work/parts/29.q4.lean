/-! counts: the day when a bin is due -/
def iv (c : Nat) : Nat := if c = 65 then 5 else if c = 66 then 10 else 20
def ddf (s : St) (b : Nat) (a0 n : Nat) : Nat := fo (fun l a => if s.un l b = 0 then a else if iv (s.ct (s.it l)) < a then iv (s.ct (s.it l)) else a) a0 n
def St.dd (s : St) (b : Nat) : Nat := s.cn b + ddf s b 20 s.nl
theorem iv_le (c : Nat) : iv c ≤ 20 := by
  unfold iv
  split
  · decide
  · split <;> decide
theorem ddf_le (s : St) (b a0 : Nat) : ∀ n, ddf s b a0 n ≤ a0
  | 0 => Nat.le_refl _
  | n + 1 => by
    have := ddf_le s b a0 n
    unfold ddf at this ⊢
    unfold fo
    split
    · exact this
    · split
      · omega
      · exact this
theorem ddf_eq (s : St) (b : Nat) : ∀ n, ((∀ l, l < n → s.un l b = 0) ∧ ddf s b 20 n = 20 ∧ ddf s b 100000 n = 100000) ∨ ((∃ l, l < n ∧ s.un l b ≠ 0) ∧ ddf s b 100000 n = ddf s b 20 n)
  | 0 => Or.inl ⟨fun l h => absurd h (Nat.not_lt_zero _), rfl, rfl⟩
  | n + 1 => by
    have h20 := iv_le (s.ct (s.it n))
    have e1 : ∀ a0, ddf s b a0 (n + 1) = if s.un n b = 0 then ddf s b a0 n else if iv (s.ct (s.it n)) < ddf s b a0 n then iv (s.ct (s.it n)) else ddf s b a0 n := fun _ => rfl
    rcases ddf_eq s b n with ⟨h1, h2, h3⟩ | ⟨⟨l, hl, h1⟩, h2⟩
    · by_cases q : s.un n b = 0
      · left
        refine ⟨fun l hl => ?_, ?_, ?_⟩
        · by_cases e : l = n
          · subst e; exact q
          · exact h1 l (by omega)
        · rw [e1, if_pos q]; exact h2
        · rw [e1, if_pos q]; exact h3
      · right
        refine ⟨⟨n, by omega, q⟩, ?_⟩
        rw [e1, e1, if_neg q, if_neg q, h2, h3, if_pos (by omega)]
        split <;> omega
    · right
      refine ⟨⟨l, by omega, h1⟩, ?_⟩
      rw [e1, e1, h2]
theorem Inw.unb {n : Nat} {s : St} (h : Inw n s) {l b : Nat} (hb : b < 40) : s.un l b ≤ 30 := by
  by_cases q : l < 24
  · exact Nat.le_trans (sm_at (f := fun l => s.un l b) q) (h.bl_ b hb)
  · rw [h.un_ l b (by have := h.nl_; omega)]; omega
theorem Inv.unb {n : Nat} {s : St} (h : Inv n s) {l b : Nat} (hb : b < 40) : s.un l b ≤ 30 := h.1.unb hb
theorem Inw.bl0 {n : Nat} {s : St} (h : Inw n s) (b : Nat) : (s.bl b = 0) ↔ ∀ l, l < s.nl → s.un l b = 0 := by
  rw [h.bln b]
  constructor
  · intro q l hl
    have := sm_at (f := fun l => s.un l b) hl
    have this : s.un l b ≤ sm (fun l => s.un l b) s.nl := this
    omega
  · exact sm_0
theorem Inv.bl0 {n : Nat} {s : St} (h : Inv n s) (b : Nat) : (s.bl b = 0) ↔ ∀ l, l < s.nl → s.un l b = 0 := h.1.bl0 b
theorem nI_le0 {a : Nat} (h : a < 1000000) : nI a ≤ 0 ↔ a = 0 := by
  rw [show (0 : Int32) = nI 0 from rfl, nI_lei h (by decide)]
  omega
section Q4
variable {n : Nat} {s : St} {x y : Int32}
theorem sIvl_nI {n : Nat} {s : St} (h : Inv n s) {i : Nat} (hi : i < s.ni) : sIvl (nI (s.ct i)) = nI (iv (s.ct i)) := by
  rcases h.ct_ i hi with e | e | e <;> rw [e] <;> decide
theorem k_dayOfCount {b : Nat} {v : mmM} {K : mmO → mmM → Prop} (h : Inv n s) (hw : RepC v s) (hb : b < 40) (g : K (.inl (some (.int (nI (s.dd b))))) v) : mm_M kX5_dayOfCount [.ref 0, .int (nI b)] v K := by
  have hl := h.nl_
  have hni := h.ni_
  refine bX5_dayOfCount_0 ?_
  refine e_for (n := s.nl) (a0 := 20) (E := fun i a => mm_E kX5_dayOfCount 5 [.ref 0, .int (nI b), .int (nI a), .int (nI i)] [] v 0 K) (f := fun l a => if s.un l b = 0 then a else if iv (s.ct (s.it l)) < a then iv (s.ct (s.it l)) else a) (fun _ a => a ≤ 20) (Nat.le_refl _) ?_ ?_ ?_
  · intro i a _ ha
    split
    · exact ha
    · split
      · exact iv_le _
      · exact ha
  · intro i a hi ha ih
    refine bX5_dayOfCount_5 (fun q => absurd (hw.nl ▸ q) (ge_nI hi (by omega))) (fun _ => ?_)
    have hu := h.unb (l := i) hb
    have hit := h.it_ i hi
    have eu : v (20 + (nI i).toNatClampNeg) (nI b).toNatClampNeg = nI (s.un i b) := by rw [cl_nI (by omega), cl_nI (by omega), hw.un i (by omega)]
    refine bX5_dayOfCount_16 (in_nI (by omega) (by decide)) (in_nI hb (by decide)) (fun q => ?_) (fun q => ?_) <;> rw [eu, nI_le0 (by omega)] at q
    · refine bX5_dayOfCount_51 ?_
      rw [nI_1]
      rw [if_pos q] at ih
      exact ih
    · refine bX5_dayOfCount_30 (in_nI (by omega) (by decide)) (by decide) ?_
      rw [cl_nI (by omega), hw.it]
      refine m_intervalOf (by omega) (mm_Kr 0 rfl (bX5_dayOfCount_47 (bX5_dayOfCount_51 ?_)))
      rw [nI_1, hw.ct, sIvl_nI h hit]
      rw [if_neg q] at ih
      have := iv_le (s.ct (s.it i))
      have e : (nI (iv (s.ct (s.it i))) < nI a) ↔ iv (s.ct (s.it i)) < a := nI_lti (by omega) (by omega)
      by_cases q2 : iv (s.ct (s.it i)) < a
      · rw [if_pos (e.mpr q2)]; rw [if_pos q2] at ih; exact ih
      · rw [if_neg (fun z => q2 (e.mp z))]; rw [if_neg q2] at ih; exact ih
  · intro _
    refine bX5_dayOfCount_5 (fun _ => bX5_dayOfCount_57 (in_nI hb (by decide)) ?_) (fun q => absurd (hw.nl ▸ le_nI (Nat.le_refl s.nl) (by omega)) q)
    rw [cl_nI (by omega), hw.cn, nI_add]
    exact g
/-- what the model answers for the day of a bin -/
def St.dm (s : St) (b : Nat) : Int32 := if s.bl b = 0 then 2147483647 else nI (s.dd b)
theorem Inv.ddb {n : Nat} {s : St} (h : Inv n s) (b : Nat) : s.dd b ≤ 20000 := by
  have := h.cn_ b
  have := h.td_
  have := h.n_
  have := ddf_le s b 20 s.nl
  unfold St.dd
  omega
theorem nI_max {a : Nat} (h : a < 1000000) : nI a ≠ 2147483647 := fun e => by
  have : nI a = nI 2147483647 := e
  have := (nI_eq (by omega) (by omega)).mp this
  omega
theorem nI_max' {a : Nat} (h : a < 1000000) : ¬ (2147483647 : Int32) ≤ nI a := by
  rw [show (2147483647 : Int32) = nI 2147483647 from by decide, nI_leI (by omega) (by omega)]
  omega
/-- how many bins are due -/
def St.cd (s : St) : Nat := sm (fun b => if s.bl b = 0 then 0 else if s.dd b ≤ s.td then 1 else 0) 40
theorem k_countsDueC {v : mmM} {K : mmO → mmM → Prop} (h : Inv n s) (hw : RepC v s) (g : K (.inl (some (.int (nI s.cd)))) v) : mm_M kX5_countsDue [.ref 0] v K := by
  refine bX5_countsDue_0 ?_
  have htd := h.td_
  have hnn := h.n_
  refine e_for0 (n := 40) (a0 := 0) (E := fun i a => mm_E kX5_countsDue 4 [.ref 0, .int (nI a), .int (nI i)] [] v 0 K) (f := fun b a => a + (if s.bl b = 0 then 0 else if s.dd b ≤ s.td then 1 else 0)) ?_ ?_
  · intro i a hi ih
    have hbl := h.bl_ i hi
    have hdd := h.ddb i
    refine bX5_countsDue_4 (fun q => absurd q (ge_nI hi (by decide))) (fun _ => ?_)
    refine bX5_countsDue_10 (in_nI hi (by decide)) (fun q => ?_) (fun q => ?_) <;> rw [cl_nI (by omega), hw.bl, nI_le0 (by omega)] at q
    · refine bX5_countsDue_37 ?_
      rw [nI_1]
      rw [if_pos q] at ih
      exact ih
    · rw [if_neg q] at ih
      refine bX5_countsDue_22 (by decide) (k_dayOfCount h hw hi (mm_Kr 0 rfl ?_))
      refine bX5_countsDue_27 (fun q2 => ?_) (fun q2 => ?_) <;> rw [hw.td, nI_lti (by omega) (by omega)] at q2
      · refine bX5_countsDue_37 ?_
        rw [nI_1]
        rw [if_neg (by omega)] at ih
        exact ih
      · refine bX5_countsDue_34 (bX5_countsDue_37 ?_)
        rw [nI_1, nI_1]
        rw [if_pos (by omega)] at ih
        exact ih
  · refine bX5_countsDue_4 (fun _ => bX5_countsDue_43 ?_) (fun q => absurd (le_nI (Nat.le_refl 40) (by decide)) q)
    have : ∀ m, fo (fun b a => a + (if s.bl b = 0 then 0 else if s.dd b ≤ s.td then 1 else 0)) 0 m = sm (fun b => if s.bl b = 0 then 0 else if s.dd b ≤ s.td then 1 else 0) m := by
      intro m
      induction m with
      | zero => rfl
      | succ m ih => unfold fo sm; rw [ih]
    rw [this]
    exact g
/-- the next bin to count: 0 none, b + 1 the bin b -/
def ncf (s : St) (i a : Nat) : Nat := if s.bl (rt i) = 0 then a else if a = 0 ∨ s.dd (rt i) < s.dd (a - 1) then rt i + 1 else a
def St.nc (s : St) : Nat := fo (ncf s) 0 40
theorem ncf_I {i a : Nat} (hi : i < 40) (ha : a ≤ 40 ∧ (a ≠ 0 → s.bl (a - 1) ≠ 0)) : ncf s i a ≤ 40 ∧ (ncf s i a ≠ 0 → s.bl (ncf s i a - 1) ≠ 0) := by
  have := rt_lt hi
  unfold ncf
  split
  · exact ha
  · rename_i q
    split
    · exact ⟨by omega, fun _ => q⟩
    · exact ha
theorem m1_nI {a : Nat} (h : a < 1000000) : (nI a - 1 = -1) ↔ a = 0 := by
  constructor
  · intro q
    have : nI a = nI 0 := by rw [← Int32.sub_add_cancel (nI a) 1, q]; decide
    exact (nI_eq (by omega) (by omega)).mp this
  · intro q
    subst q
    decide
theorem m1_p {a : Nat} (h : a ≠ 0) : nI a - 1 = nI (a - 1) := by
  obtain ⟨b, rfl⟩ : ∃ b, a = b + 1 := ⟨a - 1, by omega⟩
  exact nI_pred b
theorem k_nextCountC {v : mmM} {K : mmO → mmM → Prop} (h : Inv n s) (hw : RepC v s) (g0 : s.nc = 0 → K (.inr 4) v) (g : s.nc ≠ 0 → K (.inl (some (.int (nI (s.nc - 1))))) v) : mm_M kX5_nextCount [.ref 0] v K := by
  refine bX5_nextCount_0 ?_
  have : ∀ l4 : Value, mm_E kX5_nextCount 6 [.ref 0, .int (nI 0 - 1), .int (nI 0), .int (nI 0), l4] [] v 0 K := by
    refine e_for (n := 40) (a0 := (0, 0)) (E := fun i (a : Nat × Nat) => ∀ l4 : Value, mm_E kX5_nextCount 6 [.ref 0, .int (nI a.1 - 1), .int (nI a.2), .int (nI i), l4] [] v 0 K) (f := fun i a => (ncf s i a.1, if ncf s i a.1 = 0 then 0 else s.dd (ncf s i a.1 - 1))) (fun i a => a.1 = fo (ncf s) 0 i ∧ (a.1 ≤ 40 ∧ (a.1 ≠ 0 → s.bl (a.1 - 1) ≠ 0)) ∧ a.2 = if a.1 = 0 then 0 else s.dd (a.1 - 1)) ⟨rfl, ⟨by decide, fun q => absurd rfl q⟩, rfl⟩ ?_ ?_ ?_
    · rintro i ⟨a, d⟩ hi ⟨h1, h2, h3⟩
      refine ⟨?_, ncf_I hi h2, rfl⟩
      show ncf s i a = ncf s i (fo (ncf s) 0 i)
      rw [← h1]
    · rintro i ⟨a, d⟩ hi ⟨h1, h2, h3⟩ ih l4
      simp only at h1 h2 h3 ih ⊢
      have hr := rt_lt hi
      have hbl := h.bl_ (rt i) hr
      have hdd := h.ddb (rt i)
      refine bX5_nextCount_6 (fun q => absurd q (ge_nI hi (by decide))) (fun _ => bX5_nextCount_12 (by decide) (m_alongRoute hi (mm_Kr 0 rfl ?_)))
      refine bX5_nextCount_16 (in_nI hr (by decide)) (fun q => ?_) (fun q => ?_) <;> rw [cl_nI (by omega), hw.bl, nI_le0 (by omega)] at q
      · have e : ncf s i a = a := if_pos q
        rw [e, ← h3] at ih
        refine bX5_nextCount_56 ?_
        rw [nI_1]
        exact ih _
      · have take : (a = 0 ∨ s.dd (rt i) < s.dd (a - 1)) → mm_E kX5_nextCount 46 [.ref 0, .int (nI a - 1), .int (nI d), .int (nI i), .int (nI (rt i))] [] v 0 K := by
          intro hq
          have e : ncf s i a = rt i + 1 := by unfold ncf; rw [if_neg q, if_pos hq]
          rw [e, if_neg (by omega), nI_pred, Nat.add_sub_cancel] at ih
          refine bX5_nextCount_46 (by decide) (k_dayOfCount h hw hr (mm_Kr 0 rfl (bX5_nextCount_55 (bX5_nextCount_56 ?_))))
          rw [nI_1]
          exact ih _
        refine bX5_nextCount_31 (fun q2 => take (Or.inl ((m1_nI (by omega)).mp q2))) (fun q2 => ?_)
        have ha0 : a ≠ 0 := fun z => q2 ((m1_nI (by omega)).mpr z)
        rw [if_neg ha0] at h3
        have hd2 := h.ddb (a - 1)
        refine bX5_nextCount_36 (by decide) (k_dayOfCount h hw hr (mm_Kr 0 rfl ?_))
        refine bX5_nextCount_42 (fun q3 => ?_) (fun q3 => ?_) <;> rw [h3, nI_lei (by omega) (by omega)] at q3
        · have e : ncf s i a = a := by unfold ncf; rw [if_neg q, if_neg (by omega)]
          rw [e, if_neg ha0] at ih
          refine bX5_nextCount_56 ?_
          rw [nI_1, h3]
          exact ih _
        · exact take (Or.inr (by omega))
    · rintro ⟨h1, h2, h3⟩ l4
      have e1 : (fo (fun i (a : Nat × Nat) => (ncf s i a.1, if ncf s i a.1 = 0 then 0 else s.dd (ncf s i a.1 - 1))) (0, 0) 40).1 = s.nc := h1
      refine bX5_nextCount_6 (fun _ => ?_) (fun q => absurd (le_nI (Nat.le_refl 40) (by decide)) q)
      rw [e1] at h2 ⊢
      refine bX5_nextCount_62 (fun q => bX5_nextCount_67 (by decide) (g0 ((m1_nI (by omega)).mp q))) (fun q => bX5_nextCount_77 ?_)
      have h0 : s.nc ≠ 0 := fun z => q ((m1_nI (by omega)).mpr z)
      rw [m1_p h0]
      exact g h0
  exact this _
end Q4
