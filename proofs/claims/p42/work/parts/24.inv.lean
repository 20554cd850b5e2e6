/-! the invariant; what one call of the law shows -/
def St.sk (s : St) (i d : Nat) : Nat := sm (fun l => if s.it l = i ∧ d ≤ s.ex l then s.lu l else 0) s.nl
def St.pr (s : St) (i d : Nat) : Nat := sm (fun p => if s.st p = 111 ∧ d ≤ s.du p then s.q p i else 0) s.np
/-- a line lies before another along the route -/
def lx (b l b2 l2 : Nat) : Prop := rt b < rt b2 ∨ (b = b2 ∧ l < l2)
/-- all but that the promises are covered -/
def Inw (n : Nat) (s : St) : Prop := (n ≤ 600) ∧ (s.ni ≤ 6) ∧ (s.nl ≤ 24) ∧ (s.np ≤ 20) ∧ (s.ne ≤ 150) ∧ (s.td ≤ 30 * n) ∧ (∀ i, i < s.ni → s.ct i = 65 ∨ s.ct i = 66 ∨ s.ct i = 67) ∧ (∀ i j, s.rk i j ≤ 9) ∧ (∀ i, s.rk i i = 0) ∧ (∀ l, l < s.nl → s.it l < s.ni) ∧ (∀ l, l < s.nl → s.ex l ≤ s.td + 99) ∧ (∀ k, k < s.nl → s.od k < s.nl) ∧ (∀ f : Nat → Nat, sm (fun k => f (s.od k)) s.nl = sm f s.nl) ∧ (∀ j k, j ≤ k → k < s.nl → s.ex (s.od j) ≤ s.ex (s.od k)) ∧ (∀ l b, s.nl ≤ l → s.un l b = 0) ∧ (∀ b, b < 40 → s.bl b ≤ 30) ∧ (∀ b, s.cn b ≤ s.td) ∧ (∀ p, p < s.np → s.st p = 111 → s.td ≤ s.du p ∧ s.du p ≤ s.td + 60) ∧ (∀ p, p < s.np → sm (s.q p) 6 ≤ 60) ∧ (∀ p, s.st p ≤ 120) ∧ (∀ e, e < s.ne → s.jl e < s.nl) ∧ (∀ e, e < s.ne → s.jf e ≤ 40) ∧ (∀ e, e < s.ne → s.jt e ≤ 40) ∧ (∀ e, e < s.ne → s.jq e ≤ 60) ∧ (∀ e, e < s.ne → s.jd e ≤ s.td) ∧ (∀ e, s.kd e ≤ 120) ∧ (∀ l b, l < s.nl → b < 40 → sm (fun e => if s.jl e = l ∧ s.jt e = b + 1 then s.jq e else 0) s.ne = s.un l b + sm (fun e => if s.jl e = l ∧ s.jf e = b + 1 then s.jq e else 0) s.ne) ∧ (∀ p, p < s.np → s.st p = 112 → s.lc p ≤ 60 ∧ s.fe p + s.lc p ≤ s.ne ∧ (∀ k, k < s.lc p → 0 < s.jf (s.fe p + k)) ∧ ∀ k, k + 1 < s.lc p → lx (s.jf (s.fe p + k) - 1) (s.jl (s.fe p + k)) (s.jf (s.fe p + (k + 1)) - 1) (s.jl (s.fe p + (k + 1))))
def Inv (n : Nat) (s : St) : Prop := Inw n s ∧ (∀ i d, i < 6 → s.td ≤ d → s.pr i d ≤ s.sk i d)
theorem Inw.n_ {n : Nat} {s : St} (h : Inw n s) : n ≤ 600 := h.1
theorem Inv.n_ {n : Nat} {s : St} (h : Inv n s) : n ≤ 600 := h.1.n_
theorem Inw.ni_ {n : Nat} {s : St} (h : Inw n s) : s.ni ≤ 6 := h.2.1
theorem Inv.ni_ {n : Nat} {s : St} (h : Inv n s) : s.ni ≤ 6 := h.1.ni_
theorem Inw.nl_ {n : Nat} {s : St} (h : Inw n s) : s.nl ≤ 24 := h.2.2.1
theorem Inv.nl_ {n : Nat} {s : St} (h : Inv n s) : s.nl ≤ 24 := h.1.nl_
theorem Inw.np_ {n : Nat} {s : St} (h : Inw n s) : s.np ≤ 20 := h.2.2.2.1
theorem Inv.np_ {n : Nat} {s : St} (h : Inv n s) : s.np ≤ 20 := h.1.np_
theorem Inw.ne_ {n : Nat} {s : St} (h : Inw n s) : s.ne ≤ 150 := h.2.2.2.2.1
theorem Inv.ne_ {n : Nat} {s : St} (h : Inv n s) : s.ne ≤ 150 := h.1.ne_
theorem Inw.td_ {n : Nat} {s : St} (h : Inw n s) : s.td ≤ 30 * n := h.2.2.2.2.2.1
theorem Inv.td_ {n : Nat} {s : St} (h : Inv n s) : s.td ≤ 30 * n := h.1.td_
theorem Inw.ct_ {n : Nat} {s : St} (h : Inw n s) : ∀ i, i < s.ni → s.ct i = 65 ∨ s.ct i = 66 ∨ s.ct i = 67 := h.2.2.2.2.2.2.1
theorem Inv.ct_ {n : Nat} {s : St} (h : Inv n s) : ∀ i, i < s.ni → s.ct i = 65 ∨ s.ct i = 66 ∨ s.ct i = 67 := h.1.ct_
theorem Inw.rk_ {n : Nat} {s : St} (h : Inw n s) : ∀ i j, s.rk i j ≤ 9 := h.2.2.2.2.2.2.2.1
theorem Inv.rk_ {n : Nat} {s : St} (h : Inv n s) : ∀ i j, s.rk i j ≤ 9 := h.1.rk_
theorem Inw.rk0_ {n : Nat} {s : St} (h : Inw n s) : ∀ i, s.rk i i = 0 := h.2.2.2.2.2.2.2.2.1
theorem Inv.rk0_ {n : Nat} {s : St} (h : Inv n s) : ∀ i, s.rk i i = 0 := h.1.rk0_
theorem Inw.it_ {n : Nat} {s : St} (h : Inw n s) : ∀ l, l < s.nl → s.it l < s.ni := h.2.2.2.2.2.2.2.2.2.1
theorem Inv.it_ {n : Nat} {s : St} (h : Inv n s) : ∀ l, l < s.nl → s.it l < s.ni := h.1.it_
theorem Inw.ex_ {n : Nat} {s : St} (h : Inw n s) : ∀ l, l < s.nl → s.ex l ≤ s.td + 99 := h.2.2.2.2.2.2.2.2.2.2.1
theorem Inv.ex_ {n : Nat} {s : St} (h : Inv n s) : ∀ l, l < s.nl → s.ex l ≤ s.td + 99 := h.1.ex_
theorem Inw.od_ {n : Nat} {s : St} (h : Inw n s) : ∀ k, k < s.nl → s.od k < s.nl := h.2.2.2.2.2.2.2.2.2.2.2.1
theorem Inv.od_ {n : Nat} {s : St} (h : Inv n s) : ∀ k, k < s.nl → s.od k < s.nl := h.1.od_
theorem Inw.ods_ {n : Nat} {s : St} (h : Inw n s) : ∀ f : Nat → Nat, sm (fun k => f (s.od k)) s.nl = sm f s.nl := h.2.2.2.2.2.2.2.2.2.2.2.2.1
theorem Inv.ods_ {n : Nat} {s : St} (h : Inv n s) : ∀ f : Nat → Nat, sm (fun k => f (s.od k)) s.nl = sm f s.nl := h.1.ods_
theorem Inw.odl_ {n : Nat} {s : St} (h : Inw n s) : ∀ j k, j ≤ k → k < s.nl → s.ex (s.od j) ≤ s.ex (s.od k) := h.2.2.2.2.2.2.2.2.2.2.2.2.2.1
theorem Inv.odl_ {n : Nat} {s : St} (h : Inv n s) : ∀ j k, j ≤ k → k < s.nl → s.ex (s.od j) ≤ s.ex (s.od k) := h.1.odl_
theorem Inw.un_ {n : Nat} {s : St} (h : Inw n s) : ∀ l b, s.nl ≤ l → s.un l b = 0 := h.2.2.2.2.2.2.2.2.2.2.2.2.2.2.1
theorem Inv.un_ {n : Nat} {s : St} (h : Inv n s) : ∀ l b, s.nl ≤ l → s.un l b = 0 := h.1.un_
theorem Inw.bl_ {n : Nat} {s : St} (h : Inw n s) : ∀ b, b < 40 → s.bl b ≤ 30 := h.2.2.2.2.2.2.2.2.2.2.2.2.2.2.2.1
theorem Inv.bl_ {n : Nat} {s : St} (h : Inv n s) : ∀ b, b < 40 → s.bl b ≤ 30 := h.1.bl_
theorem Inw.cn_ {n : Nat} {s : St} (h : Inw n s) : ∀ b, s.cn b ≤ s.td := h.2.2.2.2.2.2.2.2.2.2.2.2.2.2.2.2.1
theorem Inv.cn_ {n : Nat} {s : St} (h : Inv n s) : ∀ b, s.cn b ≤ s.td := h.1.cn_
theorem Inw.du_ {n : Nat} {s : St} (h : Inw n s) : ∀ p, p < s.np → s.st p = 111 → s.td ≤ s.du p ∧ s.du p ≤ s.td + 60 := h.2.2.2.2.2.2.2.2.2.2.2.2.2.2.2.2.2.1
theorem Inv.du_ {n : Nat} {s : St} (h : Inv n s) : ∀ p, p < s.np → s.st p = 111 → s.td ≤ s.du p ∧ s.du p ≤ s.td + 60 := h.1.du_
theorem Inw.q_ {n : Nat} {s : St} (h : Inw n s) : ∀ p, p < s.np → sm (s.q p) 6 ≤ 60 := h.2.2.2.2.2.2.2.2.2.2.2.2.2.2.2.2.2.2.1
theorem Inv.q_ {n : Nat} {s : St} (h : Inv n s) : ∀ p, p < s.np → sm (s.q p) 6 ≤ 60 := h.1.q_
theorem Inw.st_ {n : Nat} {s : St} (h : Inw n s) : ∀ p, s.st p ≤ 120 := h.2.2.2.2.2.2.2.2.2.2.2.2.2.2.2.2.2.2.2.1
theorem Inv.st_ {n : Nat} {s : St} (h : Inv n s) : ∀ p, s.st p ≤ 120 := h.1.st_
theorem Inw.jl_ {n : Nat} {s : St} (h : Inw n s) : ∀ e, e < s.ne → s.jl e < s.nl := h.2.2.2.2.2.2.2.2.2.2.2.2.2.2.2.2.2.2.2.2.1
theorem Inv.jl_ {n : Nat} {s : St} (h : Inv n s) : ∀ e, e < s.ne → s.jl e < s.nl := h.1.jl_
theorem Inw.jf_ {n : Nat} {s : St} (h : Inw n s) : ∀ e, e < s.ne → s.jf e ≤ 40 := h.2.2.2.2.2.2.2.2.2.2.2.2.2.2.2.2.2.2.2.2.2.1
theorem Inv.jf_ {n : Nat} {s : St} (h : Inv n s) : ∀ e, e < s.ne → s.jf e ≤ 40 := h.1.jf_
theorem Inw.jt_ {n : Nat} {s : St} (h : Inw n s) : ∀ e, e < s.ne → s.jt e ≤ 40 := h.2.2.2.2.2.2.2.2.2.2.2.2.2.2.2.2.2.2.2.2.2.2.1
theorem Inv.jt_ {n : Nat} {s : St} (h : Inv n s) : ∀ e, e < s.ne → s.jt e ≤ 40 := h.1.jt_
theorem Inw.jq_ {n : Nat} {s : St} (h : Inw n s) : ∀ e, e < s.ne → s.jq e ≤ 60 := h.2.2.2.2.2.2.2.2.2.2.2.2.2.2.2.2.2.2.2.2.2.2.2.1
theorem Inv.jq_ {n : Nat} {s : St} (h : Inv n s) : ∀ e, e < s.ne → s.jq e ≤ 60 := h.1.jq_
theorem Inw.jd_ {n : Nat} {s : St} (h : Inw n s) : ∀ e, e < s.ne → s.jd e ≤ s.td := h.2.2.2.2.2.2.2.2.2.2.2.2.2.2.2.2.2.2.2.2.2.2.2.2.1
theorem Inv.jd_ {n : Nat} {s : St} (h : Inv n s) : ∀ e, e < s.ne → s.jd e ≤ s.td := h.1.jd_
theorem Inw.kd_ {n : Nat} {s : St} (h : Inw n s) : ∀ e, s.kd e ≤ 120 := h.2.2.2.2.2.2.2.2.2.2.2.2.2.2.2.2.2.2.2.2.2.2.2.2.2.1
theorem Inv.kd_ {n : Nat} {s : St} (h : Inv n s) : ∀ e, s.kd e ≤ 120 := h.1.kd_
theorem Inw.js_ {n : Nat} {s : St} (h : Inw n s) : ∀ l b, l < s.nl → b < 40 → sm (fun e => if s.jl e = l ∧ s.jt e = b + 1 then s.jq e else 0) s.ne = s.un l b + sm (fun e => if s.jl e = l ∧ s.jf e = b + 1 then s.jq e else 0) s.ne := h.2.2.2.2.2.2.2.2.2.2.2.2.2.2.2.2.2.2.2.2.2.2.2.2.2.2.1
theorem Inv.js_ {n : Nat} {s : St} (h : Inv n s) : ∀ l b, l < s.nl → b < 40 → sm (fun e => if s.jl e = l ∧ s.jt e = b + 1 then s.jq e else 0) s.ne = s.un l b + sm (fun e => if s.jl e = l ∧ s.jf e = b + 1 then s.jq e else 0) s.ne := h.1.js_
theorem Inw.pk_ {n : Nat} {s : St} (h : Inw n s) : ∀ p, p < s.np → s.st p = 112 → s.lc p ≤ 60 ∧ s.fe p + s.lc p ≤ s.ne ∧ (∀ k, k < s.lc p → 0 < s.jf (s.fe p + k)) ∧ ∀ k, k + 1 < s.lc p → lx (s.jf (s.fe p + k) - 1) (s.jl (s.fe p + k)) (s.jf (s.fe p + (k + 1)) - 1) (s.jl (s.fe p + (k + 1))) := h.2.2.2.2.2.2.2.2.2.2.2.2.2.2.2.2.2.2.2.2.2.2.2.2.2.2.2
theorem Inv.pk_ {n : Nat} {s : St} (h : Inv n s) : ∀ p, p < s.np → s.st p = 112 → s.lc p ≤ 60 ∧ s.fe p + s.lc p ≤ s.ne ∧ (∀ k, k < s.lc p → 0 < s.jf (s.fe p + k)) ∧ ∀ k, k + 1 < s.lc p → lx (s.jf (s.fe p + k) - 1) (s.jl (s.fe p + k)) (s.jf (s.fe p + (k + 1)) - 1) (s.jl (s.fe p + (k + 1))) := h.1.pk_
theorem Inv.cv_ {n : Nat} {s : St} (h : Inv n s) : ∀ i d, i < 6 → s.td ≤ d → s.pr i d ≤ s.sk i d := h.2
/-- after a step -/
theorem Inv.nx {n : Nat} {s : St} (h : Inv n s) (hn : n + 1 ≤ 600) : Inv (n + 1) s := ⟨⟨hn, h.ni_, h.nl_, h.np_, h.ne_, Nat.le_trans h.td_ (by omega), h.1.2.2.2.2.2.2⟩, h.2⟩
def opC (j : Nat) (ar : List Value) (s s' : St) (o : mmO) : Prop := ∀ w, RepC w s → ∀ K : mmO → mmM → Prop, (∀ w', RepC w' s' → fC w w' → K o w') → mm_M j ar w K
/-- a call of the class that changes it: its answer and what then holds; or an exception that the law's method catches, and nothing is changed -/
def Op (j jl n : Nat) (ar : List Value) (s : St) (X : St → Prop) : Prop := (∃ (s' : St) (r : Int32), Inv n s' ∧ (0 ≤ r.toInt ∧ X s') ∧ opC j (.ref 0 :: ar) s s' (.inl (some (.int r)))) ∨ (∃ e x, mm_hd jl e = some x ∧ x.toInt < -1000 ∧ Inv n s ∧ opC j (.ref 0 :: ar) s s (.inr e))
theorem Op.ok {j jl n : Nat} {ar : List Value} {s : St} {X : St → Prop} (s' : St) (r : Int32) (hi : Inv n s') (hx : 0 ≤ r.toInt ∧ X s') (hc : opC j (.ref 0 :: ar) s s' (.inl (some (.int r)))) : Op j jl n ar s X := Or.inl ⟨s', r, hi, hx, hc⟩
def hdC (jl e : Nat) : Bool := match mm_hd jl e with
  | some x => decide (x.toInt < -1000)
  | none => false
theorem Op.no {j jl n : Nat} {ar : List Value} {s : St} {X : St → Prop} (e : Nat) (hi : Inv n s) (hd : hdC jl e = true) (hc : opC j (.ref 0 :: ar) s s (.inr e)) : Op j jl n ar s X := by
  unfold hdC at hd
  split at hd
  · rename_i x hx
    exact Or.inr ⟨e, x, hx, of_decide_eq_true hd, hi, hc⟩
  · cases hd
/-- lots from a day on; promises from a day on; as numbers -/
theorem sFrom_nI {s : St} {n : Nat} (h : Inw n s) {i d : Nat} (hi : i < 100) (hd : d < 100000) : sFrom (fun l => nI (s.it l)) (fun l => nI (s.ex l)) (fun l => nI (s.lu l)) (nI i) (nI d) s.nl = nI (s.sk i d) := by
  have h1 := h.n_; have h2 := h.td_; have h3 := h.ni_
  have : sFrom (fun l => nI (s.it l)) (fun l => nI (s.ex l)) (fun l => nI (s.lu l)) (nI i) (nI d) s.nl = fo (fun l a => if s.it l = i ∧ d ≤ s.ex l then a + nI (s.lu l) else a) (nI 0) s.nl := by
    refine fo_cong fun l a hl => ?_
    have h4 := h.it_ l hl
    have h5 := h.ex_ l hl
    have e1 : (nI (s.it l) = nI i) ↔ s.it l = i := nI_eq (by omega) (by omega)
    have e2 : (nI d ≤ nI (s.ex l)) ↔ d ≤ s.ex l := nI_lei (by omega) (by omega)
    by_cases q : s.it l = i ∧ d ≤ s.ex l
    · rw [if_pos ⟨e1.mpr q.1, e2.mpr q.2⟩, if_pos q]
    · rw [if_neg (fun z => q ⟨e1.mp z.1, e2.mp z.2⟩), if_neg q]
  rw [this, fo_nI (c := fun l => s.it l = i ∧ d ≤ s.ex l) (y := s.lu), Nat.zero_add]
  rfl
theorem sProm_nI {s : St} {n : Nat} (h : Inw n s) {i d : Nat} {q : Nat → Int32} (hq : ∀ p, p < s.np → q p = nI (s.q p i)) (hd : d < 100000) : sProm (fun p => nI (s.st p)) (fun p => nI (s.du p)) q (nI d) s.np = nI (s.pr i d) := by
  have h1 := h.n_; have h2 := h.td_
  have : sProm (fun p => nI (s.st p)) (fun p => nI (s.du p)) q (nI d) s.np = fo (fun p a => if s.st p = 111 ∧ d ≤ s.du p then a + nI (s.q p i) else a) (nI 0) s.np := by
    refine fo_cong fun p a hp => ?_
    have h4 := h.st_ p
    have e1 : (nI (s.st p) = 111) ↔ s.st p = 111 := nI_eq (b := 111) (by omega) (by omega)
    by_cases q0 : s.st p = 111
    · have h5 := h.du_ p hp q0
      have e2 : (nI d ≤ nI (s.du p)) ↔ d ≤ s.du p := nI_lei (by omega) (by omega)
      by_cases q2 : d ≤ s.du p
      · rw [if_pos ⟨e1.mpr q0, e2.mpr q2⟩, if_pos ⟨q0, q2⟩, hq p hp]
      · rw [if_neg (fun z => q2 (e2.mp z.2)), if_neg (fun z => q2 z.2)]
    · rw [if_neg (fun z => q0 (e1.mp z.1)), if_neg (fun z => q0 z.1)]
  rw [this, fo_nI (c := fun p => s.st p = 111 ∧ d ≤ s.du p) (y := fun p => s.q p i), Nat.zero_add]
  rfl
