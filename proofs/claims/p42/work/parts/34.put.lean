/-! units change, an entry is written -/
def St.jn (s : St) (kd l f t q : Nat) : St := (((((((s.set 3 (fun _ _ => s.ne + 1)).set 17 (fun _ => updN s.kd s.ne kd)).set 18 (fun _ => updN s.jl s.ne l)).set 19 (fun _ => updN s.jf s.ne f)).set 20 (fun _ => updN s.jt s.ne t)).set 21 (fun _ => updN s.jq s.ne q)).set 22 (fun _ => updN s.jd s.ne s.td))
section PU
variable {n : Nat} {s : St} {v : mmM}
theorem lu_upd2 {l b x : Nat} (hb : b < 40) (l2 : Nat) : (s.set 10 (upd2 s.un l b x)).lu l2 + (if l2 = l then s.un l b else 0) = s.lu l2 + (if l2 = l then x else 0) := by
  by_cases e : l2 = l
  · subst e
    rw [if_pos rfl, if_pos rfl]
    have := sm_one (f := s.un l2) (g := upd2 s.un l2 b x l2) (j := b) (n := 40) hb (fun i hi => by unfold upd2; exact if_neg (fun q => hi q.2))
    have e2 : upd2 s.un l2 b x l2 b = x := if_pos ⟨rfl, rfl⟩
    rw [e2] at this
    exact this
  · rw [if_neg e, if_neg e]
    show sm (upd2 s.un l b x l2) 40 + 0 = sm (s.un l2) 40 + 0
    rw [upd2_ne e]
theorem bl_upd2 {l b x : Nat} (hl : l < 24) (b2 : Nat) : (s.set 10 (upd2 s.un l b x)).bl b2 + (if b2 = b then s.un l b else 0) = s.bl b2 + (if b2 = b then x else 0) := by
  by_cases e : b2 = b
  · subst e
    rw [if_pos rfl, if_pos rfl]
    have := sm_one (f := fun l => s.un l b2) (g := fun a => upd2 s.un l b2 x a b2) (j := l) (n := 24) hl (fun i hi => by show upd2 s.un l b2 x i b2 = s.un i b2; rw [upd2_ne hi])
    have e2 : upd2 s.un l b2 x l b2 = x := if_pos ⟨rfl, rfl⟩
    simp only [e2] at this
    exact this
  · rw [if_neg e, if_neg e]
    show sm (fun a => upd2 s.un l b x a b2) 24 + 0 = sm (fun a => s.un a b2) 24 + 0
    rw [sm_cong (f := fun a => upd2 s.un l b x a b2) (g := fun a => s.un a b2) (fun a _ => if_neg (fun q => e q.2))]
/-- the same difference for sums -/
theorem d_nI {a x c y : Nat} {d : Int32} (hd : nI a + d = nI x) (h : y + a = c + x) : nI c + d = nI y := by
  have e : d = nI x - nI a := by rw [← hd, Int32.add_comm, Int32.add_sub_cancel]
  rw [e, Int32.sub_eq_add_neg, ← Int32.add_assoc, nI_add, ← h, ← nI_add, Int32.add_assoc, ← Int32.sub_eq_add_neg, Int32.sub_self, Int32.add_zero]
theorem RepC.ch {l b x : Nat} {d : Int32} (hw : RepC v s) (hl : l < 24) (hb : b < 40) (hd : nI (s.un l b) + d = nI x) : RepC (cCh v l b d) (s.set 10 (upd2 s.un l b x)) := by
  have e1 : v (20 + l) b + d = nI x := by rw [hw.un l hl]; exact hd
  have e2 : v 44 l + d = nI ((s.set 10 (upd2 s.un l b x)).lu l) := by
    rw [hw.lu]
    refine d_nI hd ?_
    have := lu_upd2 (s := s) (l := l) (x := x) hb l
    rw [if_pos rfl, if_pos rfl] at this
    exact this
  have e3 : v 45 b + d = nI ((s.set 10 (upd2 s.un l b x)).bl b) := by
    rw [hw.bl]
    refine d_nI hd ?_
    have := bl_upd2 (s := s) (b := b) (x := x) hl b
    rw [if_pos rfl, if_pos rfl] at this
    exact this
  unfold cCh
  rw [e1, e2, e3]
  refine hw.c_un (fun i hi => by rw [mm_up_row (by omega), mm_up_row (by omega), mm_up_row (by omega)]) (fun a ha => ?_) ?_ ?_
  · rw [mm_up_row (by omega), mm_up_row (by omega)]
    exact rows_nI hw.un hl a ha
  · rw [mm_up_row (by decide)]
    have : mm_up v (20 + l) b (nI x) 44 = fun j => nI (s.lu j) := by rw [mm_up_row (by omega)]; exact hw.lu
    rw [row_nI this]
    funext j
    by_cases e : j = l
    · subst e; rw [updN_at]
    · rw [updN_ne e]
      have := lu_upd2 (s := s) (l := l) (x := x) hb j
      rw [if_neg e, if_neg e, Nat.add_zero, Nat.add_zero] at this
      rw [this]
  · have : mm_up (mm_up v (20 + l) b (nI x)) 44 l (nI ((s.set 10 (upd2 s.un l b x)).lu l)) 45 = fun j => nI (s.bl j) := by rw [mm_up_row (by decide), mm_up_row (by omega)]; exact hw.bl
    rw [row_nI this]
    funext j
    by_cases e : j = b
    · subst e; rw [updN_at]
    · rw [updN_ne e]
      have := bl_upd2 (s := s) (b := b) (x := x) hl j
      rw [if_neg e, if_neg e, Nat.add_zero, Nat.add_zero] at this
      rw [this]
theorem cCh_fC {l b : Nat} {d : Int32} (hl : l < 24) : fC v (cCh v l b d) := fun i hi => by unfold cCh; rw [mm_up_row (by omega), mm_up_row (by omega), mm_up_row (by omega)]
theorem row1_nI {v : mmM} {i n x : Nat} {f : Nat → Nat} (h : v i = fun j => nI (f j) - 1) : mm_up v i n (nI x - 1) i = fun j => nI (updN f n x j) - 1 := by
  rw [mm_up_at, h]
  funext j
  unfold upd updN
  by_cases e : j = n
  · rw [if_pos e, if_pos e]
  · rw [if_neg e, if_neg e]
theorem RepC.wr {kd l f t q : Nat} (hw : RepC v s) : RepC (cWr v s.ne (nI kd) (nI l) (nI f - 1) (nI t - 1) (nI q) (nI s.td)) (s.jn kd l f t q) := by
  unfold cWr
  refine hw.c_ne_kd_jl_jf_jt_jq_jd (fun i hi => ?_) mm_up_same ?_ ?_ ?_ ?_ ?_ ?_
  · rw [mm_up_row (by omega), mm_up_row (by omega), mm_up_row (by omega), mm_up_row (by omega), mm_up_row (by omega), mm_up_row (by omega), mm_up_row (by omega)]
  · rw [mm_up_row (by decide), mm_up_row (by decide), mm_up_row (by decide), mm_up_row (by decide), mm_up_row (by decide), mm_up_row (by decide)]
    exact row_nI hw.kd
  · rw [mm_up_row (by decide), mm_up_row (by decide), mm_up_row (by decide), mm_up_row (by decide), mm_up_row (by decide)]
    exact row_nI (by rw [mm_up_row (by decide)]; exact hw.jl)
  · rw [mm_up_row (by decide), mm_up_row (by decide), mm_up_row (by decide), mm_up_row (by decide)]
    exact row1_nI (by rw [mm_up_row (by decide), mm_up_row (by decide)]; exact hw.jf)
  · rw [mm_up_row (by decide), mm_up_row (by decide), mm_up_row (by decide)]
    exact row1_nI (by rw [mm_up_row (by decide), mm_up_row (by decide), mm_up_row (by decide)]; exact hw.jt)
  · rw [mm_up_row (by decide), mm_up_row (by decide)]
    exact row_nI (by rw [mm_up_row (by decide), mm_up_row (by decide), mm_up_row (by decide), mm_up_row (by decide)]; exact hw.jq)
  · rw [mm_up_row (by decide)]
    exact row_nI (by rw [mm_up_row (by decide), mm_up_row (by decide), mm_up_row (by decide), mm_up_row (by decide), mm_up_row (by decide)]; exact hw.jd)
theorem cWr_fC {m : Nat} {kd l f t q d : Int32} : fC v (cWr v m kd l f t q d) := fun i hi => by unfold cWr; rw [mm_up_row (by omega), mm_up_row (by omega), mm_up_row (by omega), mm_up_row (by omega), mm_up_row (by omega), mm_up_row (by omega), mm_up_row (by omega)]
/-- sums over the journal with one entry more -/
theorem sm_app {F G : Nat → Nat} {m : Nat} (h : ∀ e, e < m → G e = F e) : sm G (m + 1) = sm F m + G m := by
  show sm G m + G m = sm F m + G m
  rw [sm_cong h]
theorem jn_lt {n : Nat} {s : St} (h : Inw n s) {P : Nat → Prop} {f : Nat → Nat} {x : Nat} (hf : ∀ e, e < s.ne → P (f e)) (hx : P x) : ∀ e, e < s.ne + 1 → P (updN f s.ne x e) := by
  intro e he
  by_cases q : e = s.ne
  · subst q; rw [updN_at]; exact hx
  · rw [updN_ne q]; exact hf e (by omega)
theorem js_jn {n : Nat} {s : St} (h : Inw n s) {u : Nat → Nat → Nat} {l f t q l2 b2 : Nat} (hl2 : l2 < s.nl) (hb2 : b2 < 40) (hc : s.un l2 b2 + (if l = l2 ∧ t = b2 + 1 then q else 0) = u l2 b2 + (if l = l2 ∧ f = b2 + 1 then q else 0)) :
    sm (fun e => if updN s.jl s.ne l e = l2 ∧ updN s.jt s.ne t e = b2 + 1 then updN s.jq s.ne q e else 0) (s.ne + 1) = u l2 b2 + sm (fun e => if updN s.jl s.ne l e = l2 ∧ updN s.jf s.ne f e = b2 + 1 then updN s.jq s.ne q e else 0) (s.ne + 1) := by
  rw [sm_app (F := fun e => if s.jl e = l2 ∧ s.jt e = b2 + 1 then s.jq e else 0) (fun e he => by rw [updN_ne (by omega), updN_ne (by omega), updN_ne (by omega)]), sm_app (F := fun e => if s.jl e = l2 ∧ s.jf e = b2 + 1 then s.jq e else 0) (fun e he => by rw [updN_ne (by omega), updN_ne (by omega), updN_ne (by omega)]), updN_at, updN_at, updN_at, updN_at, h.js_ l2 b2 hl2 hb2]
  omega
/-- units move as an entry says -/
theorem Inw.put {n : Nat} {s : St} (h : Inw n s) {u : Nat → Nat → Nat} {kd l f t q : Nat} (hne : s.ne < 150) (hk : kd ≤ 120) (hl : l < s.nl) (hf : f ≤ 40) (ht : t ≤ 40) (hq : q ≤ 60) (hu : ∀ l b, s.nl ≤ l → u l b = 0) (hb : ∀ b, b < 40 → (s.set 10 u).bl b ≤ 30)
    (hc : ∀ l2 b2, l2 < s.nl → b2 < 40 → s.un l2 b2 + (if l = l2 ∧ t = b2 + 1 then q else 0) = u l2 b2 + (if l = l2 ∧ f = b2 + 1 then q else 0)) : Inw n ((s.set 10 u).jn kd l f t q) := by
  refine h.c_un_jn (z_ne := s.ne + 1) (z_kd := updN s.kd s.ne kd) (z_jl := updN s.jl s.ne l) (z_jf := updN s.jf s.ne f) (z_jt := updN s.jt s.ne t) (z_jq := updN s.jq s.ne q) (z_jd := updN s.jd s.ne s.td) (by omega) hu hb (jn_lt h (P := fun x => x < s.nl) h.jl_ hl) (jn_lt h (P := fun x => x ≤ 40) h.jf_ hf) (jn_lt h (P := fun x => x ≤ 40) h.jt_ ht) (jn_lt h (P := fun x => x ≤ 60) h.jq_ hq) (jn_lt h (P := fun x => x ≤ s.td) h.jd_ (Nat.le_refl _)) (fun e => ?_) (fun l2 b2 hl2 hb2 => js_jn h hl2 hb2 (hc l2 b2 hl2 hb2)) (fun p hp hs => ?_)
  · by_cases q : e = s.ne
    · subst q; rw [updN_at]; exact hk
    · rw [updN_ne q]; exact h.kd_ e
  · obtain ⟨h1, h2, h3, h4⟩ := h.pk_ p hp hs
    refine ⟨h1, by omega, fun k hk => ?_, fun k hk => ?_⟩
    · rw [updN_ne (by omega)]
      exact h3 k hk
    · rw [updN_ne (by omega), updN_ne (by omega), updN_ne (by omega), updN_ne (by omega)]
      exact h4 k hk
end PU
