/-! receive: a lot takes its place in the order -/
def insN (ex : Nat → Nat) (e : Nat) : Nat → (Nat → Nat) → Nat × (Nat → Nat)
  | 0, od => (0, od)
  | p + 1, od => if ex (od p) ≤ e then (p + 1, od) else insN ex e p (updN od (p + 1) (od p))
theorem insN_p {ex : Nat → Nat} {e : Nat} : ∀ (p : Nat) (od : Nat → Nat), (insN ex e p od).1 ≤ p ∧ (∀ k, k < (insN ex e p od).1 → (insN ex e p od).2 k = od k) ∧ (∀ k, (insN ex e p od).1 < k → k ≤ p → (insN ex e p od).2 k = od (k - 1)) ∧ (∀ k, p < k → (insN ex e p od).2 k = od k) ∧ (∀ k, (insN ex e p od).1 ≤ k → k < p → e < ex (od k)) ∧ ((insN ex e p od).1 = 0 ∨ ex (od ((insN ex e p od).1 - 1)) ≤ e)
  | 0, od => ⟨Nat.le_refl _, fun k h => absurd h (Nat.not_lt_zero _), fun k h1 h2 => absurd h1 (by show ¬ 0 < k; omega), fun _ _ => rfl, fun k _ h => absurd h (Nat.not_lt_zero _), Or.inl rfl⟩
  | p + 1, od => by
    by_cases q : ex (od p) ≤ e
    · have e1 : insN ex e (p + 1) od = (p + 1, od) := if_pos q
      rw [e1]
      exact ⟨Nat.le_refl _, fun _ _ => rfl, fun k h1 h2 => absurd h1 (by show ¬ p + 1 < k; omega), fun _ _ => rfl, fun k h1 h2 => absurd h2 (by have h1 : p + 1 ≤ k := h1; omega), Or.inr q⟩
    · have e1 : insN ex e (p + 1) od = insN ex e p (updN od (p + 1) (od p)) := if_neg q
      rw [e1]
      obtain ⟨h1, h2, h3, h4, h5, h6⟩ := insN_p (ex := ex) (e := e) p (updN od (p + 1) (od p))
      refine ⟨by omega, fun k hk => ?_, fun k hk1 hk2 => ?_, fun k hk => ?_, fun k hk1 hk2 => ?_, ?_⟩
      · rw [h2 k hk, updN_ne (by omega)]
      · by_cases z : k = p + 1
        · subst z
          rw [h4 _ (by omega), updN_at]
          rfl
        · rw [h3 k hk1 (by omega), updN_ne (by omega)]
      · rw [h4 k (by omega), updN_ne (by omega)]
      · by_cases z : k = p
        · subst z; omega
        · have := h5 k hk1 (by omega)
          rw [updN_ne (by omega)] at this
          exact this
      · rcases h6 with h6 | h6
        · exact Or.inl h6
        · right
          rw [updN_ne (by omega)] at h6
          exact h6
theorem insN_cong {ex ex2 : Nat → Nat} {e : Nat} : ∀ (p : Nat) (od : Nat → Nat), (∀ k, k < p → ex (od k) = ex2 (od k)) → insN ex e p od = insN ex2 e p od
  | 0, _, _ => rfl
  | p + 1, od, h => by
    show (if ex (od p) ≤ e then (p + 1, od) else insN ex e p (updN od (p + 1) (od p))) = (if ex2 (od p) ≤ e then (p + 1, od) else insN ex2 e p (updN od (p + 1) (od p)))
    have ih := insN_cong (ex := ex) (ex2 := ex2) (e := e) p (updN od (p + 1) (od p)) (fun k hk => by rw [updN_ne (by omega)]; exact h k (by omega))
    rw [h p (by omega), ih]
theorem sIns_nI {ex : Nat → Nat} {e : Nat} (he : e < 1000000) : ∀ (p : Nat) (od : Nat → Nat), (∀ k, k < p → od k < 1000000 ∧ ex (od k) < 1000000) → sIns (fun l => nI (ex l)) (nI e) p (fun k => nI (od k)) = ((insN ex e p od).1, fun k => nI ((insN ex e p od).2 k))
  | 0, _, _ => rfl
  | p + 1, od, h => by
    obtain ⟨h1, h2⟩ := h p (by omega)
    show (if nI (ex (nI (od p)).toNatClampNeg) ≤ nI e then (p + 1, fun k => nI (od k)) else sIns (fun l => nI (ex l)) (nI e) p (upd (fun k => nI (od k)) (p + 1) (nI (od p)))) = _
    rw [cl_nI h1, upd_nI, sIns_nI he p (updN od (p + 1) (od p)) (fun k hk => by rw [updN_ne (by omega)]; exact h k (by omega))]
    have e1 : (nI (ex (od p)) ≤ nI e) ↔ ex (od p) ≤ e := nI_lei h2 he
    by_cases q : ex (od p) ≤ e
    · rw [if_pos (e1.mpr q), show insN ex e (p + 1) od = (p + 1, od) from if_pos q]
    · rw [if_neg (fun z => q (e1.mp z)), show insN ex e (p + 1) od = insN ex e p (updN od (p + 1) (od p)) from if_neg q]
def ordN (ex : Nat → Nat) (e n : Nat) (od : Nat → Nat) : Nat → Nat := updN (insN ex e n od).2 (insN ex e n od).1 n
theorem sm_ins {G g : Nat → Nat} {x j : Nat} : ∀ {m : Nat}, j ≤ m → (∀ k, k < j → G k = g k) → G j = x → (∀ k, j < k → k ≤ m → G k = g (k - 1)) → sm G (m + 1) = sm g m + x
  | 0, h, _, h2, _ => by
    have : j = 0 := by omega
    subst this
    show 0 + G 0 = 0 + x
    rw [h2]
  | m + 1, h, h1, h2, h3 => by
    show sm G (m + 1) + G (m + 1) = sm g m + g m + x
    by_cases q : j = m + 1
    · subst q
      rw [sm_cong (f := G) (g := g) (n := m + 1) h1, h2]
      rfl
    · rw [sm_ins (m := m) (by omega) h1 h2 (fun k hk1 hk2 => h3 k hk1 (by omega)), h3 (m + 1) (by omega) (Nat.le_refl _), Nat.add_sub_cancel]
      omega
section RV
variable {n : Nat} {s : St} {x y z u : Int32}
theorem ordN_at {ex : Nat → Nat} {e m : Nat} {od : Nat → Nat} (k : Nat) (hk : k ≤ m) : (k < (insN ex e m od).1 ∧ ordN ex e m od k = od k) ∨ (k = (insN ex e m od).1 ∧ ordN ex e m od k = m) ∨ ((insN ex e m od).1 < k ∧ ordN ex e m od k = od (k - 1)) := by
  obtain ⟨h1, h2, h3, h4, h5, h6⟩ := insN_p (ex := ex) (e := e) m od
  rcases Nat.lt_trichotomy k (insN ex e m od).1 with q | q | q
  · left
    refine ⟨q, ?_⟩
    unfold ordN
    rw [updN_ne (by omega), h2 k q]
  · right; left
    refine ⟨q, ?_⟩
    unfold ordN
    rw [q, updN_at]
  · right; right
    refine ⟨q, ?_⟩
    unfold ordN
    rw [updN_ne (by omega), h3 k q hk]
theorem Inw.js' {n : Nat} {s : St} (h : Inw n s) (l b : Nat) (hb : b < 40) : sm (fun e => if s.jl e = l ∧ s.jt e = b + 1 then s.jq e else 0) s.ne = s.un l b + sm (fun e => if s.jl e = l ∧ s.jf e = b + 1 then s.jq e else 0) s.ne := by
  by_cases hl : l < s.nl
  · exact h.js_ l b hl hb
  · rw [h.un_ l b (by omega), sm_0 (fun e he => if_neg (fun q => by have := h.jl_ e he; omega)), sm_0 (fun e he => if_neg (fun q => by have := h.jl_ e he; omega))]
/-- the state after goods were received -/
def St.lot (s : St) (i e : Nat) : St := (((s.set 1 (fun _ _ => s.nl + 1)).set 7 (fun _ => updN s.it s.nl i)).set 8 (fun _ => updN s.ex s.nl e)).set 9 (fun _ => ordN s.ex e s.nl s.od)
def St.rcv (s : St) (i e b q : Nat) : St := ((s.lot i e).set 10 (upd2 s.un s.nl b q)).jn 114 s.nl 0 (b + 1) q
theorem rcv_I {i e b q : Nat} (h : Inv n s) (hi : i < s.ni) (he : e ≤ s.td + 99) (hb : b < 40) (hq : q ≤ 30) (hl : s.nl < 24) (hne : s.ne < 150) (hs : s.bl b + q ≤ 30) : Inv n (s.rcv i e b q) := by
  obtain ⟨p1, p2, p3, p4, p5, p6⟩ := insN_p (ex := s.ex) (e := e) s.nl s.od
  have hun0 : s.un s.nl b = 0 := h.un_ s.nl b (Nat.le_refl _)
  have hlu : ∀ l, l ≠ s.nl → (s.set 10 (upd2 s.un s.nl b q)).lu l = s.lu l := by
    intro l hl
    have := lu_upd2 (s := s) (l := s.nl) (b := b) (x := q) hb l
    rw [if_neg hl, if_neg hl] at this
    omega
  refine ⟨h.1.c_lot (z_nl := s.nl + 1) (z_it := updN s.it s.nl i) (z_ex := updN s.ex s.nl e) (z_od := ordN s.ex e s.nl s.od) (z_un := upd2 s.un s.nl b q) (z_ne := s.ne + 1) (z_kd := updN s.kd s.ne 114) (z_jl := updN s.jl s.ne s.nl) (z_jf := updN s.jf s.ne 0) (z_jt := updN s.jt s.ne (b + 1)) (z_jq := updN s.jq s.ne q) (z_jd := updN s.jd s.ne s.td) (by omega) (by omega) (fun l hl2 => ?_) (fun l hl2 => ?_) (fun k hk => ?_) (fun f => ?_) (fun j k hjk hk => ?_) (fun l b2 hl2 => ?_) (fun b2 hb2 => ?_) (jn_lt h.1 (P := fun x => x < s.nl + 1) (fun e he => by have := h.jl_ e he; omega) (by omega)) (jn_lt h.1 (P := fun x => x ≤ 40) h.jf_ (by omega)) (jn_lt h.1 (P := fun x => x ≤ 40) h.jt_ (by omega)) (jn_lt h.1 (P := fun x => x ≤ 60) h.jq_ (by omega)) (jn_lt h.1 (P := fun x => x ≤ s.td) h.jd_ (Nat.le_refl _)) (fun e => ?_) (fun l2 b2 hl2 hb2 => ?_) (fun p hp hs => ?_), fun i2 d hi2 hd => ?_⟩
  · by_cases z : l = s.nl
    · subst z; rw [updN_at]; exact hi
    · rw [updN_ne z]; exact h.it_ l (by omega)
  · by_cases z : l = s.nl
    · subst z; rw [updN_at]; exact he
    · rw [updN_ne z]; exact h.ex_ l (by omega)
  · rcases ordN_at (ex := s.ex) (e := e) (od := s.od) k (show k ≤ s.nl by omega) with ⟨z, w⟩ | ⟨z, w⟩ | ⟨z, w⟩ <;> rw [w]
    · have := h.od_ k (by omega); omega
    · omega
    · have := h.od_ (k - 1) (by omega); omega
  · show sm (fun k => f (ordN s.ex e s.nl s.od k)) (s.nl + 1) = sm f s.nl + f s.nl
    rw [← h.ods_ f]
    refine sm_ins (j := (insN s.ex e s.nl s.od).1) p1 (fun k hk => ?_) ?_ (fun k hk1 hk2 => ?_)
    · rcases ordN_at (ex := s.ex) (e := e) (od := s.od) k (show k ≤ s.nl by omega) with ⟨z, w⟩ | ⟨z, w⟩ | ⟨z, w⟩
      · rw [w]
      · omega
      · omega
    · rcases ordN_at (ex := s.ex) (e := e) (od := s.od) _ p1 with ⟨z, w⟩ | ⟨z, w⟩ | ⟨z, w⟩
      · omega
      · rw [w]
      · omega
    · rcases ordN_at (ex := s.ex) (e := e) (od := s.od) k hk2 with ⟨z, w⟩ | ⟨z, w⟩ | ⟨z, w⟩
      · omega
      · omega
      · rw [w]
  · have low : ∀ k, k < (insN s.ex e s.nl s.od).1 → s.ex (s.od k) ≤ e := by
      intro k hk
      rcases p6 with p6 | p6
      · omega
      · exact Nat.le_trans (h.odl_ k _ (by omega) (by omega)) p6
    have ne : ∀ k, k < s.nl → updN s.ex s.nl e (s.od k) = s.ex (s.od k) := fun k hk => updN_ne (by have := h.od_ k hk; omega)
    rcases ordN_at (ex := s.ex) (e := e) (od := s.od) j (show j ≤ s.nl by omega) with ⟨z, w⟩ | ⟨z, w⟩ | ⟨z, w⟩ <;> rcases ordN_at (ex := s.ex) (e := e) (od := s.od) k (show k ≤ s.nl by omega) with ⟨z2, w2⟩ | ⟨z2, w2⟩ | ⟨z2, w2⟩ <;> rw [w, w2]
    · rw [ne j (by omega), ne k (by omega)]; exact h.odl_ j k hjk (by omega)
    · rw [ne j (by omega), updN_at]; exact low j z
    · rw [ne j (by omega), ne (k - 1) (by omega)]; exact h.odl_ j (k - 1) (by omega) (by omega)
    · omega
    · exact Nat.le_refl _
    · rw [updN_at, ne (k - 1) (by omega)]; exact Nat.le_of_lt (p5 (k - 1) (by omega) (by omega))
    · omega
    · omega
    · rw [ne (j - 1) (by omega), ne (k - 1) (by omega)]; exact h.odl_ (j - 1) (k - 1) (by omega) (by omega)
  · rw [upd2_ne (by omega)]
    exact h.un_ l b2 (by omega)
  · have := bl_upd2 (s := s) (l := s.nl) (b := b) (x := q) hl b2
    show (s.set 10 (upd2 s.un s.nl b q)).bl b2 ≤ 30
    have h30 := h.bl_ b2 hb2
    by_cases z : b2 = b
    · subst z
      rw [if_pos rfl, if_pos rfl] at this
      omega
    · rw [if_neg z, if_neg z] at this
      omega
  · by_cases z : e = s.ne
    · subst z; rw [updN_at]; omega
    · rw [updN_ne z]; exact h.kd_ e
  · rw [sm_app (F := fun e => if s.jl e = l2 ∧ s.jt e = b2 + 1 then s.jq e else 0) (fun e he => by rw [updN_ne (by omega), updN_ne (by omega), updN_ne (by omega)]), sm_app (F := fun e => if s.jl e = l2 ∧ s.jf e = b2 + 1 then s.jq e else 0) (fun e he => by rw [updN_ne (by omega), updN_ne (by omega), updN_ne (by omega)]), updN_at, updN_at, updN_at, updN_at, h.1.js' l2 b2 hb2, if_neg (show ¬ (s.nl = l2 ∧ 0 = b2 + 1) by omega)]
    by_cases z : s.nl = l2 ∧ b + 1 = b2 + 1
    · rw [if_pos z]
      obtain ⟨z1, z2⟩ := z
      have z2 : b2 = b := by omega
      subst z1 z2
      have e1 : upd2 s.un s.nl b2 q s.nl b2 = q := if_pos ⟨rfl, rfl⟩
      rw [e1, hun0]
      omega
    · rw [if_neg z]
      have e1 : upd2 s.un s.nl b q l2 b2 = s.un l2 b2 := if_neg (fun w => z ⟨w.1.symm, by omega⟩)
      rw [e1]
      omega
  · obtain ⟨h1, h2, h3, h4⟩ := h.pk_ p hp hs
    refine ⟨h1, by omega, fun k hk => ?_, fun k hk => ?_⟩
    · rw [updN_ne (by omega)]
      exact h3 k hk
    · rw [updN_ne (by omega), updN_ne (by omega), updN_ne (by omega), updN_ne (by omega)]
      exact h4 k hk
  · refine Nat.le_trans (h.cv_ i2 d hi2 hd) ?_
    show s.sk i2 d ≤ sm (fun l => if updN s.it s.nl i l = i2 ∧ d ≤ updN s.ex s.nl e l then (s.set 10 (upd2 s.un s.nl b q)).lu l else 0) s.nl + _
    refine Nat.le_trans (Nat.le_of_eq ?_) (Nat.le_add_right _ _)
    exact sm_cong (fun l hl2 => by rw [updN_ne (by omega), updN_ne (by omega), hlu l (by omega)])
end RV
