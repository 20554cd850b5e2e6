/-! cancel, pass -/
section H2
variable {n : Nat} {s : St} {x y z : Int32}
/-- fewer open promises are promised less -/
theorem pr_mono {s s2 : St} (h1 : s2.np = s.np) (h2 : ∀ p, p < s.np → s2.st p = 111 → s.st p = 111) (h3 : s2.du = s.du) (h4 : s2.q = s.q) (i d : Nat) : s2.pr i d ≤ s.pr i d := by
  unfold St.pr
  rw [h1, h3, h4]
  refine sm_mono fun p hp => ?_
  by_cases q : s2.st p = 111 ∧ d ≤ s.du p
  · rw [if_pos q, if_pos ⟨h2 p hp q.1, q.2⟩]
    exact Nat.le_refl _
  · rw [if_neg q]
    exact Nat.zero_le _
theorem sk_cong {s s2 : St} (h1 : s2.nl = s.nl) (h2 : s2.it = s.it) (h3 : s2.ex = s.ex) (h4 : s2.un = s.un) (i d : Nat) : s2.sk i d = s.sk i d := by
  unfold St.sk St.lu
  rw [h1, h2, h3, h4]
theorem st_is {n : Nat} {s : St} (h : Inw n s) (p c : Nat) (hc : c < 1000000) : (nI (s.st p) = nI c) ↔ s.st p = c := nI_eq (by have := h.st_ p; omega) (by omega)
theorem k_rOpen {p : Nat} {v : mmM} {K : mmO → mmM → Prop} (h : Inw n s) (hw : RepC v s) (hp : p < s.np) (hs : s.st p = 111) (g : K (.inl none) v) : mm_M kX5_requireOpen [.ref 0, .int (nI p)] v K := by
  have h1 := h.np_
  refine m_rOpen (by omega) (fun q => absurd ?_ q) (fun _ => g)
  rw [hw.st]
  exact (st_is h p 111 (by decide)).mpr hs
theorem k_nOpen {p : Nat} {v : mmM} {K : mmO → mmM → Prop} (h : Inw n s) (hw : RepC v s) (hp : p < s.np) (hs : s.st p ≠ 111) (g : K (.inr 1) v) : mm_M kX5_requireOpen [.ref 0, .int (nI p)] v K := by
  have h1 := h.np_
  refine m_rOpen (by omega) (fun _ => g) (fun q => ?_)
  rw [hw.st] at q
  exact absurd ((st_is h p 111 (by decide)).mp q) hs
/-- the states after one changed to something not open, not picked -/
theorem Inv.st1 {n p c : Nat} {s : St} (h : Inv n s) (hc : c ≤ 120 ∧ c ≠ 111 ∧ c ≠ 112) : Inv n (s.set 13 (fun _ => updN s.st p c)) := by
  refine ⟨h.1.c_st (fun p2 hp hs => ?_) (fun p2 => ?_) (fun p2 hp hs => ?_), fun i d hi hd => ?_⟩
  · by_cases e : p2 = p
    · subst e; rw [updN_at] at hs; omega
    · rw [updN_ne e] at hs; exact h.du_ p2 hp hs
  · by_cases e : p2 = p
    · subst e; rw [updN_at]; omega
    · rw [updN_ne e]; exact h.st_ p2
  · by_cases e : p2 = p
    · subst e; rw [updN_at] at hs; omega
    · rw [updN_ne e] at hs; exact h.pk_ p2 hp hs
  · refine Nat.le_trans (pr_mono (s := s) (s2 := s.set 13 (fun _ => updN s.st p c)) rfl (fun p2 _ hs => ?_) rfl rfl i d) (h.cv_ i d hi hd)
    by_cases e : p2 = p
    · subst e
      have hs : updN s.st p2 c p2 = 111 := hs
      rw [updN_at] at hs; omega
    · have hs : updN s.st p c p2 = 111 := hs
      rw [updN_ne e] at hs; exact hs
theorem RepC.st1 {p c : Nat} {v : mmM} (hw : RepC v s) : RepC (mm_up v 48 p (nI c)) (s.set 13 (fun _ => updN s.st p c)) := hw.c_st (fun i hi => mm_up_row (by omega)) (row_nI hw.st)
theorem Jn.st1 {s : St} {p c : Nat} (h : Jn s) (hc : c ≠ 45 ∧ c ≠ 112) : Jn (s.set 13 (fun _ => updN s.st p c)) := by
  refine h.of (s' := s.set 13 (fun _ => updN s.st p c)) rfl rfl rfl (fun p2 hp => ?_) (fun p2 hp hs => ?_)
  · show updN s.st p c p2 ≠ 45
    by_cases e : p2 = p
    · subst e; rw [updN_at]; exact hc.1
    · rw [updN_ne e]; exact h.1 p2 hp
  · have hs : updN s.st p c p2 = 112 := hs
    by_cases e : p2 = p
    · subst e; rw [updN_at] at hs; exact absurd hs hc.2
    · rw [updN_ne e] at hs; exact ⟨hs, rfl, rfl, fun _ _ => rfl⟩
theorem op_cancel (h : Inv n s) : Op kX5_cancel kL_cancels n [.int x] s (XJ s) := by
  have h1 := h.np_
  rcases is_or x s.np with ⟨p, hp, e⟩ | hx
  · subst e
    have a1 := in_nI (show p < 20 by omega) (by decide)
    by_cases hs : s.st p = 111
    · refine Op.ok _ (nI (sm (s.q p) 6)) (h.st1 (p := p) (c := 99) (by decide)) ⟨nI_nn (by have := h.q_ p hp; omega), rfl, fun hj => hj.st1 (by decide)⟩ (fun w hw K hK => ?_)
      · refine bX5_cancel_0 (by decide) (k_rPromise h1 hw.np hp (mm_Kv 1 rfl (bX5_cancel_5 (by decide) (k_rOpen h.1 hw hp hs (mm_Kv 2 rfl (bX5_cancel_10 a1 (by decide) ?_))))))
        rw [cl_nI (by omega)]
        have hw2 := hw.st1 (p := p) (c := 99)
        refine m_sumOf (by omega) (mm_Kr 2 rfl (bX5_cancel_29 ?_))
        have e : sSum6 (mm_up w 48 p 99 (50 + p)) = nI (sm (s.q p) 6) := by
          rw [← Nat.zero_add (sm (s.q p) 6), ← fo_sm]
          refine fo_cong fun i a hi => ?_
          have e2 : mm_up w 48 p 99 (50 + p) i = nI (s.q p i) := hw2.q p (by omega) i hi
          rw [e2]
        rw [e]
        exact hK _ hw2 (fun i hi => mm_up_row (by omega))
    · refine Op.no 1 h (by decide) (fun w hw K hK => ?_)
      · exact bX5_cancel_0 (by decide) (k_rPromise h1 hw.np hp (mm_Kv 1 rfl (bX5_cancel_5 (by decide) (k_nOpen h.1 hw hp hs (mm_Kx rfl (hK _ hw fC.rfl))))))
  · refine Op.no 2 h (by decide) (fun w hw K hK => ?_)
    · exact bX5_cancel_0 (by decide) (k_nPromise h1 hw.np hx (mm_Kx rfl (hK _ hw fC.rfl)))
/-- lapsing -/
def lapN (s : St) (day m : Nat) (p : Nat) : Nat := if p < m ∧ s.st p = 111 ∧ s.du p < day then 108 else s.st p
def lapC (s : St) (day m : Nat) : Nat := sm (fun p => if s.st p = 111 ∧ s.du p < day then 1 else 0) m
theorem lapN_s (s : St) (day m : Nat) : lapN s day (m + 1) = if s.st m = 111 ∧ s.du m < day then updN (lapN s day m) m 108 else lapN s day m := by
  funext p
  by_cases e : p = m
  · subst e
    by_cases q : s.st p = 111 ∧ s.du p < day
    · rw [if_pos q, updN_at]
      exact if_pos ⟨by omega, q⟩
    · rw [if_neg q]
      unfold lapN
      rw [if_neg (fun z => q z.2), if_neg (fun z => q z.2)]
  · have : (p < m + 1) ↔ p < m := by omega
    split
    · rw [updN_ne e]
      unfold lapN
      simp only [this]
    · unfold lapN
      simp only [this]
theorem lap_c {n : Nat} {s : St} (h : Inw n s) {day p : Nat} (hp : p < s.np) (hd : day < 100000) : (nI (lapN s day p p) = 111 ∧ nI (s.du p) < nI day) ↔ (s.st p = 111 ∧ s.du p < day) := by
  have e : lapN s day p p = s.st p := if_neg (fun z => absurd z.1 (Nat.lt_irrefl p))
  rw [e]
  have e1 : (nI (s.st p) = 111) ↔ s.st p = 111 := st_is h p 111 (by decide)
  have := h.td_; have := h.n_
  constructor
  · rintro ⟨q1, q2⟩
    have q1 := e1.mp q1
    have := h.du_ p hp q1
    exact ⟨q1, (nI_lti (by omega) (by omega)).mp q2⟩
  · rintro ⟨q1, q2⟩
    have := h.du_ p hp q1
    exact ⟨e1.mpr q1, (nI_lti (by omega) (by omega)).mpr q2⟩
theorem sLap_nI {n : Nat} {s : St} (h : Inw n s) {day : Nat} (hd : day < 100000) : ∀ m, m ≤ s.np → sLap (fun p => nI (s.du p)) (nI day) m (fun p => nI (s.st p)) = ((fun p => nI (lapN s day m p)), nI (lapC s day m))
  | 0, _ => by
    have : (fun p => nI (s.st p)) = fun p => nI (lapN s day 0 p) := by
      funext p
      have : lapN s day 0 p = s.st p := if_neg (fun z => absurd z.1 (Nat.not_lt_zero _))
      rw [this]
    rw [← this]
    rfl
  | m + 1, hm => by
    have ih := sLap_nI h hd m (by omega)
    show (if (sLap _ _ m _).1 m = 111 ∧ nI (s.du m) < nI day then (upd (sLap _ _ m _).1 m 108, (sLap _ _ m _).2 + 1) else sLap _ _ m _) = _
    rw [ih, lapN_s]
    show _ = (_, nI (lapC s day m + if s.st m = 111 ∧ s.du m < day then 1 else 0))
    have e := lap_c h (day := day) (p := m) (by omega) hd
    by_cases q : s.st m = 111 ∧ s.du m < day
    · rw [if_pos (e.mpr q), if_pos q, if_pos q, nI_1]
      have : upd (fun p => nI (lapN s day m p)) m 108 = fun p => nI (updN (lapN s day m) m 108 p) := upd_nI
      rw [this]
    · rw [if_neg (fun z => q (e.mp z)), if_neg q, if_neg q, Nat.add_zero]
theorem Jn.lap {s : St} {a day : Nat} (h : Jn s) : Jn ((s.set 4 (fun _ _ => a)).set 13 (fun _ => lapN s day s.np)) := by
  refine h.of (s' := (s.set 4 (fun _ _ => a)).set 13 (fun _ => lapN s day s.np)) rfl rfl rfl (fun p hp => ?_) (fun p hp hs => ?_)
  · show lapN s day s.np p ≠ 45
    unfold lapN
    split
    · decide
    · exact h.1 p hp
  · have hs : lapN s day s.np p = 112 := hs
    unfold lapN at hs
    split at hs
    · cases hs
    · exact ⟨hs, rfl, rfl, fun _ _ => rfl⟩
theorem lapC_le (s : St) (day : Nat) : ∀ m, lapC s day m ≤ m := fun m => by
  have := sm_le_mul (f := fun p => if s.st p = 111 ∧ s.du p < day then 1 else 0) (c := 1) (n := m) (fun p _ => by show (if _ then _ else _) ≤ _; split <;> omega)
  unfold lapC
  omega
theorem op_pass (h : Inv n s) (hn : n + 1 ≤ 600) : Op kX5_pass kL_goes (n + 1) [.int x] s (XJ s) := by
  have h1 := h.np_; have h2 := h.td_; have h3 := h.n_
  by_cases hx : bt 1 30 x
  · obtain ⟨k, hk1, hk2, e⟩ := hx
    subst e
    have hi : Inv (n + 1) ((s.set 4 (fun _ _ => s.td + k)).set 13 (fun _ => lapN s (s.td + k) s.np)) := by
      have hx := h.nx hn
      refine ⟨hx.1.c_td_st (by omega) (fun l hl => ?_) (fun b => ?_) (fun p hp hs => ?_) (fun p => ?_) (fun e he => ?_) (fun p hp hs => ?_), fun i d hi hd => ?_⟩
      · have := h.ex_ l hl; omega
      · have := h.cn_ b; omega
      · unfold lapN at hs
        split at hs
        · omega
        · rename_i q
          have := h.du_ p hp hs
          omega
      · unfold lapN
        split
        · omega
        · exact h.st_ p
      · have := h.jd_ e he; omega
      · unfold lapN at hs
        split at hs
        · omega
        · exact h.pk_ p hp hs
      · have hd : s.td + k ≤ d := hd
        refine Nat.le_trans (pr_mono (s := s) (s2 := (s.set 4 (fun _ _ => s.td + k)).set 13 (fun _ => lapN s (s.td + k) s.np)) rfl (fun p _ hs => ?_) rfl rfl i d) (h.cv_ i d hi (by omega))
        have hs : lapN s (s.td + k) s.np p = 111 := hs
        unfold lapN at hs
        split at hs
        · omega
        · exact hs
    refine Op.ok _ (nI (lapC s (s.td + k) s.np)) hi ⟨nI_nn (by have := lapC_le s (s.td + k) s.np; omega), rfl, fun hj => hj.lap⟩ (fun w hw K hK => ?_)
    · refine bX5_pass_0 (by decide) (k_bt (a := 1) (b := 30) (by decide) (by decide) ⟨k, hk1, hk2, rfl⟩ (mm_Kv 1 rfl (bX5_pass_8 (by decide) ?_)))
      rw [hw.td, nI_add]
      have hw2 : RepC (mm_up w 0 7 (nI (s.td + k))) (s.set 4 (fun _ _ => s.td + k)) := hw.c_td (fun i hi => mm_up_row (by omega)) mm_up_same
      refine m_lapse h1 hw2.np (mm_Kr 1 rfl (bX5_pass_29 ?_))
      rw [hw2.du, hw2.st]
      have e := sLap_nI h.1 (day := s.td + k) (by omega) s.np (Nat.le_refl _)
      rw [show (fun p => nI ((s.set 4 (fun _ _ => s.td + k)).du p)) = fun p => nI (s.du p) from rfl, show (fun p => nI ((s.set 4 (fun _ _ => s.td + k)).st p)) = fun p => nI (s.st p) from rfl, e]
      refine hK _ (hw2.c_st (fun i hi => rw_ne (by omega)) rw_at) (fun i hi => ?_)
      rw [rw_ne (by omega), mm_up_row (by omega)]
  · refine Op.no 0 (h.nx hn) (by decide) (fun w hw K hK => ?_)
    · exact bX5_pass_0 (by decide) (k_nbt (a := 1) (b := 30) (by decide) (by decide) hx (mm_Kx rfl (hK _ hw fC.rfl)))
end H2
