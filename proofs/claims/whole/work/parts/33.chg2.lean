/-! cancel, pass -/
section H2
variable {n : Nat} {s : St} {x y z : Int32}
/-- fewer open promises are promised less -/
theorem pr_mono {s s2 : St} (h1 : s2.np = s.np) (h2 : ∀ p, p < s.np → s2.st p = 111 → s.st p = 111) (h3 : s2.du = s.du) (h4 : s2.q = s.q) (i d : Nat) : s2.pr i d ≤ s.pr i d := by
  unfold St.pr
  rw [h1, h3, h4]
  refine sm_mono fun p hp => ?_
  by_cases q : s2.st p = 111 ∧ d ≤ s.du p
  · rw [if_pos q, if_pos ⟨h2 p hp q.1, q.2⟩]
    exact Nat.le_refl _
  · rw [if_neg q]
    exact Nat.zero_le _
theorem sk_cong {s s2 : St} (h1 : s2.nl = s.nl) (h2 : s2.it = s.it) (h3 : s2.ex = s.ex) (h4 : s2.un = s.un) (i d : Nat) : s2.sk i d = s.sk i d := by
  unfold St.sk St.lu
  rw [h1, h2, h3, h4]
/-- a promise that is not there, or not open -/
theorem k_isNotOpen1 {v : mmM} {K : mmO → mmM → Prop} (h : Inw n s) (hw : RepM v s) (hx : ∀ i, i < s.np → x ≠ nI i) (g : K (.inl (some (.int 1))) (mm_up v 81 26 1)) : mm_M kX6_isNotOpen [.ref 81, .int x] v K := by
  refine bX6_isNotOpen_0 (by decide) (k_noPromise h.np_ hw.np hx (mm_Kr 0 rfl ?_))
  exact bX6_isNotOpen_6 (fun _ => bX6_isNotOpen_9 (bX6_isNotOpen_29 (fun h => absurd h (by decide)) (fun _ => bX6_isNotOpen_39 (bX6_isNotOpen_44 nb_1 g)))) (fun h => absurd rfl h)
theorem st_is {n : Nat} {s : St} (h : Inw n s) (p c : Nat) (hc : c < 1000000) : (nI (s.st p) = nI c) ↔ s.st p = c := nI_eq (by have := h.st_ p; omega) (by omega)
theorem k_isNotOpen2 {p : Nat} {v : mmM} {K : mmO → mmM → Prop} (h : Inw n s) (hw : RepM v s) (hp : p < s.np) (hs : s.st p ≠ 111) (g : K (.inl (some (.int 1))) (mm_up v 81 26 2)) : mm_M kX6_isNotOpen [.ref 81, .int (nI p)] v K := by
  have h1 := h.np_
  refine bX6_isNotOpen_0 (by decide) (k_isPromise h.np_ hw.np hp (mm_Kr 0 rfl ?_))
  refine bX6_isNotOpen_6 (fun h => absurd h (by decide)) (fun _ => bX6_isNotOpen_13 (in_nI (by omega) (by decide)) (fun q => ?_) (fun _ => bX6_isNotOpen_24 ?_))
  · rw [cl_nI (by omega), hw.st] at q
    exact absurd ((st_is h p 111 (by decide)).mp q) hs
  · exact bX6_isNotOpen_29 (fun h => absurd h (by decide)) (fun _ => bX6_isNotOpen_39 (bX6_isNotOpen_44 nb_1 g))
theorem k_isOpen {p : Nat} {v : mmM} {K : mmO → mmM → Prop} (h : Inw n s) (hw : RepM v s) (hp : p < s.np) (hs : s.st p = 111) (g : K (.inl (some (.int 0))) (mm_up v 81 26 0)) : mm_M kX6_isNotOpen [.ref 81, .int (nI p)] v K := by
  have h1 := h.np_
  refine bX6_isNotOpen_0 (by decide) (k_isPromise h.np_ hw.np hp (mm_Kr 0 rfl ?_))
  refine bX6_isNotOpen_6 (fun h => absurd h (by decide)) (fun _ => bX6_isNotOpen_13 (in_nI (by omega) (by decide)) (fun _ => bX6_isNotOpen_28 ?_) (fun q => absurd ?_ q))
  · exact bX6_isNotOpen_29 (fun _ => bX6_isNotOpen_43 (bX6_isNotOpen_44 nb_0 g)) (fun h => absurd (by decide) h)
  · rw [cl_nI (by omega), hw.st]
    exact (st_is h p 111 (by decide)).mpr hs
theorem k_rOpen {p : Nat} {v : mmM} {K : mmO → mmM → Prop} (h : Inw n s) (hw : RepC v s) (hp : p < s.np) (hs : s.st p = 111) (g : K (.inl none) v) : mm_M kX5_requireOpen [.ref 0, .int (nI p)] v K := by
  have h1 := h.np_
  refine m_rOpen (by omega) (fun q => absurd ?_ q) (fun _ => g)
  rw [hw.st]
  exact (st_is h p 111 (by decide)).mpr hs
theorem k_nOpen {p : Nat} {v : mmM} {K : mmO → mmM → Prop} (h : Inw n s) (hw : RepC v s) (hp : p < s.np) (hs : s.st p ≠ 111) (g : K (.inr 1) v) : mm_M kX5_requireOpen [.ref 0, .int (nI p)] v K := by
  have h1 := h.np_
  refine m_rOpen (by omega) (fun _ => g) (fun q => ?_)
  rw [hw.st] at q
  exact absurd ((st_is h p 111 (by decide)).mp q) hs
/-- the states after one changed to something not open, not picked -/
theorem Inv.st1 {n p c : Nat} {s : St} (h : Inv n s) (hc : c ≤ 120 ∧ c ≠ 111 ∧ c ≠ 112) : Inv n (s.set 13 (fun _ => updN s.st p c)) := by
  refine ⟨h.1.c_st (fun p2 hp hs => ?_) (fun p2 => ?_) (fun p2 hp hs => ?_), fun i d hi hd => ?_⟩
  · by_cases e : p2 = p
    · subst e; rw [updN_at] at hs; omega
    · rw [updN_ne e] at hs; exact h.du_ p2 hp hs
  · by_cases e : p2 = p
    · subst e; rw [updN_at]; omega
    · rw [updN_ne e]; exact h.st_ p2
  · by_cases e : p2 = p
    · subst e; rw [updN_at] at hs; omega
    · rw [updN_ne e] at hs; exact h.pk_ p2 hp hs
  · refine Nat.le_trans (pr_mono (s := s) (s2 := s.set 13 (fun _ => updN s.st p c)) rfl (fun p2 _ hs => ?_) rfl rfl i d) (h.cv_ i d hi hd)
    by_cases e : p2 = p
    · subst e
      have hs : updN s.st p2 c p2 = 111 := hs
      rw [updN_at] at hs; omega
    · have hs : updN s.st p c p2 = 111 := hs
      rw [updN_ne e] at hs; exact hs
theorem RepC.st1 {p c : Nat} {v : mmM} (hw : RepC v s) : RepC (mm_up v 48 p (nI c)) (s.set 13 (fun _ => updN s.st p c)) := hw.c_st (fun i hi => mm_up_row (by omega)) (row_nI hw.st)
theorem RepM.st1 {p c : Nat} {v : mmM} (hw : RepM v s) (hc : c ≠ 112) : RepM (mm_up v 121 p (nI c)) (s.set 13 (fun _ => updN s.st p c)) := by
  refine hw.c_st (fun i hi => mm_up_row (by omega)) (fun j _ _ => by rw [mm_up_row (by decide)]) (row_nI hw.st) (fun p2 hp hpn hs => ?_)
  by_cases e : p2 = p
  · subst e; rw [updN_at] at hs; omega
  · rw [updN_ne e] at hs
    rw [mm_up_row (by decide), mm_up_row (by omega), mm_up_row (by omega), mm_up_row (by omega)]
    exact hw.kp p2 hp hpn hs
theorem op_cancel (h : Inv n s) : Op kX5_cancel kX6_cancel kL_cancel n [.int x] s := by
  have h1 := h.np_
  rcases is_or x s.np with ⟨p, hp, e⟩ | hx
  · subst e
    have a1 := in_nI (show p < 20 by omega) (by decide)
    by_cases hs : s.st p = 111
    · refine Op.ok _ (nI (sm (s.q p) 6)) (h.st1 (p := p) (c := 99) (by decide)) (fun w hw K hK => ?_) (fun w hw K hK => ?_)
      · refine bX5_cancel_0 (by decide) (k_rPromise h1 hw.np hp (mm_Kv 1 rfl (bX5_cancel_5 (by decide) (k_rOpen h.1 hw hp hs (mm_Kv 2 rfl (bX5_cancel_10 a1 (by decide) ?_))))))
        rw [cl_nI (by omega)]
        have hw2 := hw.st1 (p := p) (c := 99)
        refine m_sumOf (by omega) (mm_Kr 2 rfl (bX5_cancel_29 ?_))
        have e : sSum6 (mm_up w 48 p 99 (50 + p)) = nI (sm (s.q p) 6) := by
          rw [← Nat.zero_add (sm (s.q p) 6), ← fo_sm]
          refine fo_cong fun i a hi => ?_
          have e2 : mm_up w 48 p 99 (50 + p) i = nI (s.q p i) := hw2.q p (by omega) i hi
          rw [e2]
        rw [e]
        exact hK _ hw2 (fun i hi => mm_up_row (by omega))
      · refine bX6_cancel_0 (by decide) (k_isOpen h.1 hw hp hs (mm_Kr 0 rfl (bX6_cancel_5 (fun _ => bX6_cancel_10 a1 ?_) (fun h => absurd rfl h))))
        rw [cl_nI (by omega)]
        have hw2 := (hw.th (x := 0)).st1 (p := p) (c := 99) (by decide)
        refine e_for0 (n := 6) (E := fun i a => mm_E kX6_cancel 22 [.ref 81, .int (nI p), .int a, .int (nI i)] [] (mm_up (mm_up w 81 26 0) 121 p 99) 0 K) (f := fun i a => a + nI (s.q p i)) ?_ ?_
        · intro i a hi ih
          refine bX6_cancel_22 (fun q => absurd q (ge_nI hi (by decide))) (fun _ => bX6_cancel_28 a1 (in_nI hi (by decide)) ?_)
          rw [nI_1, cl_nI (by omega), cl_nI (by omega)]
          have : mm_up (mm_up w 81 26 0) 121 p 99 (123 + p) i = nI (s.q p i) := hw2.q p (by omega) i hi
          rw [this]
          exact ih
        · refine bX6_cancel_22 (fun _ => bX6_cancel_45 ?_) (fun q => absurd (le_nI (Nat.le_refl 6) (by decide)) q)
          have e : fo (fun i a => a + nI (s.q p i)) 0 6 = nI (0 + sm (s.q p) 6) := fo_sm
          rw [e, Nat.zero_add]
          exact hK _ _ hw2 (fun i hi => by rw [mm_up_row (by omega), mm_up_row (by omega)]) (by rw [mm_up_row (by omega), th_at]; rfl) (fun _ => rfl)
    · refine Op.no 2 1 h (by decide) (by decide) (fun w hw K hK => ?_) (fun r w hw K hK => ?_)
      · exact bX5_cancel_0 (by decide) (k_rPromise h1 hw.np hp (mm_Kv 1 rfl (bX5_cancel_5 (by decide) (k_nOpen h.1 hw hp hs (mm_Kx rfl (hK _ hw fC.rfl))))))
      · exact bX6_cancel_0 (by decide) (k_isNotOpen2 h.1 hw hp hs (mm_Kr 0 rfl (bX6_cancel_5 (fun h => absurd h (by decide)) (fun _ => bX6_cancel_8 (hK _ _ hw.th fM.th th_at (fun h => absurd h (by decide)))))))
  · refine Op.no 1 2 h (by decide) (by decide) (fun w hw K hK => ?_) (fun r w hw K hK => ?_)
    · exact bX5_cancel_0 (by decide) (k_nPromise h1 hw.np hx (mm_Kx rfl (hK _ hw fC.rfl)))
    · exact bX6_cancel_0 (by decide) (k_isNotOpen1 h.1 hw hx (mm_Kr 0 rfl (bX6_cancel_5 (fun h => absurd h (by decide)) (fun _ => bX6_cancel_8 (hK _ _ hw.th fM.th th_at (fun h => absurd h (by decide)))))))
/-- lapsing -/
def lapN (s : St) (day m : Nat) (p : Nat) : Nat := if p < m ∧ s.st p = 111 ∧ s.du p < day then 108 else s.st p
def lapC (s : St) (day m : Nat) : Nat := sm (fun p => if s.st p = 111 ∧ s.du p < day then 1 else 0) m
theorem lapN_s (s : St) (day m : Nat) : lapN s day (m + 1) = if s.st m = 111 ∧ s.du m < day then updN (lapN s day m) m 108 else lapN s day m := by
  funext p
  by_cases e : p = m
  · subst e
    by_cases q : s.st p = 111 ∧ s.du p < day
    · rw [if_pos q, updN_at]
      exact if_pos ⟨by omega, q⟩
    · rw [if_neg q]
      unfold lapN
      rw [if_neg (fun z => q z.2), if_neg (fun z => q z.2)]
  · have : (p < m + 1) ↔ p < m := by omega
    split
    · rw [updN_ne e]
      unfold lapN
      simp only [this]
    · unfold lapN
      simp only [this]
theorem lap_c {n : Nat} {s : St} (h : Inw n s) {day p : Nat} (hp : p < s.np) (hd : day < 100000) : (nI (lapN s day p p) = 111 ∧ nI (s.du p) < nI day) ↔ (s.st p = 111 ∧ s.du p < day) := by
  have e : lapN s day p p = s.st p := if_neg (fun z => absurd z.1 (Nat.lt_irrefl p))
  rw [e]
  have e1 : (nI (s.st p) = 111) ↔ s.st p = 111 := st_is h p 111 (by decide)
  have := h.td_; have := h.n_
  constructor
  · rintro ⟨q1, q2⟩
    have q1 := e1.mp q1
    have := h.du_ p hp q1
    exact ⟨q1, (nI_lti (by omega) (by omega)).mp q2⟩
  · rintro ⟨q1, q2⟩
    have := h.du_ p hp q1
    exact ⟨e1.mpr q1, (nI_lti (by omega) (by omega)).mpr q2⟩
theorem sLap_nI {n : Nat} {s : St} (h : Inw n s) {day : Nat} (hd : day < 100000) : ∀ m, m ≤ s.np → sLap (fun p => nI (s.du p)) (nI day) m (fun p => nI (s.st p)) = ((fun p => nI (lapN s day m p)), nI (lapC s day m))
  | 0, _ => by
    have : (fun p => nI (s.st p)) = fun p => nI (lapN s day 0 p) := by
      funext p
      have : lapN s day 0 p = s.st p := if_neg (fun z => absurd z.1 (Nat.not_lt_zero _))
      rw [this]
    rw [← this]
    rfl
  | m + 1, hm => by
    have ih := sLap_nI h hd m (by omega)
    show (if (sLap _ _ m _).1 m = 111 ∧ nI (s.du m) < nI day then (upd (sLap _ _ m _).1 m 108, (sLap _ _ m _).2 + 1) else sLap _ _ m _) = _
    rw [ih, lapN_s]
    show _ = (_, nI (lapC s day m + if s.st m = 111 ∧ s.du m < day then 1 else 0))
    have e := lap_c h (day := day) (p := m) (by omega) hd
    by_cases q : s.st m = 111 ∧ s.du m < day
    · rw [if_pos (e.mpr q), if_pos q, if_pos q, nI_1]
      have : upd (fun p => nI (lapN s day m p)) m 108 = fun p => nI (updN (lapN s day m) m 108 p) := upd_nI
      rw [this]
    · rw [if_neg (fun z => q (e.mp z)), if_neg q, if_neg q, Nat.add_zero]
theorem op_pass (h : Inv n s) (hn : n + 1 ≤ 600) : Op kX5_pass kX6_pass kL_pass (n + 1) [.int x] s := by
  have h1 := h.np_; have h2 := h.td_; have h3 := h.n_
  by_cases hx : bt 1 30 x
  · obtain ⟨k, hk1, hk2, e⟩ := hx
    subst e
    have hi : Inv (n + 1) ((s.set 4 (fun _ _ => s.td + k)).set 13 (fun _ => lapN s (s.td + k) s.np)) := by
      have hx := h.nx hn
      refine ⟨hx.1.c_td_st (by omega) (fun l hl => ?_) (fun b => ?_) (fun p hp hs => ?_) (fun p => ?_) (fun e he => ?_) (fun p hp hs => ?_), fun i d hi hd => ?_⟩
      · have := h.ex_ l hl; omega
      · have := h.cn_ b; omega
      · unfold lapN at hs
        split at hs
        · omega
        · rename_i q
          have := h.du_ p hp hs
          omega
      · unfold lapN
        split
        · omega
        · exact h.st_ p
      · have := h.jd_ e he; omega
      · unfold lapN at hs
        split at hs
        · omega
        · exact h.pk_ p hp hs
      · have hd : s.td + k ≤ d := hd
        refine Nat.le_trans (pr_mono (s := s) (s2 := (s.set 4 (fun _ _ => s.td + k)).set 13 (fun _ => lapN s (s.td + k) s.np)) rfl (fun p _ hs => ?_) rfl rfl i d) (h.cv_ i d hi (by omega))
        have hs : lapN s (s.td + k) s.np p = 111 := hs
        unfold lapN at hs
        split at hs
        · omega
        · exact hs
    refine Op.ok _ (nI (lapC s (s.td + k) s.np)) hi (fun w hw K hK => ?_) (fun w hw K hK => ?_)
    · refine bX5_pass_0 (by decide) (k_bt (a := 1) (b := 30) (by decide) (by decide) ⟨k, hk1, hk2, rfl⟩ (mm_Kv 1 rfl (bX5_pass_8 (by decide) ?_)))
      rw [hw.td, nI_add]
      have hw2 : RepC (mm_up w 0 7 (nI (s.td + k))) (s.set 4 (fun _ _ => s.td + k)) := hw.c_td (fun i hi => mm_up_row (by omega)) mm_up_same
      refine m_lapse h1 hw2.np (mm_Kr 1 rfl (bX5_pass_29 ?_))
      rw [hw2.du, hw2.st]
      have e := sLap_nI h.1 (day := s.td + k) (by omega) s.np (Nat.le_refl _)
      rw [show (fun p => nI ((s.set 4 (fun _ _ => s.td + k)).du p)) = fun p => nI (s.du p) from rfl, show (fun p => nI ((s.set 4 (fun _ _ => s.td + k)).st p)) = fun p => nI (s.st p) from rfl, e]
      refine hK _ (hw2.c_st (fun i hi => rw_ne (by omega)) rw_at) (fun i hi => ?_)
      rw [rw_ne (by omega), mm_up_row (by omega)]
    · refine bX6_pass_0 (by decide) (k_in (a := 1) (b := 30) (by decide) (by decide) ⟨k, hk1, hk2, rfl⟩ (mm_Kr 0 rfl (bX6_pass_8 (fun h => absurd h (by decide)) (fun _ => bX6_pass_11 (bX6_pass_16 (fun _ => bX6_pass_28 ?_) (fun h => absurd (by decide) h))))))
      have hw1 := hw.th (x := 0)
      rw [hw1.td, nI_add]
      have hw2 : RepM (mm_up (mm_up w 81 26 0) 81 25 (nI (s.td + k))) (s.set 4 (fun _ _ => s.td + k)) := hw1.c_td (fun i hi => mm_up_row (by omega)) (fun j _ _ q => up_ob q) mm_up_same
      have ht : mm_up (mm_up w 81 26 0) 81 25 (nI (s.td + k)) 81 26 = 0 := by rw [up_ob (by decide), th_at]
      have hfr : fM w (mm_up (mm_up w 81 26 0) 81 25 (nI (s.td + k))) := fun i hi => by rw [mm_up_row (by omega), mm_up_row (by omega)]
      generalize mm_up (mm_up w 81 26 0) 81 25 (nI (s.td + k)) = w2 at hw2 ht hfr
      have hst : w2 121 = fun p => nI (lapN s (s.td + k) 0 p) := by
        rw [hw2.st]
        funext p
        have : lapN s (s.td + k) 0 p = s.st p := if_neg (fun z => absurd z.1 (Nat.not_lt_zero _))
        rw [this]
        rfl
      have start : mm_E kX6_pass 42 [.ref 81, .int (nI k), .int (nI 0), .int (nI 0)] [] (mm_rw w2 121 (fun p => nI (lapN s (s.td + k) 0 p))) 0 K := by
        refine e_for (n := s.np) (a0 := 0) (E := fun i a => mm_E kX6_pass 42 [.ref 81, .int (nI k), .int (nI a), .int (nI i)] [] (mm_rw w2 121 (fun p => nI (lapN s (s.td + k) i p))) 0 K) (f := fun p a => a + (if s.st p = 111 ∧ s.du p < s.td + k then 1 else 0)) (fun _ _ => True) trivial (fun _ _ _ _ => trivial) ?_ ?_
        · intro i a hi2 _ ih
          have a1 := in_nI (show i < 20 by omega) (by decide)
          have e17 : mm_rw w2 121 (fun p => nI (lapN s (s.td + k) i p)) 81 17 = nI s.np := by rw [rw_ne (by decide)]; exact hw2.np
          have e25 : mm_rw w2 121 (fun p => nI (lapN s (s.td + k) i p)) 81 25 = nI (s.td + k) := by rw [rw_ne (by decide)]; exact hw2.td
          have e := lap_c h.1 (day := s.td + k) hi2 (by omega)
          rw [lapN_s] at ih
          refine bX6_pass_42 (fun q => absurd (e17 ▸ q) (ge_nI hi2 (by omega))) (fun _ => ?_)
          refine bX6_pass_50 a1 (fun q => ?_) (fun q => ?_) <;> rw [cl_nI (by omega), rw_at] at q
          · refine bX6_pass_61 a1 (fun q2 => ?_) (fun q2 => ?_) <;> rw [e25, cl_nI (by omega), rw_ne (by decide), hw2.du] at q2
            · refine bX6_pass_85 ?_
              rw [nI_1]
              have nq : ¬ (s.st i = 111 ∧ s.du i < s.td + k) := fun z => i32_nlt.mpr q2 (e.mpr z).2
              rw [if_neg nq, if_neg nq] at ih
              exact ih
            · refine bX6_pass_74 a1 (bX6_pass_85 ?_)
              rw [nI_1, nI_1, cl_nI (by omega), up_of_rw]
              have yq : (s.st i = 111 ∧ s.du i < s.td + k) := e.mp ⟨q, i32_nle.mp q2⟩
              rw [if_pos yq, if_pos yq] at ih
              have : upd (fun p => nI (lapN s (s.td + k) i p)) i 108 = fun p => nI (updN (lapN s (s.td + k) i) i 108 p) := upd_nI
              rw [this]
              exact ih
          · refine bX6_pass_85 ?_
            rw [nI_1]
            have nq : ¬ (s.st i = 111 ∧ s.du i < s.td + k) := fun z => q (e.mpr z).1
            rw [if_neg nq, if_neg nq] at ih
            exact ih
        · intro _
          have e17 : mm_rw w2 121 (fun p => nI (lapN s (s.td + k) s.np p)) 81 17 = nI s.np := by rw [rw_ne (by decide)]; exact hw2.np
          refine bX6_pass_42 (fun _ => bX6_pass_91 ?_) (fun q => absurd (e17 ▸ le_nI (Nat.le_refl s.np) (by omega)) q)
          have e : ∀ m, fo (fun p a => a + (if s.st p = 111 ∧ s.du p < s.td + k then 1 else 0)) 0 m = lapC s (s.td + k) m := by
            intro m
            induction m with
            | zero => rfl
            | succ m ih => unfold fo; rw [ih]; rfl
          rw [e]
          refine hK _ _ (hw2.c_st (fun i hi => rw_ne (by omega)) (fun j _ _ => by rw [rw_ne (by decide)]) rw_at (fun p hp hpn hs => ?_)) (hfr.tr (fun i hi => rw_ne (by omega))) (by rw [rw_ne (by decide), ht]; rfl) (fun _ => rfl)
          unfold lapN at hs
          split at hs
          · omega
          · rw [rw_ne (by decide), rw_ne (by omega), rw_ne (by omega), rw_ne (by omega)]
            exact hw2.kp p hp hpn hs
      rw [← hst, rw_self] at start
      exact start
  · refine Op.no 1 0 (h.nx hn) (by decide) (by decide) (fun w hw K hK => ?_) (fun r w hw K hK => ?_)
    · exact bX5_pass_0 (by decide) (k_nbt (a := 1) (b := 30) (by decide) (by decide) hx (mm_Kx rfl (hK _ hw fC.rfl)))
    · refine bX6_pass_0 (by decide) (k_nin (a := 1) (b := 30) (by decide) (by decide) hx (mm_Kr 0 rfl (bX6_pass_8 (fun _ => bX6_pass_15 (bX6_pass_16 (fun h => absurd h (by decide)) (fun _ => bX6_pass_26 ?_))) (fun h => absurd rfl h))))
      exact hK _ _ hw.th fM.th th_at (fun h => absurd h (by decide))
end H2
