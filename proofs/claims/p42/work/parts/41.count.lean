/-! count -/
section CT
variable {n : Nat} {s : St} {x y z u : Int32}
/-- the state once the units are as found: f found in bin b of lot l -/
def St.fnd (s : St) (b l f : Nat) : St := if f = s.un l b then s else if s.un l b < f then (s.set 10 (upd2 s.un l b f)).jn 99 l 0 (b + 1) (f - s.un l b) else s.tk 99 l b (s.un l b - f)
def St.cnd (s : St) (b : Nat) : St := s.set 11 (fun _ => updN s.cn b s.td)
theorem fnd_I {b l f : Nat} (h : Inv n s) (hb : b < 40) (hl : l < s.nl) (hf : f ≤ 30) (hsp : s.bl b - s.un l b + f ≤ 30) (hne : f = s.un l b ∨ s.ne < 150) : Inw n (s.fnd b l f) ∧ (∀ j d, (s.fnd b l f).pr j d = s.pr j d) ∧ (∀ j d, j ≠ s.it l → (s.fnd b l f).sk j d = s.sk j d) := by
  have hnl := h.nl_
  have hu := h.1.unb (l := l) hb
  have lu' : ∀ x l2, l2 ≠ l → (s.set 10 (upd2 s.un l b x)).lu l2 = s.lu l2 := by
    intro x l2 z
    have := lu_upd2 (s := s) (l := l) (b := b) (x := x) hb l2
    rw [if_neg z, if_neg z] at this
    omega
  have sk' : ∀ x j d, j ≠ s.it l → sm (fun l2 => if s.it l2 = j ∧ d ≤ s.ex l2 then (s.set 10 (upd2 s.un l b x)).lu l2 else 0) s.nl = s.sk j d := by
    intro x j d hj
    refine sm_cong fun l2 _ => ?_
    by_cases z : l2 = l
    · subst z
      rw [if_neg (fun q => hj q.1.symm), if_neg (fun q => hj q.1.symm)]
    · rw [lu' x l2 z]
  unfold St.fnd
  split
  · exact ⟨h.1, fun _ _ => rfl, fun _ _ _ => rfl⟩
  · rename_i hne2
    have hne : s.ne < 150 := by omega
    split
    · rename_i hlt
      refine ⟨h.1.put hne (by decide) hl (by omega) (by omega) (by omega) (un_keep h.un_ hl) (fun b2 hb2 => ?_) (fun l2 b2 _ _ => ?_), fun _ _ => rfl, fun j d hj => sk' f j d hj⟩
      · have := bl_upd2 (s := s) (l := l) (b := b) (x := f) (by omega) b2
        have h2 := h.bl_ b2 hb2
        by_cases z : b2 = b
        · subst z
          rw [if_pos rfl, if_pos rfl] at this
          omega
        · rw [if_neg z, if_neg z] at this
          omega
      · rw [if_neg (show ¬ (l = l2 ∧ 0 = b2 + 1) by omega)]
        unfold upd2
        by_cases z : l2 = l ∧ b2 = b
        · rw [if_pos z, if_pos ⟨z.1.symm, by omega⟩]
          obtain ⟨z1, z2⟩ := z
          subst z1 z2
          omega
        · rw [if_neg z, if_neg (fun w => z ⟨w.1.symm, by omega⟩)]
    · exact ⟨h.1.tk hne (by decide) hl hb (by omega), fun _ _ => rfl, fun j d hj => sk' _ j d hj⟩
theorem cnd_I {b : Nat} (h : Inw n s) : Inw n (s.cnd b) := h.c_cn (fun b2 => by
  by_cases z : b2 = b
  · subst z; rw [updN_at]; exact Nat.le_refl _
  · rw [updN_ne z]; exact h.cn_ b2)
theorem RepC.cnd {b : Nat} {w : mmM} (hw : RepC w s) : RepC (mm_up w 46 b (nI s.td)) (s.cnd b) := hw.c_cn (fun i hi => mm_up_row (by omega)) (row_nI hw.cn)
theorem fnd_eqs {b l f : Nat} : (s.fnd b l f).nl = s.nl ∧ (s.fnd b l f).ni = s.ni ∧ (s.fnd b l f).td = s.td ∧ (s.fnd b l f).it = s.it ∧ (s.fnd b l f).np = s.np := by
  unfold St.fnd
  split
  · exact ⟨rfl, rfl, rfl, rfl, rfl⟩
  · split <;> exact ⟨rfl, rfl, rfl, rfl, rfl⟩
theorem oc_le {s : St} : s.oc ≤ s.np := by
  have := sm_le_mul (f := fun p => if s.st p = 111 then 1 else 0) (c := 1) (n := s.np) (fun p _ => by show (if _ then _ else _) ≤ _; split <;> omega)
  unfold St.oc
  omega
/-- after the count: the invariant -/
theorem count_I {b l f : Nat} (h : Inv n s) (hb : b < 40) (hl : l < s.nl) (hf : f ≤ 30) (hsp : s.bl b - s.un l b + f ≤ 30) (hne : f = s.un l b ∨ s.ne < 150) : Inv n (brk (s.it l) 20 ((s.fnd b l f).cnd b)).2 := by
  obtain ⟨h1, h2, h3⟩ := fnd_I h hb hl hf hsp hne
  obtain ⟨e1, e2, e3, e4, e5⟩ := fnd_eqs (s := s) (b := b) (l := l) (f := f)
  have hI := cnd_I (b := b) h1
  have hoc : ((s.fnd b l f).cnd b).oc ≤ 20 := Nat.le_trans oc_le hI.np_
  obtain ⟨g1, g2, g3, g4, g5⟩ := brk_fin (i := s.it l) 20 _ hI hoc
  refine ⟨g1, fun j d hj hd => ?_⟩
  generalize (brk (s.it l) 20 ((s.fnd b l f).cnd b)).2 = s2 at g1 g2 g3 g4 g5 hd ⊢
  have t5 : s2.td = s.td := g5.trans e3
  by_cases z : j = s.it l
  · subst z
    by_cases q : d < s2.td + 61
    · have := sLast_none g2 (d - s2.td) (by omega)
      have := of_decide_eq_false this
      rw [show s2.td + (d - s2.td) = d by omega] at this
      omega
    · rw [pr_0 (fun p hp h1 h2 => by have := g1.du_ p hp h1; omega)]
      omega
  · have q1 : s2.pr j d ≤ s.pr j d := Nat.le_trans (g3 j d) (Nat.le_of_eq (h2 j d))
    have q2 : s2.sk j d = s.sk j d := (g4 j d).trans (h3 j d z)
    rw [q2]
    exact Nat.le_trans q1 (h.cv_ j d hj (by omega))
end CT
