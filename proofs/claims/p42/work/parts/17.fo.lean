/-! folds, loops, small helps -/
def fo {α : Type} (f : Nat → α → α) (a : α) : Nat → α
  | 0 => a
  | n + 1 => f n (fo f a n)
theorem e_for {α : Type} {n : Nat} {f : Nat → α → α} {a0 : α} {E : Nat → α → Prop} (I : Nat → α → Prop) (h0 : I 0 a0) (hI : ∀ i a, i < n → I i a → I (i + 1) (f i a)) (hs : ∀ i a, i < n → I i a → E (i + 1) (f i a) → E i a) (hx : I n (fo f a0 n) → E n (fo f a0 n)) : E 0 a0 := by
  have key : ∀ i, i ≤ n → I i (fo f a0 i) := by
    intro i
    induction i with
    | zero => intro _; exact h0
    | succ i ih => intro hi; exact hI i _ hi (ih (Nat.le_of_lt hi))
  have go : ∀ m i, i + m = n → E i (fo f a0 i) := by
    intro m
    induction m with
    | zero => intro i hi; have : i = n := by omega
              subst this; exact hx (key _ (Nat.le_refl _))
    | succ m ih => intro i hi; exact hs i _ (by omega) (key i (by omega)) (ih (i + 1) (by omega))
  exact go n 0 (by omega)
theorem e_for0 {α : Type} {n : Nat} {f : Nat → α → α} {a0 : α} {E : Nat → α → Prop} (hs : ∀ i a, i < n → E (i + 1) (f i a) → E i a) (hx : E n (fo f a0 n)) : E 0 a0 :=
  e_for (I := fun _ _ => True) trivial (fun _ _ _ _ => trivial) (fun i a hi _ h => hs i a hi h) (fun _ => hx)
theorem fo_cong {α : Type} {f g : Nat → α → α} {a : α} : ∀ {n : Nat}, (∀ i x, i < n → f i x = g i x) → fo f a n = fo g a n
  | 0, _ => rfl
  | n + 1, h => by
    show f n (fo f a n) = g n (fo g a n)
    rw [fo_cong (fun i x hi => h i x (by omega)), h n _ (by omega)]
theorem mm_Kr {k np : Nat} {L rest : List Value} {c : Nat} {K : mmO → mmM → Prop} {r : Value} {v : mmM} (c' : Nat) (hc : c = c') (g : mm_E k np L (r :: rest) v c' K) : mm_Kc k np L rest c K (.inl (some r)) v := by
  subst hc
  exact g
theorem mm_Kv {k np : Nat} {L rest : List Value} {c : Nat} {K : mmO → mmM → Prop} {v : mmM} (c' : Nat) (hc : c = c') (g : mm_E k np L rest v c' K) : mm_Kc k np L rest c K (.inl none) v := by
  subst hc
  exact g
theorem mm_Kx {k np : Nat} {L rest : List Value} {c : Nat} {K : mmO → mmM → Prop} {e : Nat} {v : mmM} (hh : mm_hh k = []) (g : K (.inr e) v) : mm_Kc k np L rest c K (.inr e) v := by
  show if (mm_hh k).isEmpty then K (.inr e) v else _
  rw [hh]
  exact g
theorem nb_1 : narrow .boolean (.int 1) = .int 1 := by decide
theorem nb_0 : narrow .boolean (.int 0) = .int 0 := by decide
def bi (p : Prop) [Decidable p] : Int32 := if p then 1 else 0
theorem bi_t {p : Prop} [Decidable p] (h : p) : bi p = 1 := if_pos h
theorem bi_f {p : Prop} [Decidable p] (h : ¬ p) : bi p = 0 := if_neg h
theorem nb_bi (p : Prop) [Decidable p] : narrow .boolean (.int (bi p)) = .int (bi p) := by
  by_cases h : p
  · rw [bi_t h]; exact nb_1
  · rw [bi_f h]; exact nb_0
theorem bi_eq0 {p : Prop} [Decidable p] : bi p = 0 ↔ ¬ p := by
  by_cases h : p
  · rw [bi_t h]; exact ⟨fun q => absurd q (by decide), fun q => absurd h q⟩
  · rw [bi_f h]; exact ⟨fun _ => h, fun _ => rfl⟩
theorem cl_nI {i : Nat} (h : i < 1000000) : (nI i).toNatClampNeg = i := nI_clamp (by omega)
theorem in_nI {i n : Nat} (h : i < n) (hn : n < 1000000) : mm_in (nI i) n = true := mm_in_nI h (by omega)
theorem ge_nI {i n : Nat} (h : i < n) (hn : n < 1000000) : ¬ nI n ≤ nI i := nI_ge h (by omega)
theorem le_nI {i n : Nat} (h : i ≤ n) (hn : n < 1000000) : nI i ≤ nI n := nI_le h (by omega)
theorem i32_nle {x y : Int32} : ¬ x ≤ y ↔ y < x := by rw [Int32.le_iff_toInt_le, Int32.lt_iff_toInt_lt]; omega
theorem i32_nlt {x y : Int32} : ¬ x < y ↔ y ≤ x := by rw [Int32.le_iff_toInt_le, Int32.lt_iff_toInt_lt]; omega
