/-! the constructors' world is the mini machine's, with nothing in it but the script -/
def zad (G : Nat → Nat) (b : Nat) (i : Nat) : Nat := if i < 81 then zA G (zTab.getD i (0, 0)) else b
def v0 (xs : Nat → Int32) (Ls : Nat) : mmM := fun i j => if i = 81 then xs j else if i = 82 then nI Ls else 0
def zOk (r : zR) : Bool := decide (r.1 < 81) && decide (zTab.getD r.1 (0, 0) = r.2.1) && decide ((mm_sh r.1).1 = r.2.2.1) && decide ((mm_sh r.1).2.1 = r.2.2.2.1) && (match r.2.2.1 with
  | 2 => decide (r.2.1.2 = 0) && (List.range r.2.2.2.1).all (fun j => decide ((mm_sh r.1).2.2.1 + j < 81) && decide (zTab.getD ((mm_sh r.1).2.2.1 + j) (0, 0) = (r.2.1.1, j + 1)))
  | 3 => decide (r.2.2.2.2 = (mm_sh r.1).2.2.2.map (fun x => match x with | 0 => 0 | y + 1 => (zTab.getD y (0, 0)).1 + 1)) && (mm_sh r.1).2.2.2.all (fun x => match x with | 0 => true | y + 1 => decide (y < 81) && decide ((zTab.getD y (0, 0)).2 = 0))
  | t => decide (t < 4))
theorem zOk_all : zAll.all zOk = true := by decide +kernel
theorem zCov : (List.range 81).all (fun i => zAll.any (fun r => decide (r.1 = i))) = true := by decide +kernel
theorem zarr {c : ClassId} {n : Nat} {f g : Nat → Value} (h : ∀ j, j < n → f j = g j) : arrV c n f = arrV c n g := by
  have hs : (arrV c n f).slots = (arrV c n g).slots := by
    apply Array.ext_getElem?
    intro j
    by_cases hj : j < n
    · rw [arrV_read _ _ hj, arrV_read _ _ hj, h j hj]
    · rw [Array.getElem?_eq_none (by rw [arrV_size]; omega), Array.getElem?_eq_none (by rw [arrV_size]; omega)]
  have ext : ∀ (a b : Cell), a.cls = b.cls → a.slots = b.slots → a.monitor = b.monitor → a.hash = b.hash → a.vm = b.vm → a = b := by
    intro a b h1 h2 h3 h4 h5
    cases a
    cases b
    simp only at h1 h2 h3 h4 h5
    subst h1 h2 h3 h4 h5
    rfl
  exact ext _ _ rfl hs rfl rfl rfl
theorem zmapIdx {α β : Type} {l : List α} {F : Nat → α → β} {W : α → β} (h : ∀ k, ∀ x ∈ l, F k x = W x) : l.mapIdx F = l.map W := by
  apply List.ext_getElem?
  intro k
  rw [List.getElem?_mapIdx, List.getElem?_map]
  cases hx : l[k]? with
  | none => rfl
  | some x => exact congrArg some (h k x (List.mem_of_getElem? hx))
theorem zConv {D : va_G} {cs : Nat → ClassId} {G : Nat → Nat} {b Ls : Nat} {xs : Nat → Int32} {H : Heap} {r : zR} (h : zOk r = true) (hat : va_at D vwCl (zZ cs G r) H) : va_at D vwCl (zad G b r.1, mm_ent cs (zad G b) (v0 xs Ls) r.1) H := by
  obtain ⟨i, ⟨bb, o⟩, t, n, fs⟩ := r
  unfold zOk at h
  simp only [Bool.and_eq_true, decide_eq_true_eq] at h
  obtain ⟨⟨⟨⟨h1, h2⟩, h3⟩, h4⟩, h5⟩ := h
  have ha : ∀ i, i < 81 → zad G b i = zA G (zTab.getD i (0, 0)) := fun i hi => if_pos hi
  have hv : v0 xs Ls i = fun _ => 0 := by
    funext j
    unfold v0
    rw [if_neg (by omega), if_neg (by omega)]
  show va_at D vwCl (zad G b i, mm_ent cs (zad G b) (v0 xs Ls) i) H
  rw [ha i h1, h2]
  match t, h3, h5, hat with
  | 0, h3, h5, hat => rw [mm_ent0 h3, h4, hv]; exact hat
  | 1, h3, h5, hat => rw [mm_ent1 h3, h4, hv]; exact hat
  | 2, h3, h5, hat =>
    simp only [Bool.and_eq_true, decide_eq_true_eq] at h5
    obtain ⟨h6, h7⟩ := h5
    rw [mm_ent2 h3, h4]
    have hat : H[zA G (bb, o)]? = some (arrV (cs 2) n (fun j => va_rf (some (G bb + 1 + j)))) := hat
    show H[zA G (bb, o)]? = some (arrV (cs 2) n (fun j => va_rf (some (zad G b ((mm_sh i).2.2.1 + j)))))
    rw [hat]
    refine congrArg some (zarr fun j hj => ?_)
    have h8 := List.all_eq_true.mp h7 j (List.mem_range.mpr hj)
    simp only [Bool.and_eq_true, decide_eq_true_eq] at h8
    show va_rf (some (G bb + 1 + j)) = va_rf (some (zad G b ((mm_sh i).2.2.1 + j)))
    rw [ha _ h8.1, h8.2]
    rfl
  | 3, h3, h5, hat =>
    simp only [Bool.and_eq_true, decide_eq_true_eq] at h5
    obtain ⟨h6, h7⟩ := h5
    rw [mm_ent3 h3, h4]
    have hl : ((mm_sh i).2.2.2.mapIdx fun k r => mm_fv (zad G b) (v0 xs Ls) i k r) = fs.map (zF G) := by
      rw [h6, List.map_map]
      refine zmapIdx fun k x hx => ?_
      have h8 := List.all_eq_true.mp h7 x hx
      cases x with
      | zero =>
        show Value.int (v0 xs Ls i k) = _
        rw [hv]
        rfl
      | succ y =>
        simp only [Bool.and_eq_true, decide_eq_true_eq] at h8
        show Value.ref (zad G b y) = Value.ref (G (zTab.getD y (0, 0)).1)
        rw [ha y h8.1]
        generalize zTab.getD y (0, 0) = z at h8
        obtain ⟨z1, z2⟩ := z
        simp only at h8
        obtain ⟨-, rfl⟩ := h8
        rfl
    rw [hl]
    exact hat
  | t + 4, h3, h5, hat => exact absurd (of_decide_eq_true (show decide (t + 4 < 4) = true from h5)) (by omega)
theorem zWorld {s0 : State} {D : va_G} {cs : Nat → ClassId} {G : Nat → Nat} {b Ls : Nat} {xs : Nat → Int32} {H : Heap} (hz : s0.heap.size ≤ H.size) (hk : ∀ q, q < s0.heap.size → H[q]? = s0.heap[q]?) (hP : va_P D vwCl (zAll.map (zZ cs G)) H) (hD : va_D (fun q => s0.heap.size ≤ q) (zAll.map (zZ cs G))) : mm_HW s0 D cs (zad G b) b Ls xs (v0 xs Ls) H := by
  have row : ∀ i, i < 81 → ∃ (k : Nat) (r : zR), zAll[k]? = some r ∧ r.1 = i ∧ zOk r = true ∧ (zAll.map (zZ cs G))[k]? = some (zZ cs G r) ∧ zad G b i = (zZ cs G r).1 := by
    intro i hi
    have h1 := List.all_eq_true.mp zCov i (List.mem_range.mpr hi)
    obtain ⟨r, hr, h2⟩ := List.any_eq_true.mp h1
    have h3 := of_decide_eq_true h2
    obtain ⟨k, hk⟩ := List.getElem?_of_mem hr
    have h4 := List.all_eq_true.mp zOk_all r hr
    refine ⟨k, r, hk, h3, h4, by rw [List.getElem?_map, hk]; rfl, ?_⟩
    unfold zOk at h4
    simp only [Bool.and_eq_true, decide_eq_true_eq] at h4
    show (if i < 81 then zA G (zTab.getD i (0, 0)) else b) = zA G r.2.1
    rw [if_pos hi, ← h3, h4.1.1.1.2]
  have hNW : mm_NW = 81 := rfl
  have get : ∀ (k : Nat) (x : Nat × va_E), (mm_wd cs (zad G b) (v0 xs Ls))[k]? = some x → k < 81 ∧ x = (zad G b k, mm_ent cs (zad G b) (v0 xs Ls) k) := by
    intro k x hx
    by_cases q : k < 81
    · rw [mm_wd_get (by rw [hNW]; exact q)] at hx
      cases hx
      exact ⟨q, rfl⟩
    · exfalso
      have := (List.getElem?_eq_some_iff.mp hx).1
      unfold mm_wd at this
      rw [List.length_map, List.length_range, hNW] at this
      omega
  refine ⟨hz, hk, ?_, ⟨?_, ?_⟩, ?_, ?_, ?_⟩
  · intro k x hx
    obtain ⟨q, rfl⟩ := get k x hx
    obtain ⟨j, r, h1, rfl, h3, h4, h5⟩ := row k q
    exact zConv h3 (hP j _ h4)
  · intro i j x y hi hj e
    obtain ⟨qi, rfl⟩ := get i x hi
    obtain ⟨qj, rfl⟩ := get j y hj
    obtain ⟨ki, ri, a1, a2, a3, a4, a5⟩ := row i qi
    obtain ⟨kj, rj, b1, b2, b3, b4, b5⟩ := row j qj
    have e : zad G b i = zad G b j := e
    have hkk := hD.1 ki kj _ _ a4 b4 (by rw [← a5, ← b5]; exact e)
    subst hkk
    rw [a1] at b1
    cases b1
    exact a2.symm.trans b2
  · intro k x hx
    obtain ⟨q, rfl⟩ := get k x hx
    obtain ⟨j, r, h1, h2, h3, h4, h5⟩ := row k q
    have := hD.2 j _ h4
    show s0.heap.size ≤ zad G b k
    rw [h5]
    exact this
  · rw [hNW]
    exact if_neg (by omega)
  · intro j
    rw [hNW]
    exact if_pos rfl
  · rw [hNW]
    show (if 82 = 81 then xs 0 else if 82 = 82 then nI Ls else 0) = nI Ls
    rw [if_neg (by decide), if_pos rfl]
