/-! the class's lines, held as counted keys: key = place on the route * 24 + lot -/
def kyb (x : Nat) : Nat := rt (x / 24)
def kyl (x : Nat) : Nat := x % 24
def ky (b l : Nat) : Nat := rt b * 24 + l
theorem ky_lt {b l : Nat} (hb : b < 40) (hl : l < 24) : ky b l < 960 := by
  have := rt_lt hb
  unfold ky
  omega
theorem kyb_ky {b l : Nat} (hb : b < 40) (hl : l < 24) : kyb (ky b l) = b := by
  unfold kyb ky
  rw [show (rt b * 24 + l) / 24 = rt b by omega, rt_rt hb]
theorem kyl_ky {b l : Nat} (hl : l < 24) : kyl (ky b l) = l := by
  unfold kyl ky
  omega
theorem kyb_lt {x : Nat} (h : x < 960) : kyb x < 40 := rt_lt (by omega)
theorem kyl_lt (x : Nat) : kyl x < 24 := Nat.mod_lt _ (by decide)
/-- a line comes after another: its key is greater -/
theorem aft_ky {x b l : Nat} (hx : x < 960) (hb : b < 40) (hl : l < 24) : aft (kyb x) (kyl x) b l ↔ ky b l < x := by
  have h1 : rt (kyb x) = x / 24 := rt_rt (by omega)
  have h2 := rt_lt hb
  have h3 : kyl x = x % 24 := rfl
  unfold aft ky
  constructor
  · rintro (⟨q1, q2⟩ | ⟨q1, q2⟩)
    · rw [← q1, h1]
      omega
    · rw [h1] at q2
      omega
  · intro q
    by_cases e : kyb x = b
    · left
      rw [← e, h1] at q
      exact ⟨e, by omega⟩
    · right
      refine ⟨e, ?_⟩
      rw [h1]
      have : x / 24 ≠ rt b := fun z => e (by rw [← rt_rt (m := x / 24) (by omega)] at z; exact rt_inj (kyb_lt hx) hb (by rw [h1]; rw [rt_rt (by omega)] at z; exact z))
      omega
/-- rows of three arrays hold the lines of f -/
def Ln (r1 r2 r3 : Nat → Int32) (f : Nat → Nat) : Prop := ∀ x, x < 960 → f x ≠ 0 → r1 (cnt f x) = nI (kyb x) ∧ r2 (cnt f x) = nI (kyl x) ∧ r3 (cnt f x) = nI (f x)
def LnC (w : mmM) (f : Nat → Nat) : Prop := w 5 0 = nI (cnt f 960) ∧ Ln (w 78) (w 79) (w 80) f
