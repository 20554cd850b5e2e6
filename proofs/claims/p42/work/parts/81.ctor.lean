/-! the contract of a constructor: its object, and what it makes behind it -/
def kA (h0 sz : Nat) : Nat → Prop := fun a => a = h0 ∨ sz ≤ a
def kc_Pc (s0 : State) (D : va_G) (ci : Nat) (fs : List Value) (h0 sz : Nat) : Array Value → State → Prop := va_Pc [.ref h0] (fun U => s0.WarmedH U.vm ∧ U.heap.size = sz ∧ va_P D vwCl [(h0, .inr (ci, fs))] U.heap)
def kc_Qc {S : Type} (D : va_G) (kW : Nat → S → va_W) (h0 sz : Nat) : Array Value → State → Outcome → State → Prop := va_Qv (S := S) (fun _ => True) (fun q t => va_P D vwCl (kW h0 q) t.heap ∧ va_D (kA h0 sz) (kW h0 q)) (kA h0 sz)
theorem kz_D1 {A : Nat → Prop} {h0 : Nat} {e : va_E} (h : A h0) : va_D A [(h0, e)] := by
  refine ⟨fun i j x y hi hj _ => ?_, fun k x hk => ?_⟩
  · have h1 := (List.getElem?_eq_some_iff.mp hi).1
    have h2 := (List.getElem?_eq_some_iff.mp hj).1
    simp only [List.length_cons, List.length_nil] at h1 h2
    omega
  · have h1 := (List.getElem?_eq_some_iff.mp hk).1
    simp only [List.length_cons, List.length_nil] at h1
    have e : k = 0 := by omega
    subst e
    cases hk
    exact h
theorem kz_D2 {A F : Nat → Prop} {ws L : va_W} (hD : va_D A ws) (hF : va_D F L) (h1 : ∀ (k : Nat) (x : Nat × va_E), ws[k]? = some x → ¬ F x.1) (h2 : ∀ a, F a → A a) : va_D A (ws ++ L) := by
  refine ⟨fun i j x y hi hj e => ?_, fun k x hk => ?_⟩
  · by_cases q1 : i < ws.length
    · rw [List.getElem?_append_left q1] at hi
      by_cases q2 : j < ws.length
      · rw [List.getElem?_append_left q2] at hj
        exact hD.1 i j x y hi hj e
      · rw [List.getElem?_append_right (by omega)] at hj
        have a1 := h1 _ _ hi
        rw [e] at a1
        exact absurd (hF.2 _ _ hj) a1
    · rw [List.getElem?_append_right (by omega)] at hi
      by_cases q2 : j < ws.length
      · rw [List.getElem?_append_left q2] at hj
        have a1 := h1 _ _ hj
        rw [← e] at a1
        exact absurd (hF.2 _ _ hi) a1
      · rw [List.getElem?_append_right (by omega)] at hj
        have := hF.1 _ _ _ _ hi hj e
        omega
  · by_cases q1 : k < ws.length
    · rw [List.getElem?_append_left q1] at hk
      exact hD.2 k x hk
    · rw [List.getElem?_append_right (by omega)] at hk
      exact h2 _ (hF.2 _ _ hk)
section KC
variable {l : Launch} {s0 : State} {a0 : Array Value} {D : va_G} {cs : Nat → ClassId} {b Ls : Nat} {xs : Nat → Int32}
variable {p : Program} {e : Env} {R : Room} {s : State} {m : MethodId} {args : Array Value} {below : List Frame} {meth : Method} {c : Code} {H H0 : Heap} {locs : List Loc} {cells slots : Nat} {Q : State → Prop} {A : Nat → Prop}
variable {cc : ByteArray} {pc : Nat} {ls : Array Slot} {rest : List Value} {ws : va_W}
/-- a call of a constructor of a nest mate; of another's -/
theorem kz_runIN {S : Type} (B : mm_Bs l s0 a0 D cs b Ls xs) (hW : s0.WarmedH s.vm) {own : String} {nL J ci idx w MC MS q : Nat} {bytes : ByteArray} {maxL : Nat} {fs : List Value} {kW : Nat → S → va_W} {rm : Room} (hx : p.tables.exec = Jvm.exec) (hb : c.code = cc) (hml : c.maxLocals = nL) (hown : s.vm.findClass own = some m.cls)
    (hM : Met l (mm_y J) [.code (mm_y J) bytes maxL none] rm (kc_Pc s0 D ci fs q H.size) (kc_Qc D kW q H.size) MC MS (kA q H.size)) (hrc : rm.cells = MC) (hrs : rm.slots = MS) (hfr : rm.frames + 1 ≤ R.frames) (hlo : 8 + (maxL + 11) + rm.locals ≤ R.locals) (hcode : kw (.code (mm_y J) bytes maxL none) = true) (hini : kw (.initialized (mm_y J).cls) = true) (hy : (mm_y J).cls ≠ "java/lang/invoke/MethodHandle" ∧ (mm_y J).cls ≠ "java/lang/invoke/VarHandle") (hlen : (parseMethodDescriptor (mm_y J).desc).map (fun d => d.parameters.length) = some 0) (hnest : lw_tbl[w]? = some (.methodLinkNest own idx (mm_y J) "WareHall")) (hname : (mm_y J).name = "<init>") (hinst : kw (.instanceMethod (mm_y J)) = true)
    (hP : va_P D vwCl [(q, .inr (ci, fs))] H) (hsize : ls.size = nL) (hrest : 8 + 0 ≤ 8 + 0 ∧ (rest.map fun v => v.category).sum ≤ 8) (hdg : decode cc pc = .ok (.invokespecial idx, 3)) (hc : cells + MC ≤ R.cells) (hs : slots + MS ≤ R.slots) :
    va_Run p l e R s m args below meth c H locs cells slots MC MS (F0 m pc ls (.ref q :: rest)) rest (kc_Qc D kW q H.size #[.ref q]) (kA q H.size) := by
  refine va_runIN (As := []) (bytes := bytes) (maxL := maxL) (host := "WareHall") (Ts := []) ⟨hx, hb, hml, hown, fun w h => absurd h List.not_mem_nil⟩ hM ⟨⟨⟨hrc, hrs, hfr, hlo, fun w hw a' U hU => ?_, List.mem_cons_self⟩, kw_b B hW hcode, kw_b B hW hini, hy, mm_hlen (j := J) hlen, mm_nM B hW hnest⟩, hname, kw_b B hW hinst⟩ ⟨fun a U g mk h => h, fun U hU hWU => ⟨rfl, State.WarmedH.trans hW hWU, by rw [hU], by rw [hU]; exact hP⟩⟩ rfl rfl hsize rfl (lv_room hrest.2) hdg ⟨hc, hs⟩
  have : w = .code (mm_y J) bytes maxL none := by simpa using hw
  subst this
  exact kw_b B (State.WarmedH.trans hW hU) hcode
theorem kz_runI {S : Type} (B : mm_Bs l s0 a0 D cs b Ls xs) (hW : s0.WarmedH s.vm) {own : String} {nL J ci idx MC MS q : Nat} {bytes : ByteArray} {maxL : Nat} {fs : List Value} {kW : Nat → S → va_W} {rm : Room} (hx : p.tables.exec = Jvm.exec) (hb : c.code = cc) (hml : c.maxLocals = nL) (hown : s.vm.findClass own = some m.cls)
    (hM : Met l (mm_y J) [.code (mm_y J) bytes maxL none] rm (kc_Pc s0 D ci fs q H.size) (kc_Qc D kW q H.size) MC MS (kA q H.size)) (hrc : rm.cells = MC) (hrs : rm.slots = MS) (hfr : rm.frames + 1 ≤ R.frames) (hlo : 8 + (maxL + 11) + rm.locals ≤ R.locals) (hcode : kw (.code (mm_y J) bytes maxL none) = true) (hini : kw (.initialized (mm_y J).cls) = true) (hy : (mm_y J).cls ≠ "java/lang/invoke/MethodHandle" ∧ (mm_y J).cls ≠ "java/lang/invoke/VarHandle") (hlen : (parseMethodDescriptor (mm_y J).desc).map (fun d => d.parameters.length) = some 0) (hlink : kw (.methodLink own idx (mm_y J)) = true) (hname : (mm_y J).name = "<init>") (hinst : kw (.instanceMethod (mm_y J)) = true)
    (hP : va_P D vwCl [(q, .inr (ci, fs))] H) (hsize : ls.size = nL) (hrest : 8 + 0 ≤ 8 + 0 ∧ (rest.map fun v => v.category).sum ≤ 8) (hdg : decode cc pc = .ok (.invokespecial idx, 3)) (hc : cells + MC ≤ R.cells) (hs : slots + MS ≤ R.slots) :
    va_Run p l e R s m args below meth c H locs cells slots MC MS (F0 m pc ls (.ref q :: rest)) rest (kc_Qc D kW q H.size #[.ref q]) (kA q H.size) := by
  refine va_runI (As := []) (bytes := bytes) (maxL := maxL) (Ts := []) ⟨hx, hb, hml, hown, fun w h => absurd h List.not_mem_nil⟩ hM ⟨⟨hrc, hrs, hfr, hlo, fun w hw a' U hU => ?_, List.mem_cons_self, kw_b B hW hcode, kw_b B hW hini, hy, mm_hlen (j := J) hlen, kw_b B hW hlink⟩, hname, kw_b B hW hinst⟩ ⟨fun a U g mk h => h, fun U hU hWU => ⟨rfl, State.WarmedH.trans hW hWU, by rw [hU], by rw [hU]; exact hP⟩⟩ rfl rfl hsize rfl (lv_room hrest.2) hdg ⟨hc, hs⟩
  have : w = .code (mm_y J) bytes maxL none := by simpa using hw
  subst this
  exact kw_b B (State.WarmedH.trans hW hU) hcode
/-- new, dup, the constructor: its world comes behind -/
theorem kz_make {S : Type} (B : mm_Bs l s0 a0 D cs b Ls xs) (hW : s0.WarmedH s.vm) {own : String} {ci idx MC MS : Nat} {fs : List Value} {kW : Nat → S → va_W} (hci : ci < 6) (hx : p.tables.exec = Jvm.exec) (hb : c.code = cc) (hown : s.vm.findClass own = some m.cls)
    (hcl : kw (.classLink own idx (mm_rn ci)) = true) (hinst : kw (.instantiable (mm_rn ci) (mm_N ci)) = true) (hini : kw (.initialized (mm_rn ci)) = true) (hfs : ∀ j, j < mm_N ci → defaultValue (mm_tyf ci j) = vp_V fs j)
    (hP : va_P D vwCl ws H) (hD : va_D A ws) (hS : va_S A H0 H locs) (hA : ∀ q, H0.size ≤ q → A q) (hc1 : cells + 1 ≤ R.cells) (hs1 : slots + mm_N ci ≤ R.slots) (d0 : decode cc pc = .ok (.new idx, 3)) (d1 : decode cc (pc + 3) = .ok (.dup, 1))
    (hrun : ∀ (q : Nat) (H1 : Heap), va_P D vwCl [(q, .inr (ci, fs))] H1 → va_Run p l e R s m args below meth c H1 locs (cells + 1) (slots + mm_N ci) MC MS (F0 m (pc + 4) ls (.ref q :: .ref q :: rest)) (.ref q :: rest) (kc_Qc D kW q H1.size #[.ref q]) (kA q H1.size))
    (kk : ∀ (q : Nat) (f : S) (H1 : Heap) (locs1 : List Loc), va_P D vwCl (ws ++ kW q f) H1 → va_D A (ws ++ kW q f) → va_S A H0 H1 locs1 → W p l e R s m args below meth c H1 locs1 (cells + 1 + MC) (slots + mm_N ci + MS) Q (F0 m (pc + 7) ls (.ref q :: rest))) : W p l e R s m args below meth c H locs cells slots Q (F0 m pc ls rest) := by
  refine va_new (D := D) (ci := ci) (fs := fs) (C := mm_rn ci) (T := mm_T ci) (N := mm_N ci) hx hb (mm_lays B hW hci) (fun _ h => h) (mm_tyf ci) (mm_tyok hci) hown (kw_b B hW hcl) (kw_b B hW hinst) (kw_b B hW hini) (mm_K B hW) hP hD hS hA (mm_clok hci) hfs hc1 hs1 d0 (fun q H1 hP1 hD1 hS1 => ?_)
  refine lv_dup hx hb d1 rfl ?_
  have hq : (ws ++ [(q, .inr (ci, fs))])[ws.length]? = some (q, .inr (ci, fs)) := by
    rw [List.getElem?_append_right (Nat.le_refl _), Nat.sub_self]
    rfl
  have hsub : ∀ (k : Nat) (x : Nat × va_E), ws[k]? = some x → (ws ++ [(q, .inr (ci, fs))])[k]? = some x := fun k x hk => by
    rw [List.getElem?_append_left (List.getElem?_eq_some_iff.mp hk).1]
    exact hk
  have hPq : va_P D vwCl [(q, .inr (ci, fs))] H1 := fun k x hk => by
    have h1 := (List.getElem?_eq_some_iff.mp hk).1
    simp only [List.length_cons, List.length_nil] at h1
    have e : k = 0 := by omega
    subst e
    cases hk
    exact hP1 _ _ hq
  have hPw : va_P D vwCl ws H1 := fun k x hk => hP1 k x (hsub k x hk)
  have hDw : va_D A ws := hD
  have hqA : A q := hD1.2 _ _ hq
  have hne : ∀ (k : Nat) (x : Nat × va_E), ws[k]? = some x → ¬ kA q H1.size x.1 := fun k x hk h => by
    rcases h with h | h
    · have := hD1.1 _ _ _ _ (hsub k x hk) hq h
      have := (List.getElem?_eq_some_iff.mp hk).1
      omega
    · have := (hPw k x hk).lt
      omega
  have hF : ∀ a, kA q H1.size a → A a := fun a h => by
    rcases h with h | h
    · rw [h]; exact hqA
    · exact hA a (Nat.le_trans hS1.1 h)
  refine va_callv (hrun q H1 hPq) hS1 (fun a _ h => hF a h) hF (fun f t H2 locs2 ht hvm _ hB hz hk hS2 => ?_)
  obtain ⟨hP2, hD2⟩ := hB
  rw [ht] at hP2
  exact kk q f H2 locs2 (va_P.app (hPw.kept (fun k x hx => hk x.1 ((hPw k x hx).lt) (hne k x hx))) hP2) (kz_D2 hDw hD2 hne hF) hS2
end KC
