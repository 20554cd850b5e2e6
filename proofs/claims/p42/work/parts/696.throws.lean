/-! what the law's last calls throw, of the calls that change things -/
section TH
variable {n : Nat} {s : St} {x y z u : Int32}
theorem t_recv1 (h : Inv n s) {i : Nat} (hi : i < s.ni) (hu : ∀ b, b < 40 → u ≠ nI b) : opC kX5_receive [.ref 0, .int (nI i), .int y, .int z, .int u] s s (.inr 2) := fun w hw K hK => bX5_receive_0 (by decide) (k_rItem h.ni_ hw.ni hi (mm_Kv 1 rfl (bX5_receive_5 (by decide) (k_nBin hu (mm_Kx rfl (hK _ hw fC.rfl))))))
theorem t_recv2 (h : Inv n s) {i b : Nat} (hi : i < s.ni) (hb : b < 40) (hy : ¬ bt 1 30 y) : opC kX5_receive [.ref 0, .int (nI i), .int y, .int z, .int (nI b)] s s (.inr 0) := fun w hw K hK =>
  bX5_receive_0 (by decide) (k_rItem h.ni_ hw.ni hi (mm_Kv 1 rfl (bX5_receive_5 (by decide) (k_rBin hb (mm_Kv 2 rfl (bX5_receive_11 (by decide) (k_nbt (a := 1) (b := 30) (by decide) (by decide) hy (mm_Kx rfl (hK _ hw fC.rfl)))))))))
theorem t_recv3 (h : Inv n s) {i b : Nat} (hi : i < s.ni) (hb : b < 40) (hy : bt 1 30 y) (hz : ¬ bt s.td (s.td + 99) z) : opC kX5_receive [.ref 0, .int (nI i), .int y, .int z, .int (nI b)] s s (.inr 0) := fun w hw K hK => by
  have htd := h.td_; have hnn := h.n_
  refine bX5_receive_0 (by decide) (k_rItem h.ni_ hw.ni hi (mm_Kv 1 rfl (bX5_receive_5 (by decide) (k_rBin hb (mm_Kv 2 rfl (bX5_receive_11 (by decide) (k_bt (a := 1) (b := 30) (by decide) (by decide) hy (mm_Kv 3 rfl (bX5_receive_19 (by decide) ?_)))))))))
  rw [hw.td, b99, nI_add]
  exact k_nbt (by omega) (by omega) hz (mm_Kx rfl (hK _ hw fC.rfl))
theorem t_move1 (h : Inv n s) (hx : ∀ i, i < s.nl → x ≠ nI i) : opC kX5_move [.ref 0, .int x, .int y, .int z, .int u] s s (.inr 2) := fun w hw K hK => bX5_move_0 (by decide) (k_nLot h.nl_ hw.nl hx (mm_Kx rfl (hK _ hw fC.rfl)))
theorem t_disp1 (h : Inv n s) (hx : ∀ i, i < s.nl → x ≠ nI i) : opC kX5_dispose [.ref 0, .int x] s s (.inr 2) := fun w hw K hK => bX5_dispose_0 (by decide) (k_nLot h.nl_ hw.nl hx (mm_Kx rfl (hK _ hw fC.rfl)))
theorem t_count1 (h : Inv n s) {b : Nat} (hb : b < 40) (hy : ∀ i, i < s.nl → y ≠ nI i) : opC kX5_count [.ref 0, .int (nI b), .int y, .int z] s s (.inr 2) := fun w hw K hK => bX5_count_0 (by decide) (k_rBin hb (mm_Kv 1 rfl (bX5_count_5 (by decide) (k_nLot h.nl_ hw.nl hy (mm_Kx rfl (hK _ hw fC.rfl))))))
theorem t_count2 (hx : ∀ i, i < 40 → x ≠ nI i) : opC kX5_count [.ref 0, .int x, .int y, .int z] s s (.inr 2) := fun w hw K hK => bX5_count_0 (by decide) (k_nBin hx (mm_Kx rfl (hK _ hw fC.rfl)))
theorem t_prom1 (h : Inv n s) (hx : ∀ i, i < s.ni → x ≠ nI i) : opC kX5_promise [.ref 0, .int x, .int y, .int z, .int u] s s (.inr 2) := fun w hw K hK => bX5_promise_0 (by decide) (k_nItem h.ni_ hw.ni hx (mm_Kx rfl (hK _ hw fC.rfl)))
theorem t_prom2 (h : Inv n s) {i : Nat} (hi : i < s.ni) (hy : ¬ bt 1 60 y) : opC kX5_promise [.ref 0, .int (nI i), .int y, .int z, .int u] s s (.inr 0) := fun w hw K hK => bX5_promise_0 (by decide) (k_rItem h.ni_ hw.ni hi (mm_Kv 1 rfl (bX5_promise_5 (by decide) (k_nbt (a := 1) (b := 60) (by decide) (by decide) hy (mm_Kx rfl (hK _ hw fC.rfl))))))
theorem t_prom3 (h : Inv n s) {i : Nat} (hi : i < s.ni) (hy : bt 1 60 y) (hz : ¬ bt s.td (s.td + 60) z) : opC kX5_promise [.ref 0, .int (nI i), .int y, .int z, .int u] s s (.inr 0) := fun w hw K hK => by
  have htd := h.td_; have hnn := h.n_
  refine bX5_promise_0 (by decide) (k_rItem h.ni_ hw.ni hi (mm_Kv 1 rfl (bX5_promise_5 (by decide) (k_bt (a := 1) (b := 60) (by decide) (by decide) hy (mm_Kv 2 rfl (bX5_promise_13 (by decide) ?_))))))
  rw [hw.td, show (60 : Int32) = nI 60 from rfl, nI_add]
  exact k_nbt (by omega) (by omega) hz (mm_Kx rfl (hK _ hw fC.rfl))
theorem t_canc1 (h : Inv n s) (hx : ∀ i, i < s.np → x ≠ nI i) : opC kX5_cancel [.ref 0, .int x] s s (.inr 2) := fun w hw K hK => bX5_cancel_0 (by decide) (k_nPromise h.np_ hw.np hx (mm_Kx rfl (hK _ hw fC.rfl)))
theorem t_pick1 (h : Inv n s) (hx : ∀ i, i < s.np → x ≠ nI i) : opC kX5_pick [.ref 0, .int x] s s (.inr 2) := fun w hw K hK => bX5_pick_0 (by decide) (k_nPromise h.np_ hw.np hx (mm_Kx rfl (hK _ hw fC.rfl)))
theorem t_pass1 (hx : ¬ bt 1 30 x) : opC kX5_pass [.ref 0, .int x] s s (.inr 0) := fun w hw K hK => bX5_pass_0 (by decide) (k_nbt (a := 1) (b := 30) (by decide) (by decide) hx (mm_Kx rfl (hK _ hw fC.rfl)))
end TH
