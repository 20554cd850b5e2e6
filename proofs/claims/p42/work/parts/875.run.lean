section RU
variable {w0 : mmM} {K : mmO → mmM → Prop}
theorem law_run {Ls : Nat} (hl : Ls ≤ 1000) (hw0 : RepC w0 st0) (hL : w0 82 0 = nI Ls) (hK : ∀ w', K (.inl (some (.int 1))) w') : mm_E kL_law 8 [.ref 81, .ref 0, .retAddr 0, .retAddr 0, .retAddr 0, .retAddr 0, .retAddr 0, .retAddr 0, .retAddr 0, .retAddr 0, .retAddr 0, .retAddr 0] [] w0 430 K := by
  refine bL_law_8 (by decide) (m_at (k := 0) hL hl (by decide) (mm_Kr 430 rfl (bL_law_14 (by decide) ?_)))
  refine m_some (m := 6) (by decide) (by decide) (fun r hr => mm_Kr 430 rfl (bL_law_19 ?_))
  rw [show (1 : Int32) = nI 1 from rfl, nI_add]
  refine adds_loop (items := 1 + r) (by omega) hL hl ?_ (1 + r) 0 st0 w0 430 (by omega) inv0 rfl rfl hw0 fC.rfl (by omega)
  intro s w c h hj hni hw hf hc
  have hLw : w 82 0 = nI Ls := by rw [hf 82 (by decide)]; exact hL
  refine bL_law_59 (by show c + 0 ≤ 600104; omega) (m_at (k := 1) hLw hl (by decide) (mm_Kr c rfl (bL_law_64 (by show c + 0 ≤ 600104; omega) ?_)))
  refine m_some (m := 50) (by decide) (by decide) (fun st hst => mm_Kr c rfl (bL_law_69 ?_))
  rw [← hni]
  exact law_loop hK hst hL hl st 0 s w c _ _ _ _ _ _ (by omega) h hj (by omega) hw hf (by omega)
end RU
