/-! ===== a ribbon more: the reference ===== -/
theorem r_putRibbon {z : Nat → Int32} {D : DR} (hz : DZ z D) (hn : dN D < 20) (f t w : Nat) : ∃ z', f_X7_putRibbon (nI f) (nI t) (nI w) z = some z' ∧ DZ z' (adD D f t w) := by
  obtain ⟨h0, h1, h2, h3⟩ := hz
  refine ⟨upd (upd (upd (upd z (18 + 3 * dN D + 0) (nI f)) (18 + 3 * dN D + 1) (nI t)) (18 + 3 * dN D + 2) (nI w)) 0 (nI (dN D + 1)), ?_, ?_, ?_, ?_, ?_⟩
  · unfold f_X7_putRibbon
    simp only [fa_lit, nme]
    rw [z0, h0, pk_mul, nI_step, nI_step, nI_step, nI_step, if_pos (gd_nI (by omega) (by omega)), if_pos (gd_nI (by omega) (by omega)), if_pos (gd_nI (by omega) (by omega)), cl_nI (by omega), cl_nI (by omega), cl_nI (by omega)]
    rw [upd_w (by omega), upd_w (by omega), upd_w (by omega), h0, nI_step]
  · exact upd_q _ _ _
  · rw [upd_w (by omega), upd_w (by omega), upd_w (by omega), upd_w (by omega)]; exact h1
  · intro p hp
    rw [upd_w (by omega), upd_w (by omega), upd_w (by omega), upd_w (by omega)]; exact h2 p hp
  · intro r hr
    have hr : r < dN D + 1 := hr
    show _ = nI (if r = dN D then f else dF D r) ∧ _ = nI (if r = dN D then t else dG D r) ∧ _ = nI (if r = dN D then w else dW D r)
    by_cases q : r = dN D
    · subst q
      rw [if_pos rfl, if_pos rfl, if_pos rfl]
      refine ⟨?_, ?_, ?_⟩
      · rw [upd_w (by omega), upd_w (by omega), upd_w (by omega), Nat.add_zero, upd_q]
      · rw [upd_w (by omega), upd_w (by omega), upd_q]
      · rw [upd_w (by omega), upd_q]
    · rw [if_neg q, if_neg q, if_neg q]
      obtain ⟨k1, k2, k3⟩ := h3 r (by omega)
      refine ⟨?_, ?_, ?_⟩
      · rw [upd_w (by omega), upd_w (by omega), upd_w (by omega), upd_w (by omega)]; exact k1
      · rw [upd_w (by omega), upd_w (by omega), upd_w (by omega), upd_w (by omega)]; exact k2
      · rw [upd_w (by omega), upd_w (by omega), upd_w (by omega), upd_w (by omega)]; exact k3
