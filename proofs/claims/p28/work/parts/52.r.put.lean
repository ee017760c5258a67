/-! ===== an order put: the reference ===== -/
theorem r_putOrder {z : Nat → Int32} {D : DR} {d : Nat → Nat} {c : Nat} (hz : DZ z D) (hc : c < 4) (hd : ∀ i, i < 4 → d i < 4) (hu : unl d = true) : ∃ z', f_X7_putOrder (nI c) (nI (tell4 d)) z = some z' ∧ DZ z' (orD D c d) := by
  have d0 := hd 0 (by omega)
  have d1 := hd 1 (by omega)
  have d2 := hd 2 (by omega)
  have d3 := hd 3 (by omega)
  have a0 : DZ z (setP D (pu D c d 0)) := hz
  have a1 := DZ_setP a0 (P := pu D c d 1) (a := c * 4 + d 0) (v := 0) (by omega) rfl
  have a2 := DZ_setP a1 (P := pu D c d 2) (a := c * 4 + d 1) (v := 1) (by omega) rfl
  have a3 := DZ_setP a2 (P := pu D c d 3) (a := c * 4 + d 2) (v := 2) (by omega) rfl
  have a4 := DZ_setP a3 (P := pu D c d 4) (a := c * 4 + d 3) (v := 3) (by omega) rfl
  have e : pu D c d 4 = dP (orD D c d) := funext (fun p => pu_4 hd hu p)
  rw [e] at a4
  refine ⟨_, ?_, a4⟩
  have t : tell4 d = d 0 * 1000 + d 1 * 100 + d 2 * 10 + d 3 := by unfold tell4 tl; omega
  unfold f_X7_putOrder
  simp only [fa_lit]
  rw [t]
  rw [div_nI (d := 1000) (by omega) (by omega) (by omega), div_nI (d := 100) (by omega) (by omega) (by omega), div_nI (d := 10) (by omega) (by omega) (by omega), div_nI (d := 10) (by omega) (by omega) (by omega), div_nI (d := 10) (by omega) (by omega) (by omega), pk_mul, pk_mul, pk_mul, pk_mul]
  rw [pk_sub (by omega), pk_sub (by omega), pk_sub (by omega)]
  rw [nI_step, nI_step, nI_step, nI_step, nI_step]
  have g0 : 2 + 4 * c + (d 0 * 1000 + d 1 * 100 + d 2 * 10 + d 3) / 1000 = 2 + (c * 4 + d 0) := by omega
  have g1 : 2 + 4 * c + ((d 0 * 1000 + d 1 * 100 + d 2 * 10 + d 3) / 100 - (d 0 * 1000 + d 1 * 100 + d 2 * 10 + d 3) / 100 / 10 * 10) = 2 + (c * 4 + d 1) := by omega
  have g2 : 2 + 4 * c + ((d 0 * 1000 + d 1 * 100 + d 2 * 10 + d 3) / 10 - (d 0 * 1000 + d 1 * 100 + d 2 * 10 + d 3) / 10 / 10 * 10) = 2 + (c * 4 + d 2) := by omega
  have g3 : 2 + 4 * c + (d 0 * 1000 + d 1 * 100 + d 2 * 10 + d 3 - (d 0 * 1000 + d 1 * 100 + d 2 * 10 + d 3) / 10 * 10) = 2 + (c * 4 + d 3) := by omega
  rw [g0, g1, g2, g3, if_pos (gd_nI (by omega) (by omega)), if_pos (gd_nI (by omega) (by omega)), if_pos (gd_nI (by omega) (by omega)), if_pos (gd_nI (by omega) (by omega)), cl_nI (by omega), cl_nI (by omega), cl_nI (by omega), cl_nI (by omega)]
theorem orD_orD (D : DR) (c : Nat) (d e : Nat → Nat) : orD (orD D c d) c e = orD D c e := by
  show (D.1, D.2.1, (fun p => if p / 4 = c then ps e (p % 4) else dP (orD D c d) p), D.2.2.2) = (D.1, D.2.1, (fun p => if p / 4 = c then ps e (p % 4) else dP D p), D.2.2.2)
  have h : (fun p => if p / 4 = c then ps e (p % 4) else dP (orD D c d) p) = (fun p => if p / 4 = c then ps e (p % 4) else dP D p) := by
    funext p
    by_cases q : p / 4 = c
    · rw [if_pos q, if_pos q]
    · rw [if_neg q, if_neg q]
      exact if_neg q
  rw [h]
theorem r_areUnlike (d : Nat → Nat) (hd : ∀ i, i < 4 → d i < 4) : f_X7_areUnlike (nI (d 0)) (nI (d 1)) (nI (d 2)) (nI (d 3)) = some (bI (unl d)) := by
  have d0 := hd 0 (by omega)
  have d1 := hd 1 (by omega)
  have d2 := hd 2 (by omega)
  have d3 := hd 3 (by omega)
  unfold f_X7_areUnlike
  have e1 := eq_nI (a := d 0) (b := d 1) (by omega) (by omega)
  have e2 := eq_nI (a := d 0) (b := d 2) (by omega) (by omega)
  have e3 := eq_nI (a := d 0) (b := d 3) (by omega) (by omega)
  have e4 := eq_nI (a := d 1) (b := d 2) (by omega) (by omega)
  have e5 := eq_nI (a := d 1) (b := d 3) (by omega) (by omega)
  have e6 := eq_nI (a := d 2) (b := d 3) (by omega) (by omega)
  simp only [fa_lit, e1, e2, e3, e4, e5, e6]
  rw [unl_if]
  unfold bI
  by_cases h : unl d = true
  · rw [if_pos h, if_pos h]
  · rw [if_neg h, if_neg h]
