/-! ===== a ribbon less: the reference ===== -/
theorem DZ_rm {z y : Nat → Int32} {D : DR} {i : Nat} (hz : DZ z D) (hi : i < dN D) (h0 : y 0 = nI (dN D - 1)) (h : ∀ k, 1 ≤ k → k < 18 + 3 * (dN D - 1) → y k = if 18 + 3 * i ≤ k then z (k + 3) else z k) : DZ y (rmD D i) := by
  obtain ⟨_, g1, g2, g3⟩ := hz
  refine ⟨h0, ?_, ?_, ?_⟩
  · rw [h 1 (by omega) (by omega), if_neg (by omega)]; exact g1
  · intro p hp
    rw [h (2 + p) (by omega) (by omega), if_neg (by omega)]; exact g2 p hp
  · intro r hr
    have hr : r < dN D - 1 := hr
    show _ = nI (if r < i then dF D r else dF D (r + 1)) ∧ _ = nI (if r < i then dG D r else dG D (r + 1)) ∧ _ = nI (if r < i then dW D r else dW D (r + 1))
    rw [h _ (by omega) (by omega), h (18 + 3 * r + 1) (by omega) (by omega), h (18 + 3 * r + 2) (by omega) (by omega)]
    by_cases q : r < i
    · rw [if_pos q, if_pos q, if_pos q, if_neg (by omega), if_neg (by omega), if_neg (by omega)]
      exact g3 r (by omega)
    · rw [if_neg q, if_neg q, if_neg q, if_pos (by omega), if_pos (by omega), if_pos (by omega)]
      obtain ⟨a, b, c⟩ := g3 (r + 1) (by omega)
      exact ⟨a, b, c⟩
theorem r_drop {z sv : Nat → Int32} {D : DR} (hz : DZ z D) (hw : WF D) {i : Nat} (hi : i < dN D) (x2 th sa : Int32) :
    ∃ z', f_X7_remove_b54 (nI i) FU x2 (nI (18 + 3 * i)) th (upd z 0 (nI (dN D - 1))) sv sa = some (x2, th, z', sv, sa) ∧ DZ z' (rmD D i) := by
  have hn := hw.1
  have h := loopI (fun F j x => f_X7_remove_b54 (nI i) F x2 j th x sv sa) (fun x => some (x2, th, x, sv, sa))
    (fun j x => 18 + 3 * i ≤ j ∧ x 0 = nI (dN D - 1) ∧ ∀ k, 1 ≤ k → x k = if 18 + 3 * i ≤ k ∧ k < j then z (k + 3) else z k) (18 + 3 * (dN D - 1)) (fun F j x hj hI => ?_) (fun F x hI => ?_) (3 * (dN D - 1) - 3 * i) (18 + 3 * i) FU (upd z 0 (nI (dN D - 1))) (by omega) (FU_big (by omega)) ⟨by omega, upd_q _ _ _, fun k hk => by rw [upd_w (by omega), if_neg (by omega)]⟩
  · obtain ⟨z', e1, e2, e3, e4⟩ := h
    refine ⟨z', e1, DZ_rm hz hi e3 (fun k h1 h2 => ?_)⟩
    rw [e4 k h1]
    by_cases c : 18 + 3 * i ≤ k
    · rw [if_pos ⟨c, h2⟩, if_pos c]
    · rw [if_neg (fun x => c x.1), if_neg c]
  · obtain ⟨h1, h2, h3⟩ := hI
    refine ⟨upd x j (z (j + 3)), ?_, by omega, by rw [upd_w (by omega)]; exact h2, fun k hk => ?_⟩
    · show f_X7_remove_b54 (nI i) (F + 1) x2 (nI j) th x sv sa = _
      simp only [f_X7_remove_b54, fa_lit, nme]
      rw [z0, h2, pk_mul, nI_step, if_neg (nle_nI (by omega) (by omega) hj), nI_step, if_pos (gd_nI (by omega) (by omega)), if_pos (gd_nI (by omega) (by omega)), cl_nI (by omega), cl_nI (by omega), nI_step, h3 (j + 3) (by omega), if_neg (by omega)]
    · by_cases q : k = j
      · rw [q, upd_q, if_pos (by omega)]
      · rw [upd_w q, h3 k hk]
        by_cases c : 18 + 3 * i ≤ k ∧ k < j
        · rw [if_pos c, if_pos (by omega)]
        · rw [if_neg c, if_neg (by omega)]
  · obtain ⟨h1, h2, h3⟩ := hI
    show f_X7_remove_b54 (nI i) (F + 1) x2 (nI (18 + 3 * (dN D - 1))) th x sv sa = _
    simp only [f_X7_remove_b54, fa_lit, nme]
    rw [z0, h2, pk_mul, nI_step, if_pos ((le_nI (by omega) (by omega)).mpr (Nat.le_refl _))]
