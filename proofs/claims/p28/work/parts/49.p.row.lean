/-! ===== the class: what a row costs ===== -/
def unl (d : Nat → Nat) : Bool := !(decide (d 0 = d 1) || decide (d 0 = d 2) || decide (d 0 = d 3) || decide (d 1 = d 2) || decide (d 1 = d 3) || decide (d 2 = d 3))
def cR (C d : Nat → Nat) : Nat := C (d 0 * 4 + d 1) + C (d 0 * 4 + d 2) + C (d 0 * 4 + d 3) + C (d 1 * 4 + d 2) + C (d 1 * 4 + d 3) + C (d 2 * 4 + d 3)
theorem unl_if {α : Type} (d : Nat → Nat) (a b : α) : (if d 0 = d 1 then a else if d 0 = d 2 then a else if d 0 = d 3 then a else if d 1 = d 2 then a else if d 1 = d 3 then a else if d 2 = d 3 then a else b) = if unl d = true then b else a := by
  unfold unl
  by_cases h1 : d 0 = d 1
  · rw [if_pos h1, decide_eq_true h1]; rfl
  · rw [if_neg h1, decide_eq_false h1, Bool.false_or]
    by_cases h2 : d 0 = d 2
    · rw [if_pos h2, decide_eq_true h2]; rfl
    · rw [if_neg h2, decide_eq_false h2, Bool.false_or]
      by_cases h3 : d 0 = d 3
      · rw [if_pos h3, decide_eq_true h3]; rfl
      · rw [if_neg h3, decide_eq_false h3, Bool.false_or]
        by_cases h4 : d 1 = d 2
        · rw [if_pos h4, decide_eq_true h4]; rfl
        · rw [if_neg h4, decide_eq_false h4, Bool.false_or]
          by_cases h5 : d 1 = d 3
          · rw [if_pos h5, decide_eq_true h5]; rfl
          · rw [if_neg h5, decide_eq_false h5, Bool.false_or]
            by_cases h6 : d 2 = d 3
            · rw [if_pos h6, decide_eq_true h6]; rfl
            · rw [if_neg h6, decide_eq_false h6]; rfl
theorem p_costOfRow {row co : Nat → Int32} {C d : Nat → Nat} (hr : ∀ i, i < 4 → row i = nI (d i)) (hd : ∀ i, i < 4 → d i < 4) (hc : ∀ k, k < 16 → co k = nI (C k)) :
    f_X2_costOfRow row co = some (nI (if unl d = true then cR C d else 1000000)) := by
  have st : ∀ (K : Int32 → Int32 → Option Int32) (G s i j : Nat), i < 4 → j < 4 → f_X2_costOfRow_b13 row co K (G + 1) (nI s) (nI i) (nI j) = if d i = d j then some (nI 1000000) else f_X2_costOfRow_b13 row co K G (nI (s + C (d i * 4 + d j))) (nI i) (nI (j + 1)) := by
    intro K G s i j hi hj
    have a := hd i hi
    have b := hd j hj
    simp only [f_X2_costOfRow_b13, fa_lit, nme]
    rw [if_neg (nle_nI (by omega) (by omega) hj)]
    simp only [if_pos (gd_nI hi (show i < 2147483648 by omega)), if_pos (gd_nI hj (show j < 2147483648 by omega))]
    rw [cl_nI (by omega), cl_nI (by omega), hr i hi, hr j hj, pk_mul, nI_step]
    have e := eq_nI (a := d i) (b := d j) (by omega) (by omega)
    simp only [e]
    rw [if_neg (nlt_nI (by omega) (by omega) (by omega)), if_pos ((lt_nI (by omega) (by omega)).mpr (show d i * 4 + d j < 16 by omega)), if_pos (gd_nI (by omega) (by omega)), cl_nI (by omega), hc _ (by omega), nI_step, nI_step]
  have en : ∀ (K : Int32 → Int32 → Option Int32) (G s i : Nat), f_X2_costOfRow_b13 row co K (G + 1) (nI s) (nI i) (nI 4) = K (nI s) (nI (i + 1)) := by
    intro K G s i
    simp only [f_X2_costOfRow_b13, fa_lit, nme]
    rw [if_pos ((le_nI (by omega) (by omega)).mpr (Nat.le_refl _)), nI_step]
  have ou : ∀ (F s i : Nat), i < 4 → f_X2_costOfRow_b4 row co (F + 1) (nI s) (nI i) = f_X2_costOfRow_b13 row co (f_X2_costOfRow_b4 row co F) FU (nI s) (nI i) (nI (i + 1)) := by
    intro F s i hi
    simp only [f_X2_costOfRow_b4, fa_lit, nme]
    rw [if_neg (nle_nI (by omega) (by omega) hi), nI_step]
  have oe : ∀ (F s : Nat), f_X2_costOfRow_b4 row co (F + 1) (nI s) (nI 4) = some (nI s) := by
    intro F s
    simp only [f_X2_costOfRow_b4, fa_lit]
    rw [if_pos ((le_nI (by omega) (by omega)).mpr (Nat.le_refl _))]
  obtain ⟨G, e⟩ : ∃ G, FU = G + 1 + 1 + 1 + 1 + 1 := ⟨5995, rfl⟩
  have main : f_X2_costOfRow row co = if d 0 = d 1 then some (nI 1000000) else if d 0 = d 2 then some (nI 1000000) else if d 0 = d 3 then some (nI 1000000) else if d 1 = d 2 then some (nI 1000000) else if d 1 = d 3 then some (nI 1000000) else if d 2 = d 3 then some (nI 1000000) else some (nI (0 + C (d 0 * 4 + d 1) + C (d 0 * 4 + d 2) + C (d 0 * 4 + d 3) + C (d 1 * 4 + d 2) + C (d 1 * 4 + d 3) + C (d 2 * 4 + d 3))) := by
    unfold f_X2_costOfRow
    simp only [fa_lit]
    have u0 := ou (G + 1 + 1 + 1 + 1) 0 0 (by omega)
    rw [← e] at u0
    rw [u0]
    generalize hK : f_X2_costOfRow_b4 row co (G + 1 + 1 + 1 + 1) = K0
    rw [e]
    rw [st K0 _ 0 0 1 (by omega) (by omega), st K0 _ _ 0 2 (by omega) (by omega), st K0 _ _ 0 3 (by omega) (by omega), en K0, ← hK]
    rw [ou _ _ 1 (by omega)]
    generalize hK1 : f_X2_costOfRow_b4 row co (G + 1 + 1 + 1) = K1
    rw [e]
    rw [st K1 _ _ 1 2 (by omega) (by omega), st K1 _ _ 1 3 (by omega) (by omega), en K1, ← hK1]
    rw [ou _ _ 2 (by omega)]
    generalize hK2 : f_X2_costOfRow_b4 row co (G + 1 + 1) = K2
    rw [e]
    rw [st K2 _ _ 2 3 (by omega) (by omega), en K2, ← hK2]
    rw [ou _ _ 3 (by omega)]
    generalize hK3 : f_X2_costOfRow_b4 row co (G + 1) = K3
    rw [e, en K3, ← hK3, oe]
  rw [main, unl_if]
  unfold cR
  rw [Nat.zero_add]
  by_cases h : unl d = true
  · rw [if_pos h, if_pos h]
  · rw [if_neg h, if_neg h]
