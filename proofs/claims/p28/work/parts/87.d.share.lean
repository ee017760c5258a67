/-! ===== doubles: the bits of a share, both sides ===== -/
theorem cmp_n {E T E2 T2 : Nat} (h1 : 1 ≤ E) (h2 : E ≤ 2046) (hT : T < 4503599627370496) (h3 : E ≤ E2) (h4 : E2 ≤ 2046) (hT2 : T2 < 4503599627370496) : FP.dcmp (nX E T) (nX E2 T2) = some (compare ((4503599627370496 + T : Nat) : Int) (((4503599627370496 + T2) * 2 ^ (E2 - E) : Nat) : Int)) := by
  show FP.Core.cmp FP.Core.b64 (nX E T).toNat (nX E2 T2).toNat = _
  rw [nX_n h2 hT, nX_n h4 hT2]
  unfold FP.Core.cmp nb
  rw [dec_n h1 h2 hT, dec_n (by omega) h4 hT2]
  unfold FP.Core.order FP.Core.inUnits FP.Core.signed
  dsimp only
  rw [Int.min_eq_left (show (E : Int) - 1075 ≤ (E2 : Int) - 1075 by omega), if_neg (by decide), if_neg (by decide)]
  have e1 : ((E : Int) - 1075 - ((E : Int) - 1075)).toNat = 0 := by omega
  have e2 : ((E2 : Int) - 1075 - ((E : Int) - 1075)).toNat = E2 - E := by omega
  rw [e1, e2, Nat.pow_zero, Nat.mul_one]
theorem one_nX : FP.dconst1 = nX 1023 0 := by decide
theorem cmp_lt1 {E T : Nat} (h1 : 1 ≤ E) (h2 : E < 1023) (hT : T < 4503599627370496) : FP.dcmp (nX E T) FP.dconst1 = some .lt := by
  rw [one_nX, cmp_n h1 (by omega) hT (by omega) (by omega) (by omega)]
  refine congrArg some (Int.compare_eq_lt.mpr ?_)
  have h5 : 2 ^ 1 ≤ 2 ^ (1023 - E) := Nat.pow_le_pow_right (by omega) (by omega)
  have h6 := Nat.mul_le_mul_left (4503599627370496 + 0) h5
  have h7 : 4503599627370496 + T < (4503599627370496 + 0) * 2 ^ (1023 - E) := by omega
  exact Int.ofNat_lt.mpr h7
theorem cmp_ge1 {T : Nat} (hT : T < 4503599627370496) : 0 ≤ Op.cmpValue (FP.dcmp (nX 1023 T) FP.dconst1) CmpOp.g := by
  rw [one_nX, cmp_n (by omega) (by omega) hT (by omega) (by omega) (by omega), Nat.sub_self, Nat.pow_zero, Nat.mul_one]
  by_cases c : T = 0
  · rw [c]
    decide
  · have : compare ((4503599627370496 + T : Nat) : Int) ((4503599627370496 + 0 : Nat) : Int) = .gt := Int.compare_eq_gt.mpr (by omega)
    rw [this]
    decide
theorem cmp_gt0 {E T : Nat} (h1 : 1 ≤ E) (h2 : E ≤ 2046) (hT : T < 4503599627370496) : FP.dcmp (nX E T) FP.dconst0 = some .gt := by
  show FP.Core.cmp FP.Core.b64 (nX E T).toNat 0 = _
  rw [nX_n h2 hT]
  unfold FP.Core.cmp nb
  rw [dec_n h1 h2 hT, dec_0]
  unfold FP.Core.order FP.Core.inUnits FP.Core.signed
  dsimp only
  rw [if_neg (by decide), if_neg (by decide), Nat.zero_mul]
  refine congrArg some (Int.compare_eq_gt.mpr ?_)
  have : 0 < (4503599627370496 + T) * 2 ^ ((E : Int) - 1075 - min ((E : Int) - 1075) (-1074)).toNat := Nat.mul_pos (by omega) (Nat.pow_pos (by omega))
  exact Int.ofNat_lt.mpr this
theorem cmp_self {E T : Nat} (h1 : 1 ≤ E) (h2 : E ≤ 2046) (hT : T < 4503599627370496) : FP.dcmp (nX E T) (nX E T) = some .eq := by
  rw [cmp_n h1 h2 hT (Nat.le_refl _) h2 hT, Nat.sub_self, Nat.pow_zero, Nat.mul_one]
  refine congrArg some ?_
  show (if ((4503599627370496 + T : Nat) : Int) < ((4503599627370496 + T : Nat) : Int) then Ordering.lt else if ((4503599627370496 + T : Nat) : Int) = ((4503599627370496 + T : Nat) : Int) then Ordering.eq else Ordering.gt) = .eq
  rw [if_neg (by omega), if_pos rfl]
theorem shl_E : ∀ E, E < 1024 → Int64.ofInt ((E : Nat) : Int) <<< ((52 : Int32).toInt64 &&& 63) = Int64.ofInt ((E * 4503599627370496 : Nat) : Int) := by decide +kernel
theorem p_bits50 {E T : Nat} {x0 : UInt64} (h2 : E ≤ 1023) (hT : T < 4503599627370496) : f_X6_bitsOfShare_b50 x0 (nX 1023 T) (Int64.ofInt (E : Int)) = some (Int64.ofInt (nb E T : Int)) := by
  obtain ⟨h3, h4, h5⟩ := frac_n hT
  unfold f_X6_bitsOfShare_b50
  rw [if_pos h3, if_pos h4, h5, shl_E E (by omega), ← Int64.ofInt_add]
  rfl
theorem p_bitsLoop {x0 : UInt64} {T E0 : Nat} (hT : T < 4503599627370496) (h0 : 1 ≤ E0) : ∀ (k E s F : Nat), E + k = 1023 → 1 ≤ E → E0 + k ≤ 1023 → s + k ≤ 1000 → k < F → f_X6_bitsOfShare_b18 x0 F (nX E T) (Int64.ofInt ((E0 + k : Nat) : Int)) (nI s) = some (Int64.ofInt (nb E0 T : Int)) := by
  intro k
  induction k with
  | zero =>
    intro E s F hE h1 h2 hs hF
    cases F with
    | zero => omega
    | succ F =>
      have e : E = 1023 := by omega
      subst e
      simp only [f_X6_bitsOfShare_b18, fa_lit, nme]
      rw [if_neg (nle_nI (by omega) (by omega) (by omega))]
      have h := cmp_ge1 hT
      simp only [fa_lit] at h
      rw [if_pos h]
      exact p_bits50 (by omega) hT
  | succ k ih =>
    intro E s F hE h1 h2 hs hF
    cases F with
    | zero => omega
    | succ F =>
      simp only [f_X6_bitsOfShare_b18, fa_lit, nme]
      rw [if_neg (nle_nI (by omega) (by omega) (by omega)), cmp_lt1 h1 (by omega) hT, if_neg (by decide), dbl_n h1 (by omega) hT, if_pos (nX_nn (by omega) hT), nI_step]
      have e1 : Int64.ofInt ((E0 + (k + 1) : Nat) : Int) - 1 = Int64.ofInt ((E0 + k : Nat) : Int) := by
        have e2 : (1 : Int64) = Int64.ofInt 1 := by decide
        rw [e2, ← Int64.ofInt_sub]
        exact congrArg Int64.ofInt (by omega)
      rw [e1]
      exact ih (E + 1) (s + 1) F (by omega) (by omega) (by omega) (by omega) (by omega)
theorem p_bitsOfShare {E T : Nat} (h1 : 1000 ≤ E) (h2 : E ≤ 1023) (hT : T < 4503599627370496) : f_X6_bitsOfShare (nX E T) = some (Int64.ofInt (nb E T : Int)) := by
  unfold f_X6_bitsOfShare
  rw [cmp_gt0 (by omega) (by omega) hT, if_pos (by decide)]
  have h := p_bitsLoop (x0 := nX E T) hT (show 1 ≤ E by omega) (1023 - E) E 1 FU (by omega) (by omega) (by omega) (by omega) (FU_big (by omega))
  rw [show E + (1023 - E) = 1023 by omega] at h
  exact h
theorem p_bits0 : f_X6_bitsOfShare 0 = some 0 := by
  unfold f_X6_bitsOfShare
  rw [if_neg (by decide)]
theorem r_bits {E T : Nat} (h1 : 1 ≤ E) (h2 : E ≤ 2046) (hT : T < 4503599627370496) : f_Jxe99ae_doubleToLongBits_ccdee (nX E T) = some (Int64.ofInt (nb E T : Int)) := by
  unfold f_Jxe99ae_doubleToLongBits_ccdee f_Jxe99ae_isNaN_b9ae7
  rw [cmp_self h1 h2 hT, if_pos (by decide)]
  simp only [bs]
  rw [if_pos trivial, Int64.ofInt_eq_ofNat]
  rfl
theorem r_bits0 : f_Jxe99ae_doubleToLongBits_ccdee 0 = some 0 := by
  unfold f_Jxe99ae_doubleToLongBits_ccdee f_Jxe99ae_isNaN_b9ae7
  rw [if_pos (by decide)]
  simp only [bs]
  rw [if_pos trivial]
  rfl
