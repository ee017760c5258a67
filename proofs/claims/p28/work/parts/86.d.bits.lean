/-! ===== doubles: the bits of a share ===== -/
theorem log_T {T L : Nat} (hL : T.log2 = L) (hT : T ≠ 0) : 2 ^ L ≤ T ∧ T < 2 ^ (L + 1) := (Nat.log2_eq_iff hT).mp hL
theorem pow_up {L : Nat} (h : L ≤ 52) : 2 ^ L * 2 ^ (52 - L) = 4503599627370496 := by
  rw [← Nat.pow_add, show L + (52 - L) = 52 by omega]
theorem log_lt {T L : Nat} (hT : T ≠ 0) (h : T < 4503599627370496) (hL : T.log2 = L) : L < 52 := by
  rw [← hL]
  have : (4503599627370496 : Nat) = 2 ^ 52 := by decide
  rw [this] at h
  exact (Nat.log2_lt hT).mpr h
/-- the part behind the point of a double from 1 to 2, shifted up to 53 digits -/
theorem up_T {T L : Nat} (hT : T ≠ 0) (h : T < 4503599627370496) (hL : T.log2 = L) : 4503599627370496 ≤ T * 2 ^ (52 - L) ∧ T * 2 ^ (52 - L) < 9007199254740992 := by
  obtain ⟨h1, h2⟩ := log_T hL hT
  have h3 := log_lt hT h hL
  have h4 := pow_up (L := L) (by omega)
  have h5 := Nat.mul_le_mul_right (2 ^ (52 - L)) h1
  have h6 : 0 < 2 ^ (52 - L) := Nat.pow_pos (by omega)
  have h7 := Nat.mul_lt_mul_of_pos_right h2 h6
  rw [Nat.pow_succ, Nat.mul_assoc, Nat.mul_comm 2, ← Nat.mul_assoc, h4] at h7
  omega
theorem dsub_n {T : Nat} (hT : T < 4503599627370496) : FP.dsub (nX 1023 T) FP.dconst1 = if T = 0 then 0 else nX (T.log2 + 971) (T * 2 ^ (52 - T.log2) - 4503599627370496) := by
  show UInt64.ofNat (FP.Core.sub FP.Core.b64 (nX 1023 T).toNat FP.dconst1.toNat) = _
  rw [nX_n (by omega) hT]
  have e1 : FP.dconst1.toNat = 1023 * 4503599627370496 + 0 := by decide
  unfold FP.Core.sub nb
  rw [e1, dec_n (by omega) (by omega) hT, dec_n (by omega) (by omega) (by omega)]
  unfold FP.Core.negate FP.Core.exactSum FP.Core.sumUnits FP.Core.inUnits FP.Core.signed FP.Core.sumSign
  dsimp only
  have e2 : (((1023 : Nat) : Int) - 1075 - min (((1023 : Nat) : Int) - 1075) (((1023 : Nat) : Int) - 1075)).toNat = 0 := by decide
  rw [e2]
  have e3 : (if false = true then -(((4503599627370496 + T) * 2 ^ 0 : Nat) : Int) else (((4503599627370496 + T) * 2 ^ 0 : Nat) : Int)) + (if (!false) = true then -(((4503599627370496 + 0) * 2 ^ 0 : Nat) : Int) else (((4503599627370496 + 0) * 2 ^ 0 : Nat) : Int)) = (T : Int) := by
    rw [if_neg (by decide), if_pos (by decide)]
    omega
  rw [e3]
  have e4 : (if (T : Int) = 0 then false && !false else decide ((T : Int) < 0)) = false := by
    by_cases c : (T : Int) = 0
    · rw [if_pos c]; rfl
    · rw [if_neg c]; exact decide_eq_false (by omega)
  have e5 : min (((1023 : Nat) : Int) - 1075) (((1023 : Nat) : Int) - 1075) = -52 := by decide
  rw [e4, e5, Int.natAbs_natCast]
  by_cases c : T = 0
  · rw [if_pos c, c]
    have e6 : FP.Core.round FP.Core.b64 (.fin false 0 (-52)) = .fin false 0 (-1074) := by
      unfold FP.Core.round FP.Core.roundRatio
      dsimp only
      rw [if_pos rfl, b_qmin]
    rw [e6, enc_0]
    rfl
  · rw [if_neg c]
    obtain ⟨h1, h2⟩ := up_T c hT rfl
    have hl := log_lt c hT rfl
    rw [rnd_n (e := -52) (L := T.log2) (C := T * 2 ^ (52 - T.log2)) c rfl (by omega) (by omega) h2 ?_]
    · have e7 : T * 2 ^ (52 - T.log2) = 4503599627370496 + (T * 2 ^ (52 - T.log2) - 4503599627370496) := by omega
      have e8 := enc_n (E := T.log2 + 971) (T := T * 2 ^ (52 - T.log2) - 4503599627370496) (q := (T.log2 : Int) + -52 - 52) (by omega) (by omega)
      rw [← e7] at e8
      rw [e8]
      rfl
    · rw [show T.log2 - 52 = 0 by omega, Nat.pow_zero]
      have := near_mul (c := T * 2 ^ (52 - T.log2)) (d := 1) (by omega)
      rw [Nat.mul_one] at this
      exact this
theorem dmul_0 : FP.dmul 0 4841369599423283200 = 0 := by
  show UInt64.ofNat (FP.Core.mul FP.Core.b64 0 (4841369599423283200 : UInt64).toNat) = UInt64.ofNat 0
  have e1 : (4841369599423283200 : UInt64).toNat = 1075 * 4503599627370496 + 0 := by decide
  unfold FP.Core.mul
  rw [e1, dec_0, dec_n (by omega) (by omega) (by omega)]
  unfold FP.Core.exactProduct
  dsimp only
  rw [Nat.zero_mul]
  unfold FP.Core.round FP.Core.roundRatio
  dsimp only
  rw [if_pos rfl, show (false != false) = false from rfl, enc_0]
/-- times 2 to the 52 -/
theorem dmul_n {E T : Nat} (h1 : 1 ≤ E) (h2 : E ≤ 1900) (hT : T < 4503599627370496) : FP.dmul (nX E T) 4841369599423283200 = nX (E + 52) T := by
  show UInt64.ofNat (FP.Core.mul FP.Core.b64 (nX E T).toNat (4841369599423283200 : UInt64).toNat) = UInt64.ofNat (nb (E + 52) T)
  rw [nX_n (by omega) hT]
  have e1 : (4841369599423283200 : UInt64).toNat = 1075 * 4503599627370496 + 0 := by decide
  unfold FP.Core.mul nb
  rw [e1, dec_n h1 (by omega) hT, dec_n (by omega) (by omega) (by omega)]
  unfold FP.Core.exactProduct
  dsimp only
  have hlog : ((4503599627370496 + T) * (4503599627370496 + 0)).log2 = 104 := by
    rw [Nat.log2_eq_iff (by omega)]
    constructor
    · have : (2 : Nat) ^ 104 = 4503599627370496 * 4503599627370496 := by decide
      omega
    · have : (2 : Nat) ^ 105 = 9007199254740992 * 4503599627370496 := by decide
      omega
  have hr := rnd_n (e := ((E : Int) - 1075) + (((1075 : Nat) : Int) - 1075)) (C := 4503599627370496 + T) (show (4503599627370496 + T) * (4503599627370496 + 0) ≠ 0 by omega) hlog (by omega) (by omega) (by omega) ?_
  · rw [show (false != false) = false from rfl, hr, enc_n (E := E + 52) (by omega) (by omega)]
  · have e2 : (2 : Nat) ^ (104 - 52) = 4503599627370496 + 0 := by decide
    have e3 : (2 : Nat) ^ (52 - 104) = 1 := by decide
    rw [e2, e3, Nat.mul_one]
    exact near_mul (by omega)
theorem d2l_n {T : Nat} (hT : T < 4503599627370496) (h0 : T ≠ 0) : FP.d2l (nX (T.log2 + 971 + 52) (T * 2 ^ (52 - T.log2) - 4503599627370496)) = Int64.ofInt (T : Int) := by
  obtain ⟨h1, h2⟩ := up_T h0 hT rfl
  have hl := log_lt h0 hT rfl
  show FP.Core.toL (FP.Core.decode FP.Core.b64 (nX (T.log2 + 971 + 52) (T * 2 ^ (52 - T.log2) - 4503599627370496)).toNat) = _
  rw [nX_n (by omega) (by omega)]
  unfold nb
  rw [dec_n (by omega) (by omega) (by omega)]
  unfold FP.Core.toL FP.Core.toInt FP.Core.truncate FP.Core.signed
  dsimp only
  rw [if_neg (by decide)]
  have e1 : (((T.log2 + 971 + 52 : Nat) : Int) - 1075).toNat = 0 := by omega
  have e2 : (-(((T.log2 + 971 + 52 : Nat) : Int) - 1075)).toNat = 52 - T.log2 := by omega
  rw [e1, e2, Nat.pow_zero, Nat.mul_one, show 4503599627370496 + (T * 2 ^ (52 - T.log2) - 4503599627370496) = T * 2 ^ (52 - T.log2) by omega, Nat.mul_div_cancel _ (Nat.pow_pos (by omega))]
  have e3 : max (-2 ^ 63 : Int) (min (2 ^ 63 - 1) (T : Int)) = (T : Int) := by omega
  rw [e3]
theorem d2l_0 : FP.d2l 0 = Int64.ofInt 0 := by
  show FP.Core.toL (FP.Core.decode FP.Core.b64 0) = _
  rw [dec_0]
  unfold FP.Core.toL FP.Core.toInt FP.Core.truncate FP.Core.signed
  dsimp only
  rw [if_neg (by decide), Nat.zero_mul, Nat.zero_div]
  decide
/-- the part behind the point as a long -/
theorem frac_n {T : Nat} (hT : T < 4503599627370496) : nn (FP.dsub (nX 1023 T) FP.dconst1) = true ∧ nn (FP.dmul (FP.dsub (nX 1023 T) FP.dconst1) 4841369599423283200) = true ∧ FP.d2l (FP.dmul (FP.dsub (nX 1023 T) FP.dconst1) 4841369599423283200) = Int64.ofInt (T : Int) := by
  rw [dsub_n hT]
  by_cases c : T = 0
  · rw [if_pos c, dmul_0, d2l_0, c]
    exact ⟨nn_0, nn_0, rfl⟩
  · obtain ⟨h1, h2⟩ := up_T c hT rfl
    have hl := log_lt c hT rfl
    rw [if_neg c, dmul_n (by omega) (by omega) (by omega)]
    exact ⟨nX_nn (by omega) (by omega), nX_nn (by omega) (by omega), d2l_n hT c⟩
