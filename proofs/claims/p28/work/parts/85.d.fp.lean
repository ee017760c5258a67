/-! ===== doubles: normal ones, and what is exact ===== -/
theorem b_tails : FP.Core.Fmt.tails FP.Core.b64 = 4503599627370496 := by decide
theorem b_exps : FP.Core.Fmt.exps FP.Core.b64 = 2048 := by decide
theorem b_qmin : FP.Core.Fmt.qmin FP.Core.b64 = -1074 := by decide
theorem b_qmax : FP.Core.Fmt.qmax FP.Core.b64 = 971 := by decide
theorem b_2p : 2 ^ FP.Core.b64.p = 9007199254740992 := by decide
theorem b_p1 : (FP.Core.b64.p : Int) - 1 = 52 := by decide
theorem dec_n {E T : Nat} (h1 : 1 ≤ E) (h2 : E ≤ 2046) (hT : T < 4503599627370496) : FP.Core.decode FP.Core.b64 (E * 4503599627370496 + T) = .fin false (4503599627370496 + T) ((E : Int) - 1075) := by
  unfold FP.Core.decode FP.Core.fieldE FP.Core.fieldT FP.Core.fieldS
  rw [b_tails, b_exps, b_qmin]
  have e1 : (E * 4503599627370496 + T) / 4503599627370496 = E := by omega
  have e2 : (E * 4503599627370496 + T) % 4503599627370496 = T := by omega
  rw [e1, e2, Nat.mod_eq_of_lt (show E < 2048 by omega), if_neg (by omega), if_neg (by omega), Nat.div_eq_of_lt (show E < 2048 by omega)]
  have e3 : (-1074 : Int) + ((E : Int) - 1) = (E : Int) - 1075 := by omega
  rw [e3]
  rfl
theorem dec_0 : FP.Core.decode FP.Core.b64 0 = .fin false 0 (-1074) := by decide
theorem enc_n {E T : Nat} {q : Int} (h1 : 1 ≤ E) (hq : q = (E : Int) - 1075) : FP.Core.encode FP.Core.b64 (.fin false (4503599627370496 + T) q) = E * 4503599627370496 + T := by
  subst hq
  unfold FP.Core.encode FP.Core.assemble
  rw [b_tails, b_exps, b_qmin]
  dsimp only
  rw [if_neg (by omega)]
  have e1 : ((E : Int) - 1075 - -1074).toNat + 1 = E := by omega
  rw [e1]
  simp
theorem enc_0 (q : Int) : FP.Core.encode FP.Core.b64 (.fin false 0 q) = 0 := by
  unfold FP.Core.encode FP.Core.assemble
  rw [b_tails, b_exps]
  dsimp only
  rw [if_pos (by omega)]
  simp
theorem lead_of {num : Nat} (h : num ≠ 0) : FP.Core.leading num 1 = (num.log2 : Int) := by
  have e : Nat.log2 1 = 0 := by decide
  unfold FP.Core.leading
  rw [e]
  dsimp only
  have e2 : ((num.log2 : Int) - ((0 : Nat) : Int)) = (num.log2 : Int) := by omega
  rw [e2, if_pos]
  have e3 : (-(num.log2 : Int)).toNat = 0 := by omega
  have e4 : (num.log2 : Int).toNat = num.log2 := by omega
  rw [e3, e4]
  have := (Nat.log2_eq_iff h).mp rfl
  omega
theorem near_mul {c d : Nat} (hd : 0 < d) : FP.Core.nearest (c * d) d = c := by
  unfold FP.Core.nearest
  rw [Nat.mul_mod_left, if_pos (by omega), Nat.mul_div_cancel _ hd]
/-- a magnitude whose last digit is kept is rounded to itself -/
theorem settle_n {C : Nat} {Q : Int} (h2 : C < 9007199254740992) (hQ : Q ≤ 971) : FP.Core.settle FP.Core.b64 false C Q = .fin false C Q := by
  unfold FP.Core.settle FP.Core.bound
  rw [b_2p, b_qmax, if_pos h2, if_pos hQ]
theorem rnd_n {num : Nat} {e : Int} {L C : Nat} (hn : num ≠ 0) (hL : num.log2 = L) (hq : -1074 ≤ (L : Int) + e - 52) (hq2 : (L : Int) + e - 52 ≤ 971) (hC : C < 9007199254740992)
    (hv : FP.Core.nearest (num * 2 ^ (52 - L)) (2 ^ (L - 52)) = C) : FP.Core.round FP.Core.b64 (.fin false num e) = .fin false C ((L : Int) + e - 52) := by
  unfold FP.Core.round FP.Core.roundRatio FP.Core.roundAt FP.Core.quantum
  dsimp only
  rw [if_neg hn, lead_of hn, b_qmin, b_p1, hL, Int.max_eq_right hq]
  unfold FP.Core.unitsNum FP.Core.unitsDen
  have e1 : (e - ((L : Int) + e - 52)).toNat = 52 - L := by omega
  have e2 : ((L : Int) + e - 52 - e).toNat = L - 52 := by omega
  rw [e1, e2, Nat.one_mul, hv]
  exact settle_n hC hq2
def nb (E T : Nat) : Nat := E * 4503599627370496 + T
theorem nb_lt {E T : Nat} (h2 : E ≤ 2046) (hT : T < 4503599627370496) : nb E T < 9223372036854775808 := by unfold nb; omega
def nX (E T : Nat) : UInt64 := UInt64.ofNat (nb E T)
theorem nX_n {E T : Nat} (h2 : E ≤ 2046) (hT : T < 4503599627370496) : (nX E T).toNat = nb E T := by
  have := nb_lt h2 hT
  unfold nX
  rw [UInt64.toNat_ofNat']
  exact Nat.mod_eq_of_lt (by omega)
theorem nX_nn {E T : Nat} (h2 : E ≤ 2046) (hT : T < 4503599627370496) : nn (nX E T) = true := by
  have h3 := nb_lt h2 hT
  unfold nn
  refine decide_eq_true ?_
  rw [UInt64.le_iff_toNat_le, UInt64.toNat_and, nX_n h2 hT]
  have e1 : (9223372036854775807 : UInt64).toNat = 2 ^ 63 - 1 := by decide
  have e2 : (9218868437227405312 : UInt64).toNat = 9218868437227405312 := by decide
  rw [e1, e2, Nat.and_two_pow_sub_one_eq_mod, Nat.mod_eq_of_lt (by omega)]
  unfold nb
  omega
theorem nn_0 : nn 0 = true := by decide
/-- twice a normal double -/
theorem dbl_n {E T : Nat} (h1 : 1 ≤ E) (h2 : E ≤ 2000) (hT : T < 4503599627370496) : FP.dmul (nX E T) 4611686018427387904 = nX (E + 1) T := by
  show UInt64.ofNat (FP.Core.mul FP.Core.b64 (nX E T).toNat (4611686018427387904 : UInt64).toNat) = UInt64.ofNat (nb (E + 1) T)
  rw [nX_n (by omega) hT]
  have e1 : (4611686018427387904 : UInt64).toNat = 1024 * 4503599627370496 + 0 := by decide
  unfold FP.Core.mul nb
  rw [e1, dec_n h1 (by omega) hT, dec_n (by omega) (by omega) (by omega)]
  unfold FP.Core.exactProduct
  dsimp only
  have hlog : ((4503599627370496 + T) * (4503599627370496 + 0)).log2 = 104 := by
    rw [Nat.log2_eq_iff (by omega)]
    constructor
    · have : (2 : Nat) ^ 104 = 4503599627370496 * 4503599627370496 := by decide
      omega
    · have : (2 : Nat) ^ 105 = 9007199254740992 * 4503599627370496 := by decide
      omega
  have hr := rnd_n (e := ((E : Int) - 1075) + (((1024 : Nat) : Int) - 1075)) (C := 4503599627370496 + T) (show (4503599627370496 + T) * (4503599627370496 + 0) ≠ 0 by omega) hlog (by omega) (by omega) (by omega) ?_
  · rw [show (false != false) = false from rfl, hr, enc_n (E := E + 1) (by omega) (by omega)]
  · have e2 : (2 : Nat) ^ (104 - 52) = 4503599627370496 + 0 := by decide
    have e3 : (2 : Nat) ^ (52 - 104) = 1 := by decide
    rw [e2, e3, Nat.mul_one]
    exact near_mul (by omega)
