/-! ===== doubles: a share of whole numbers is normal ===== -/
theorem near_lo {num den X : Nat} (hd : 0 < den) (h : X * den ≤ num) : X ≤ FP.Core.nearest num den := by
  have h1 : X ≤ num / den := (Nat.le_div_iff_mul_le hd).mpr h
  unfold FP.Core.nearest
  split
  · exact h1
  · split <;> omega
theorem near_hi {num den Y : Nat} (hd : 0 < den) (h : num < Y * den) : FP.Core.nearest num den ≤ Y := by
  have h1 : num / den < Y := (Nat.div_lt_iff_lt_mul hd).mpr h
  unfold FP.Core.nearest
  split
  · omega
  · split
    · omega
    · have := Nat.mod_lt (num / den) (show 0 < 2 by omega)
      omega
theorem log_le {a b : Nat} (ha : a ≠ 0) (h : a ≤ b) : a.log2 ≤ b.log2 := by
  rw [Nat.le_log2 (by omega)]
  exact Nat.le_trans ((Nat.le_log2 ha).mp (Nat.le_refl _)) h
theorem log_1000 {b : Nat} (hb : b ≠ 0) (h : b ≤ 1000) : b.log2 < 10 := by
  rw [Nat.log2_lt hb]
  have : (2 : Nat) ^ 10 = 1024 := by decide
  omega
def upN (a : Nat) : Nat := a * 2 ^ (52 - a.log2)
theorem upN_in {a : Nat} (h0 : a ≠ 0) (h : a ≤ 1000) : 4503599627370496 ≤ upN a ∧ upN a < 9007199254740992 := up_T h0 (by omega) rfl
theorem i2d_n {a : Nat} (h0 : a ≠ 0) (h : a ≤ 1000) : FP.i2d (nI a) = nX (a.log2 + 1023) (upN a - 4503599627370496) := by
  show UInt64.ofNat (FP.Core.fromInt FP.Core.b64 (nI a).toInt) = _
  rw [nI_toInt (by omega)]
  obtain ⟨h1, h2⟩ := upN_in h0 h
  have hl := log_1000 h0 h
  unfold FP.Core.fromInt FP.Core.ofInt
  rw [decide_eq_false (show ¬ (a : Int) < 0 by omega), Int.natAbs_natCast]
  rw [rnd_n (e := 0) (L := a.log2) (C := upN a) h0 rfl (by omega) (by omega) h2 ?_]
  · have e8 := enc_n (E := a.log2 + 1023) (T := upN a - 4503599627370496) (q := (a.log2 : Int) + 0 - 52) (by omega) (by omega)
    rw [show 4503599627370496 + (upN a - 4503599627370496) = upN a by omega] at e8
    rw [e8]
    rfl
  · rw [show a.log2 - 52 = 0 by omega, Nat.pow_zero]
    have := near_mul (c := a * 2 ^ (52 - a.log2)) (d := 1) (by omega)
    rw [Nat.mul_one] at this
    exact this
theorem i2d_0 : FP.i2d (nI 0) = 0 := by
  show UInt64.ofNat (FP.Core.fromInt FP.Core.b64 (nI 0).toInt) = UInt64.ofNat 0
  rw [nI_toInt (by omega)]
  unfold FP.Core.fromInt FP.Core.ofInt FP.Core.round FP.Core.roundRatio
  dsimp only
  rw [if_pos (by decide), decide_eq_false (show ¬ ((0 : Nat) : Int) < 0 by omega), enc_0]
theorem div_0 {b : Nat} (h0 : b ≠ 0) (h : b ≤ 1000) : FP.ddiv (FP.i2d (nI 0)) (FP.i2d (nI b)) = 0 := by
  obtain ⟨h1, h2⟩ := upN_in h0 h
  have hl := log_1000 h0 h
  rw [i2d_0, i2d_n h0 h]
  show UInt64.ofNat (FP.Core.div FP.Core.b64 0 (nX (b.log2 + 1023) (upN b - 4503599627370496)).toNat) = UInt64.ofNat 0
  rw [nX_n (by omega) (by omega)]
  unfold FP.Core.div nb
  rw [dec_0, dec_n (by omega) (by omega) (by omega)]
  unfold FP.Core.quotient FP.Core.roundRatio
  dsimp only
  rw [if_neg (by omega), if_pos rfl, show (false != false) = false from rfl, enc_0]
theorem lead_eq {c d : Nat} (h1 : 4503599627370496 ≤ c) (h2 : c < 9007199254740992) (h3 : 4503599627370496 ≤ d) (h4 : d < 9007199254740992) : FP.Core.leading c d = if d ≤ c then 0 else -1 := by
  have p52 : (2 : Nat) ^ 52 = 4503599627370496 := by decide
  have p53 : (2 : Nat) ^ (52 + 1) = 9007199254740992 := by decide
  have l1 : c.log2 = 52 := (Nat.log2_eq_iff (by omega)).mpr ⟨by omega, by omega⟩
  have l2 : d.log2 = 52 := (Nat.log2_eq_iff (by omega)).mpr ⟨by omega, by omega⟩
  unfold FP.Core.leading
  rw [l1, l2]
  dsimp only
  have e1 : (((52 : Nat) : Int) - ((52 : Nat) : Int)).toNat = 0 := by decide
  have e2 : (-(((52 : Nat) : Int) - ((52 : Nat) : Int))).toNat = 0 := by decide
  rw [e1, e2, Nat.pow_zero, Nat.mul_one, Nat.mul_one]
  by_cases c1 : d ≤ c
  · rw [if_pos c1, if_pos c1]; decide
  · rw [if_neg c1, if_neg c1]; decide
/-- a magnitude of 53 or 54 digits, rounded, is a normal double -/
theorem enc_settle {N E : Nat} {Q : Int} (h1 : 4503599627370496 ≤ N) (h2 : N ≤ 9007199254740992) (hQ : Q = (E : Int) - 1075) (hE : 1 ≤ E) (hE2 : E ≤ 2000) :
    ∃ E' T', (E' = E ∨ (E' = E + 1 ∧ N = 9007199254740992)) ∧ T' < 4503599627370496 ∧ FP.Core.encode FP.Core.b64 (FP.Core.settle FP.Core.b64 false N Q) = nb E' T' := by
  by_cases c : N < 9007199254740992
  · refine ⟨E, N - 4503599627370496, Or.inl rfl, by omega, ?_⟩
    rw [settle_n c (by omega)]
    have e8 := enc_n (E := E) (T := N - 4503599627370496) (q := Q) hE hQ
    rw [show 4503599627370496 + (N - 4503599627370496) = N by omega] at e8
    exact e8
  · refine ⟨E + 1, 0, Or.inr ⟨rfl, by omega⟩, by omega, ?_⟩
    unfold FP.Core.settle FP.Core.bound
    rw [b_2p, b_qmax, b_tails, if_neg c, if_pos (by omega)]
    exact enc_n (E := E + 1) (T := 0) (q := Q + 1) (by omega) (by omega)
theorem div_n {a b : Nat} (h0 : a ≠ 0) (hab : a ≤ b) (h : b ≤ 1000) : ∃ E T, 1000 ≤ E ∧ E ≤ 1023 ∧ T < 4503599627370496 ∧ FP.ddiv (FP.i2d (nI a)) (FP.i2d (nI b)) = nX E T := by
  obtain ⟨a1, a2⟩ := upN_in h0 (by omega)
  obtain ⟨b1, b2⟩ := upN_in (show b ≠ 0 by omega) h
  have la := log_1000 h0 (by omega)
  have lb := log_1000 (show b ≠ 0 by omega) h
  have lab := log_le h0 hab
  rw [i2d_n h0 (by omega), i2d_n (by omega) h]
  have key : ∃ E T, 1000 ≤ E ∧ E ≤ 1023 ∧ T < 4503599627370496 ∧ FP.Core.encode FP.Core.b64 (FP.Core.roundRatio FP.Core.b64 false (upN a) (upN b) ((((a.log2 + 1023 : Nat) : Int) - 1075) - (((b.log2 + 1023 : Nat) : Int) - 1075))) = nb E T := by
    unfold FP.Core.roundRatio FP.Core.roundAt FP.Core.quantum
    rw [if_neg (by omega), lead_eq a1 a2 b1 b2, b_qmin, b_p1]
    generalize hv : (((a.log2 + 1023 : Nat) : Int) - 1075) - (((b.log2 + 1023 : Nat) : Int) - 1075) = e
    have he : e ≤ 0 ∧ -9 ≤ e ∧ (e = 0 → a.log2 = b.log2) := by omega
    clear hv
    obtain ⟨he1, he2, he3⟩ := he
    unfold FP.Core.unitsNum FP.Core.unitsDen
    by_cases c : upN b ≤ upN a
    · rw [if_pos c, Int.max_eq_right (by omega)]
      have e1 : (e - (0 + e - 52)).toNat = 52 := by omega
      have e2 : (0 + e - 52 - e).toNat = 0 := by omega
      have p52 : (2 : Nat) ^ 52 = 4503599627370496 := by decide
      rw [e1, e2, Nat.pow_zero, Nat.mul_one, p52]
      have n1 : 4503599627370496 ≤ FP.Core.nearest (upN a * 4503599627370496) (upN b) := near_lo (by omega) (by omega)
      have n2 : FP.Core.nearest (upN a * 4503599627370496) (upN b) ≤ 9007199254740992 := near_hi (by omega) (by omega)
      obtain ⟨E', T', g1, g2, g3⟩ := enc_settle (E := (e + 1023).toNat) (Q := 0 + e - 52) n1 n2 (by omega) (by omega) (by omega)
      refine ⟨E', T', by omega, ?_, g2, g3⟩
      rcases g1 with g1 | ⟨g1, g4⟩
      · omega
      · by_cases z : e = 0
        · have hl := he3 z
          have hle : upN a ≤ upN b := by
            unfold upN
            rw [hl]
            exact Nat.mul_le_mul_right _ hab
          have heq : upN a = upN b := by omega
          rw [heq, Nat.mul_comm, near_mul (by omega)] at g4
          omega
        · omega
    · rw [if_neg c, Int.max_eq_right (by omega)]
      have e1 : (e - (-1 + e - 52)).toNat = 53 := by omega
      have e2 : (-1 + e - 52 - e).toNat = 0 := by omega
      have p53 : (2 : Nat) ^ 53 = 9007199254740992 := by decide
      rw [e1, e2, Nat.pow_zero, Nat.mul_one, p53]
      have n1 : 4503599627370496 ≤ FP.Core.nearest (upN a * 9007199254740992) (upN b) := near_lo (by omega) (by omega)
      have n2 : FP.Core.nearest (upN a * 9007199254740992) (upN b) ≤ 9007199254740992 := near_hi (by omega) (by omega)
      obtain ⟨E', T', g1, g2, g3⟩ := enc_settle (E := (e + 1022).toNat) (Q := -1 + e - 52) n1 n2 (by omega) (by omega) (by omega)
      exact ⟨E', T', by omega, by omega, g2, g3⟩
  obtain ⟨E, T, k1, k2, k3, k4⟩ := key
  refine ⟨E, T, k1, k2, k3, ?_⟩
  show UInt64.ofNat (FP.Core.div FP.Core.b64 (nX (a.log2 + 1023) (upN a - 4503599627370496)).toNat (nX (b.log2 + 1023) (upN b - 4503599627370496)).toNat) = UInt64.ofNat (nb E T)
  rw [nX_n (by omega) (by omega), nX_n (by omega) (by omega)]
  unfold FP.Core.div
  have d1 := dec_n (E := a.log2 + 1023) (T := upN a - 4503599627370496) (by omega) (by omega) (by omega)
  have d2 := dec_n (E := b.log2 + 1023) (T := upN b - 4503599627370496) (by omega) (by omega) (by omega)
  rw [show 4503599627370496 + (upN a - 4503599627370496) = upN a by omega] at d1
  rw [show 4503599627370496 + (upN b - 4503599627370496) = upN b by omega] at d2
  rw [show nb (a.log2 + 1023) (upN a - 4503599627370496) = (a.log2 + 1023) * 4503599627370496 + (upN a - 4503599627370496) from rfl, d1, show nb (b.log2 + 1023) (upN b - 4503599627370496) = (b.log2 + 1023) * 4503599627370496 + (upN b - 4503599627370496) from rfl, d2]
  unfold FP.Core.quotient
  dsimp only
  rw [if_neg (by omega), show (false != false) = false from rfl, k4]
