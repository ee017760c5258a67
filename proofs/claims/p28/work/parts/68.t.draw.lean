/-! ===== texts: the class draws a ribbon ===== -/
section
variable {t : Nat → Int32} {T : Nat → Nat} {n : Nat}
theorem dr_let {i F : Nat} {x3 x4 dn : Int32} {fr to wd : Nat → Int32} (ht : RR t T n) (hn : n ≤ 60) (hi : i < n) (hc : ltr (T i) = true) :
    f_X4_drawInto_b15 t (nI n) (F + 1) (-nI 1) x3 x4 (nI i) fr to wd dn = f_X4_drawInto_b15 t (nI n) F (nI (T i - 97)) x3 x4 (nI (i + 1)) fr to wd dn := by
  have e := ltr_t hc
  simp only [f_X4_drawInto_b15, f_X4_drawInto_b99, nme, fa_lit]
  rw [if_neg (nle_nI (by omega) (by omega) hi), p_codeAt ht hn (by omega), aT_lt hi]
  simp only [bs]
  rw [if_neg (by rw [eq_nI (by omega) (by omega)]; omega), p_isDigit (by omega)]
  simp only [bs, bI_0]
  rw [if_pos (show dgt (T i) = false from decide_eq_false (by omega)), if_pos trivial, pk_sub e.1, nI_step]
theorem dr_let2 {i F f : Nat} {x3 x4 dn : Int32} {fr to wd : Nat → Int32} (ht : RR t T n) (hn : n ≤ 60) (hi : i < n) (hc : ltr (T i) = true) (hf : f < 100) :
    f_X4_drawInto_b15 t (nI n) (F + 1) (nI f) x3 x4 (nI i) fr to wd dn = f_X4_drawInto_b15 t (nI n) F (nI f) (nI (T i - 97)) x4 (nI (i + 1)) fr to wd dn := by
  have e := ltr_t hc
  simp only [f_X4_drawInto_b15, f_X4_drawInto_b99, nme, fa_lit]
  rw [if_neg (nle_nI (by omega) (by omega) hi), p_codeAt ht hn (by omega), aT_lt hi]
  simp only [bs]
  rw [if_neg (by rw [eq_nI (by omega) (by omega)]; omega), p_isDigit (by omega)]
  simp only [bs, bI_0]
  rw [if_pos (show dgt (T i) = false from decide_eq_false (by omega)), if_neg (fun z => (m1_ne (by omega)).mp z), pk_sub e.1, nI_step]
theorem dr_dig {i F w : Nat} {x2 x3 dn : Int32} {fr to wd : Nat → Int32} (ht : RR t T n) (hn : n ≤ 60) (hi : i < n) (hc : dgt (T i) = true) (hw : w < 100) :
    f_X4_drawInto_b15 t (nI n) (F + 1) x2 x3 (nI w) (nI i) fr to wd dn = f_X4_drawInto_b15 t (nI n) F x2 x3 (nI (10 * w + T i - 48)) (nI (i + 1)) fr to wd dn := by
  have e := dgt_t hc
  simp only [f_X4_drawInto_b15, f_X4_drawInto_b99, nme, fa_lit]
  rw [if_neg (nle_nI (by omega) (by omega) hi), p_codeAt ht hn (by omega), aT_lt hi]
  simp only [bs]
  rw [if_neg (by rw [eq_nI (by omega) (by omega)]; omega), p_isDigit (by omega)]
  simp only [bs, bI_0]
  rw [if_neg (by rw [hc]; decide), pk_mul, nI_step, pk_sub (by omega), nI_step, Nat.mul_comm w 10]
theorem dr_rb {p q w H : Nat} {x3 dn : Int32} {fr to wd : Nat → Int32} (ht : RR t T n) (hn : n ≤ 60) (hp : p ≤ n) (hr : rb (aT T n) p = .inr (q, w)) (hH : n < H + p) :
    ∃ H', n < H' + q ∧ f_X4_drawInto_b15 t (nI n) H (-nI 1) x3 (nI 0) (nI p) fr to wd dn = f_X4_drawInto_b15 t (nI n) H' (nI (aT T n p - 97)) (nI (aT T n (p + 1) - 97)) (nI w) (nI q) fr to wd dn := by
  obtain ⟨a1, a2, b1, b2, -, c2, d⟩ := rb_in hr
  have l0 : p < n := aT_ne (T := T) (by omega)
  have l1 : p + 1 < n := aT_ne (T := T) (by omega)
  have l2 : p + 2 < n := aT_ne (T := T) (by omega)
  have v0 := aT_lt (T := T) l0
  have v1 := aT_lt (T := T) l1
  have v2 := aT_lt (T := T) l2
  match H, hH with
  | 0, h => omega
  | 1, h => omega
  | 2, h => omega
  | H + 3, h =>
    rw [dr_let ht hn l0 (decide_eq_true (by omega)), dr_let2 ht hn l1 (decide_eq_true (by omega)) (by omega), show p + 1 + 1 = p + 2 by omega, dr_dig ht hn l2 (decide_eq_true (by omega)) (by omega), v0, v1, show p + 2 + 1 = p + 3 by omega]
    rcases d with ⟨e1, e2, -⟩ | ⟨e1, e2, e3⟩
    · subst e1
      refine ⟨H, by omega, ?_⟩
      rw [e2, v2, show 10 * 0 + T (p + 2) - 48 = T (p + 2) - 48 by omega]
    · subst e1
      have d3 := dgt_t e3.1
      have l3 : p + 3 < n := aT_ne (T := T) (by omega)
      have v3 := aT_lt (T := T) l3
      match H, h with
      | 0, h => omega
      | H + 1, h =>
        refine ⟨H, by omega, ?_⟩
        rw [dr_dig ht hn l3 (by rw [← v3]; exact e3.1) (by omega), e2, v2, v3, show 10 * 0 + T (p + 2) - 48 = T (p + 2) - 48 by omega]
end
