/-! ===== the reference: a column put in order ===== -/
def swC (D : DR) (c : Nat) : DR := setP D (fun p => if p / 4 = c then rk D c (p % 4) else dP D p)
def rkCode (D : DR) (c : Nat) : Nat := 4 * (4 * (4 * (4 * 0 + rk D c 3) + rk D c 2) + rk D c 1) + rk D c 0
theorem down_nI : (nI 3 + -nI 1 = nI 2) ∧ (nI 2 + -nI 1 = nI 1) ∧ (nI 1 + -nI 1 = nI 0) ∧ (nI 0 + -nI 1 = -nI 1) := by decide
theorem r_ranks {z s m : Nat → Int32} {D : DR} (hz : DZ z D) (hw : WF D) {c : Nat} (hc : c < 4) (hs : ∀ k, k < 4 → s k = nI (mU D c k) ∧ m k = nI (mV D c k)) :
    f_X7_sweepColumn_b183 (nI c) FU (nI 0) (nI 3) z s m = f_X7_sweepColumn_b247 (nI c) FU (nI (rkCode D c)) (nI 0) z s m := by
  have st : ∀ F q k, k < 4 → f_X7_sweepColumn_b183 (nI c) (F + 1) (nI q) (nI k) z s m = f_X7_sweepColumn_b183 (nI c) F (nI (4 * q + rk D c k)) (nI k + -nI 1) z s m := by
    intro F q k hk
    rw [← r_rank hz hw hc hk hs (f_X7_sweepColumn_b183 (nI c) F) q]
    simp only [f_X7_sweepColumn_b183, fa_lit]
    rw [if_neg (nlt_nI (by omega) (by omega) (by omega))]
  have go : ∀ F, 4 < F → f_X7_sweepColumn_b183 (nI c) F (nI 0) (nI 3) z s m = f_X7_sweepColumn_b247 (nI c) FU (nI (rkCode D c)) (nI 0) z s m := by
    intro F hF
    obtain ⟨G, e⟩ : ∃ G, F = G + 1 + 1 + 1 + 1 + 1 := ⟨F - 5, by omega⟩
    rw [e, st _ _ _ (by omega), down_nI.1, st _ _ _ (by omega), down_nI.2.1, st _ _ _ (by omega), down_nI.2.2.1, st _ _ _ (by omega), down_nI.2.2.2]
    simp only [f_X7_sweepColumn_b183, fa_lit]
    rw [if_pos m1_lt0]
    rfl
  exact go FU (FU_big (by omega))
theorem unpack4 : ∀ x, x < 256 → ∀ k, k < 4 → (nI x >>> ((nI 2 * nI k) &&& nI 31)) &&& nI 3 = nI (x / 4 ^ k % 4) := by decide +kernel
theorem rkCode_lt (D : DR) (c : Nat) : rkCode D c < 256 := by
  have h0 := rk_lt D (c := c) (show 0 < 4 by omega)
  have h1 := rk_lt D (c := c) (show 1 < 4 by omega)
  have h2 := rk_lt D (c := c) (show 2 < 4 by omega)
  have h3 := rk_lt D (c := c) (show 3 < 4 by omega)
  unfold rkCode; omega
theorem rkCode_at (D : DR) (c : Nat) : ∀ k, k < 4 → rkCode D c / 4 ^ k % 4 = rk D c k := by
  have h0 := rk_lt D (c := c) (show 0 < 4 by omega)
  have h1 := rk_lt D (c := c) (show 1 < 4 by omega)
  have h2 := rk_lt D (c := c) (show 2 < 4 by omega)
  have h3 := rk_lt D (c := c) (show 3 < 4 by omega)
  intro k hk
  unfold rkCode
  match k, hk with
  | 0, _ => show _ / 1 % 4 = _; omega
  | 1, _ => show _ / 4 % 4 = _; omega
  | 2, _ => show _ / 16 % 4 = _; omega
  | 3, _ => show _ / 64 % 4 = _; omega
theorem r_sweepColumn {z s m : Nat → Int32} {D : DR} (hz : DZ z D) (hw : WF D) {c : Nat} (hc : c < 4) : ∃ z' s' m', f_X7_sweepColumn (nI c) z s m = some (z', s', m') ∧ DZ z' (swC D c) := by
  obtain ⟨s0, m0, e0, h0⟩ := r_means0 (nI c) z s m
  obtain ⟨s1, m1, e1, h1⟩ := r_means1 hz hw hc s0 m0 h0
  obtain ⟨s2, m2, e2, h2⟩ := r_means2 hz hw hc s1 m1 h1
  have e3 := r_ranks hz hw hc h2
  have h := loopI (fun F i x => f_X7_sweepColumn_b247 (nI c) F (nI (rkCode D c)) i x s2 m2) (fun x => some (x, s2, m2))
    (fun i x => DZ x (setP D (fun p => if p / 4 = c ∧ p % 4 < i then rk D c (p % 4) else dP D p))) 4 (fun F i x hi hI => ?_) (fun F x hI => ?_) 4 0 FU z (by omega) (FU_big (by omega)) ?_
  · obtain ⟨z', e4, h4⟩ := h
    refine ⟨z', s2, m2, e0.trans (e1.trans (e2.trans (e3.trans e4))), ?_⟩
    have e : (fun p => if p / 4 = c ∧ p % 4 < 4 then rk D c (p % 4) else dP D p) = fun p => if p / 4 = c then rk D c (p % 4) else dP D p := by
      funext p
      by_cases q : p / 4 = c
      · rw [if_pos q, if_pos ⟨q, by omega⟩]
      · rw [if_neg q, if_neg (fun h => q h.1)]
    rw [e] at h4
    exact h4
  · refine ⟨upd x (2 + (4 * c + i)) (nI (rk D c i)), ?_, ?_⟩
    · show f_X7_sweepColumn_b247 (nI c) (F + 1) (nI (rkCode D c)) (nI i) x s2 m2 = _
      simp only [f_X7_sweepColumn_b247, fa_lit, nme]
      rw [if_neg (nle_nI (by omega) (by omega) hi), unpack4 _ (rkCode_lt D c) i hi, rkCode_at D c i hi, pk_mul, nI_step, nI_step, nI_step, if_pos (gd_nI (by omega) (by omega)), cl_nI (by omega), Nat.add_assoc]
    · refine DZ_setP hI (P := fun p => if p / 4 = c ∧ p % 4 < i + 1 then rk D c (p % 4) else dP D p) (a := 4 * c + i) (v := rk D c i) (by omega) ?_
      funext p
      show _ = if p = 4 * c + i then rk D c i else if p / 4 = c ∧ p % 4 < i then rk D c (p % 4) else dP D p
      by_cases q : p = 4 * c + i
      · have q1 : p % 4 = i := by omega
        rw [if_pos q, if_pos ⟨by omega, by omega⟩, q1]
      · rw [if_neg q]
        by_cases q2 : p / 4 = c ∧ p % 4 < i
        · rw [if_pos q2, if_pos ⟨q2.1, by omega⟩]
        · rw [if_neg q2, if_neg (fun h => q2 ⟨h.1, by omega⟩)]
  · show f_X7_sweepColumn_b247 (nI c) (F + 1) (nI (rkCode D c)) (nI 4) x s2 m2 = _
    simp only [f_X7_sweepColumn_b247, fa_lit, nme]
    rw [if_pos ((le_nI (by omega) (by omega)).mpr (Nat.le_refl _))]
  · have e : setP D (fun p => if p / 4 = c ∧ p % 4 < 0 then rk D c (p % 4) else dP D p) = D := by
      have e : (fun p => if p / 4 = c ∧ p % 4 < 0 then rk D c (p % 4) else dP D p) = D.2.2.1 := by
        funext p
        rw [if_neg (fun h => Nat.not_lt_zero _ h.2)]
        rfl
      unfold setP
      rw [e]
    show DZ z (setP D (fun p => if p / 4 = c ∧ p % 4 < 0 then rk D c (p % 4) else dP D p))
    rw [e]
    exact hz
