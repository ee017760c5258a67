/-! ===== an order told and put: both sides ===== -/
def tl (d : Nat → Nat) : Nat := ((0 * 10 + d 0) * 10 + d 1) * 10 + d 2
def tell4 (d : Nat → Nat) : Nat := tl d * 10 + d 3
theorem p_tellBest {b : Nat → Int32} {d : Nat → Nat} (h : ∀ i, i < 4 → b i = nI (d i)) : f_X2_tellBest b = some (nI (tell4 d)) := by
  have st : ∀ F s i, i < 4 → f_X2_tellBest_b4 b (F + 1) (nI s) (nI i) = f_X2_tellBest_b4 b F (nI (s * 10 + d i)) (nI (i + 1)) := by
    intro F s i hi
    simp only [f_X2_tellBest_b4, fa_lit, nme]
    rw [if_neg (nle_nI (by omega) (by omega) hi), if_pos (gd_nI hi (by omega)), cl_nI (by omega), h i hi, pk_mul, nI_step, nI_step]
  obtain ⟨G, e⟩ : ∃ G, FU = G + 1 + 1 + 1 + 1 + 1 := ⟨5995, rfl⟩
  unfold f_X2_tellBest
  rw [e]
  simp only [fa_lit]
  refine Eq.trans (st _ 0 0 (by omega)) (Eq.trans (st _ _ 1 (by omega)) (Eq.trans (st _ _ 2 (by omega)) (Eq.trans (st _ _ 3 (by omega)) ?_)))
  simp only [f_X2_tellBest_b4, fa_lit]
  rw [if_pos ((le_nI (by omega) (by omega)).mpr (Nat.le_refl _))]
  rfl
def ps (d : Nat → Nat) (k : Nat) : Nat := if d 3 = k then 3 else if d 2 = k then 2 else if d 1 = k then 1 else 0
def orD (D : DR) (c : Nat) (d : Nat → Nat) : DR := setP D (fun p => if p / 4 = c then ps d (p % 4) else dP D p)
/-- the places after the first i of the row are put -/
def pu (D : DR) (c : Nat) (d : Nat → Nat) : Nat → Nat → Nat
  | 0 => dP D
  | i + 1 => fun p => if p = c * 4 + d i then i else pu D c d i p
theorem unl_of {d : Nat → Nat} (h : unl d = true) : d 0 ≠ d 1 ∧ d 0 ≠ d 2 ∧ d 0 ≠ d 3 ∧ d 1 ≠ d 2 ∧ d 1 ≠ d 3 ∧ d 2 ≠ d 3 := by
  unfold unl at h
  rw [Bool.not_eq_true'] at h
  simp only [Bool.or_eq_false_iff, decide_eq_false_iff_not] at h
  exact ⟨h.1.1.1.1.1, h.1.1.1.1.2, h.1.1.1.2, h.1.1.2, h.1.2, h.2⟩
theorem pu_4 {D : DR} {c : Nat} {d : Nat → Nat} (hd : ∀ i, i < 4 → d i < 4) (hu : unl d = true) (p : Nat) : pu D c d 4 p = dP (orD D c d) p := by
  obtain ⟨u1, u2, u3, u4, u5, u6⟩ := unl_of hu
  have d0 := hd 0 (by omega)
  have d1 := hd 1 (by omega)
  have d2 := hd 2 (by omega)
  have d3 := hd 3 (by omega)
  show (if p = c * 4 + d 3 then 3 else if p = c * 4 + d 2 then 2 else if p = c * 4 + d 1 then 1 else if p = c * 4 + d 0 then 0 else dP D p) = if p / 4 = c then ps d (p % 4) else dP D p
  by_cases h : p / 4 = c
  · rw [if_pos h]
    unfold ps
    by_cases h3 : d 3 = p % 4
    · rw [if_pos h3, if_pos (by omega)]
    · rw [if_neg h3, if_neg (by omega)]
      by_cases h2 : d 2 = p % 4
      · rw [if_pos h2, if_pos (by omega)]
      · rw [if_neg h2, if_neg (by omega)]
        by_cases h1 : d 1 = p % 4
        · rw [if_pos h1, if_pos (by omega)]
        · rw [if_neg h1, if_neg (by omega), if_pos (by omega)]
  · rw [if_neg h, if_neg (by omega), if_neg (by omega), if_neg (by omega), if_neg (by omega)]
theorem p_putBest {pl b : Nat → Int32} {D : DR} {d : Nat → Nat} {c : Nat} (hc : c < 4) (hp : RR pl (dP D) 16) (hd : ∀ i, i < 4 → d i < 4) (hu : unl d = true) (h : ∀ i, i < 4 → b i = nI (d i)) :
    ∃ pl', f_X2_putBest b (nI c) pl = some pl' ∧ RR pl' (dP (orD D c d)) 16 := by
  have g := loopI (fun F i x => f_X2_putBest_b2 b (nI c) F i x) some (fun i x => RR x (pu D c d i) 16) 4 (fun F i x hi hI => ?_) (fun F x _ => ?_) 4 0 FU pl (by omega) (FU_big (by omega)) hp
  · obtain ⟨pl', e1, e2⟩ := g
    refine ⟨pl', ?_, fun p hp2 => ?_⟩
    · unfold f_X2_putBest
      simp only [fa_lit]
      exact e1
    · rw [e2 p hp2, pu_4 hd hu]
  · have di := hd i hi
    obtain ⟨x', e1, e2⟩ := p_setPlace hI (a := c * 4 + d i) (v := i) (by omega)
    refine ⟨x', ?_, e2⟩
    show f_X2_putBest_b2 b (nI c) (F + 1) (nI i) x = _
    simp only [f_X2_putBest_b2, fa_lit, nme]
    rw [if_neg (nle_nI (by omega) (by omega) hi), if_pos (gd_nI hi (by omega)), cl_nI (by omega), h i hi, pk_mul, nI_step, e1]
    simp only [bs]
    rw [nI_step]
  · show f_X2_putBest_b2 b (nI c) (F + 1) (nI 4) x = _
    simp only [f_X2_putBest_b2, fa_lit]
    rw [if_pos ((le_nI (by omega) (by omega)).mpr (Nat.le_refl _))]
theorem ps_lt (d : Nat → Nat) (k : Nat) : ps d k < 4 := by
  unfold ps
  by_cases h3 : d 3 = k
  · rw [if_pos h3]; omega
  · rw [if_neg h3]
    by_cases h2 : d 2 = k
    · rw [if_pos h2]; omega
    · rw [if_neg h2]
      by_cases h1 : d 1 = k
      · rw [if_pos h1]; omega
      · rw [if_neg h1]; omega
theorem ps_of {d : Nat → Nat} (hd : ∀ i, i < 4 → d i < 4) (hu : unl d = true) {k : Nat} (hk : k < 4) : d (ps d k) = k := by
  obtain ⟨u1, u2, u3, u4, u5, u6⟩ := unl_of hu
  have d0 := hd 0 (by omega)
  have d1 := hd 1 (by omega)
  have d2 := hd 2 (by omega)
  have d3 := hd 3 (by omega)
  unfold ps
  by_cases h3 : d 3 = k
  · rw [if_pos h3]; exact h3
  · rw [if_neg h3]
    by_cases h2 : d 2 = k
    · rw [if_pos h2]; exact h2
    · rw [if_neg h2]
      by_cases h1 : d 1 = k
      · rw [if_pos h1]; exact h1
      · rw [if_neg h1]; omega
theorem orD_wf {D : DR} (hw : WF D) {c : Nat} {d : Nat → Nat} (hd : ∀ i, i < 4 → d i < 4) (hu : unl d = true) : WF (orD D c d) := by
  obtain ⟨w1, w2, w3, w4⟩ := hw
  refine ⟨w1, fun p hp => ?_, fun p q hp hq hpq e => ?_, w4⟩
  · show (if p / 4 = c then ps d (p % 4) else dP D p) < 4
    by_cases q : p / 4 = c
    · rw [if_pos q]; exact ps_lt d _
    · rw [if_neg q]; exact w2 p hp
  · have e : (if p / 4 = c then ps d (p % 4) else dP D p) = (if q / 4 = c then ps d (q % 4) else dP D q) := e
    by_cases h : p / 4 = c
    · rw [if_pos h, if_pos (by omega)] at e
      have x := ps_of hd hu (k := p % 4) (by omega)
      have y := ps_of hd hu (k := q % 4) (by omega)
      rw [e, y] at x
      omega
    · rw [if_neg h, if_neg (by omega)] at e
      exact w3 p q hp hq hpq e
