/-! ===== the reference: one row of numbers, its reads ===== -/
def DZ (z : Nat → Int32) (D : DR) : Prop := z 0 = nI (dN D) ∧ z 1 = dT D ∧ (∀ p, p < 16 → z (2 + p) = nI (dP D p)) ∧ ∀ r, r < dN D → z (18 + 3 * r) = nI (dF D r) ∧ z (18 + 3 * r + 1) = nI (dG D r) ∧ z (18 + 3 * r + 2) = nI (dW D r)
theorem z0 : (nI 0).toNatClampNeg = 0 := by decide
theorem nlt_nI {a b : Nat} (ha : a < 2147483648) (hb : b < 2147483648) (h : b ≤ a) : ¬ nI a < nI b := by rw [lt_nI ha hb]; omega
theorem nle_nI {a b : Nat} (ha : a < 2147483648) (hb : b < 2147483648) (h : b < a) : ¬ nI a ≤ nI b := by rw [le_nI ha hb]; omega
theorem r_in {x a b : Nat} (hx : x < 2147483648) (ha : a < 2147483648) (hb : b < 2147483648) : f_X7_in (nI x) (nI a) (nI b) = some (bI (decide (a ≤ x ∧ x ≤ b))) := by
  unfold f_X7_in
  simp only [fa_lit]
  by_cases h0 : x < a
  · rw [if_pos ((lt_nI hx ha).mpr h0), decide_eq_false (by omega)]; rfl
  · rw [if_neg (nlt_nI hx ha (by omega))]
    by_cases h1 : b < x
    · rw [if_pos ((lt_nI hb hx).mpr h1), decide_eq_false (by omega)]; rfl
    · rw [if_neg (nlt_nI hb hx (by omega)), decide_eq_true (by omega)]; rfl
theorem r_isPost {x : Nat} (hx : x < 2147483648) : f_X7_isPost (nI x) = some (bI (decide (x < 16))) := by
  unfold f_X7_isPost
  simp only [fa_lit]
  rw [r_in hx (by omega) (by omega)]
  simp only [bs]
  rw [if_pos (bI_zb _)]
  exact congrArg (fun b => some (bI b)) (decide_eq_decide.mpr (by omega))
theorem r_isInner {x : Nat} (hx : x < 2147483648) : f_X7_isInner (nI x) = some (bI (decide (4 ≤ x ∧ x < 12))) := by
  unfold f_X7_isInner
  simp only [fa_lit]
  rw [r_in hx (by omega) (by omega)]
  simp only [bs]
  rw [if_pos (bI_zb _)]
  exact congrArg (fun b => some (bI b)) (decide_eq_decide.mpr (by omega))
theorem r_idx (r k : Nat) : nI 18 + nI 3 * nI r + nI k = nI (18 + 3 * r + k) := by rw [pk_mul, nI_add, nI_add]
theorem r_of {z : Nat → Int32} {r k : Nat} (h : 18 + 3 * r + k < 78) : f_X7_of z (nI r) (nI k) = some (z (18 + 3 * r + k)) := by
  unfold f_X7_of
  simp only [fa_lit]
  rw [r_idx, if_pos (gd_nI h (by omega)), cl_nI (by omega)]
theorem r_of0 {z : Nat → Int32} {D : DR} (hz : DZ z D) (hw : WF D) {r : Nat} (hr : r < dN D) : f_X7_of z (nI r) (nI 0) = some (nI (dF D r)) := by
  have hn := hw.1
  rw [r_of (by omega)]
  exact congrArg some (hz.2.2.2 r hr).1
theorem r_of1 {z : Nat → Int32} {D : DR} (hz : DZ z D) (hw : WF D) {r : Nat} (hr : r < dN D) : f_X7_of z (nI r) (nI 1) = some (nI (dG D r)) := by
  have hn := hw.1
  rw [r_of (by omega)]
  exact congrArg some (hz.2.2.2 r hr).2.1
theorem r_of2 {z : Nat → Int32} {D : DR} (hz : DZ z D) (hw : WF D) {r : Nat} (hr : r < dN D) : f_X7_of z (nI r) (nI 2) = some (nI (dW D r)) := by
  have hn := hw.1
  rw [r_of (by omega)]
  exact congrArg some (hz.2.2.2 r hr).2.2
theorem r_place {z : Nat → Int32} {D : DR} (hz : DZ z D) {p : Nat} (hp : p < 16) : f_X7_place z (nI p) = some (nI (dP D p)) := by
  unfold f_X7_place
  simp only [fa_lit]
  rw [nI_add, if_pos (gd_nI (by omega) (by omega)), cl_nI (by omega), hz.2.2.1 p hp]
theorem r_goesOn {z : Nat → Int32} {D : DR} (hz : DZ z D) (hw : WF D) {r : Nat} (hr : r < dN D) : f_X7_goesOn z (nI r) = some (bI (on D r)) := by
  obtain ⟨h1, h2, -, -⟩ := hw.2.2.2 r hr
  unfold f_X7_goesOn
  simp only [fa_lit]
  rw [r_of1 hz hw hr, r_of0 hz hw hr]
  simp only [bs]
  rw [div_nI (by omega) (by omega) (by omega), div_nI (by omega) (by omega) (by omega)]
  unfold on
  by_cases h : dF D r / 4 < dG D r / 4
  · rw [if_neg (nle_nI (by omega) (by omega) h), decide_eq_true h]; rfl
  · rw [if_pos ((le_nI (by omega) (by omega)).mpr (by omega)), decide_eq_false h]; rfl
theorem r_isRibbon {z : Nat → Int32} {D : DR} (hz : DZ z D) (hw : WF D) {a : Nat} (ha : a < 2147483648) : f_X7_isRibbon z (nI a) = some (bI (decide (a < dN D))) := by
  have hn := hw.1
  unfold f_X7_isRibbon
  simp only [fa_lit]
  rw [z0, hz.1]
  by_cases h0 : dN D = 0
  · rw [h0]
    unfold f_X7_in
    rw [if_neg (nlt_nI ha (by omega) (by omega)), if_pos (by rw [Int32.lt_iff_toInt_lt, pk_sub_toInt (by omega) (by omega), nI_toInt ha]; omega)]
    rw [decide_eq_false (by omega)]
    rfl
  · rw [pk_sub (by omega), r_in ha (by omega) (by omega)]
    simp only [bs]
    rw [if_pos (bI_zb _)]
    exact congrArg (fun b => some (bI b)) (decide_eq_decide.mpr (by omega))
set_option maxRecDepth 100000 in
theorem r_cross {z : Nat → Int32} {D : DR} (hz : DZ z D) (hw : WF D) {r q : Nat} (hr : r < dN D) (hq : q < dN D) : f_X7_cross z (nI r) (nI q) = some (bI (crs D r q)) := by
  obtain ⟨h1, h2, -, -⟩ := hw.2.2.2 r hr
  obtain ⟨h3, h4, -, -⟩ := hw.2.2.2 q hq
  have b1 := hw.2.1 _ h1
  have b2 := hw.2.1 _ h2
  have b3 := hw.2.1 _ h3
  have b4 := hw.2.1 _ h4
  unfold f_X7_cross f_X7_cross_b64 f_X7_cross_b65 f_X7_cross_b111 f_X7_cross_b121
  simp only [fa_lit, nme]
  rw [r_of0 hz hw hr, r_of1 hz hw hr, r_of0 hz hw hq, r_of1 hz hw hq, r_goesOn hz hw hr]
  simp only [bs, bI_0]
  rw [r_place hz h1, r_place hz h2, r_place hz h3, r_place hz h4]
  simp only [bs]
  rw [div_nI (by omega) (by omega) (by omega), div_nI (by omega) (by omega) (by omega), div_nI (by omega) (by omega) (by omega), div_nI (by omega) (by omega) (by omega)]
  rw [if_pos trivial, if_neg (show ¬ nI 1 = nI 0 by decide)]
  have e1 := sub_ge0 (a := dP D (dF D r)) (b := dP D (dF D q)) (by omega) (by omega)
  have e2 := sub_gt0 (a := dP D (dG D r)) (b := dP D (dG D q)) (by omega) (by omega)
  have e3 := sub_le0 (a := dP D (dF D r)) (b := dP D (dF D q)) (by omega) (by omega)
  have e4 := sub_ge0 (a := dP D (dG D r)) (b := dP D (dG D q)) (by omega) (by omega)
  have e5 := eq_nI (a := dF D r / 4) (b := dF D q / 4) (by omega) (by omega)
  have e6 := eq_nI (a := dG D r / 4) (b := dG D q / 4) (by omega) (by omega)
  simp only [e1, e2, e3, e4, e5, e6]
  unfold crs jn on
  by_cases o : dF D r / 4 < dG D r / 4
  · rw [if_neg (show ¬ decide (dF D r / 4 < dG D r / 4) = false by rw [decide_eq_true o]; decide)]
    by_cases c1 : dF D r / 4 = dF D q / 4
    · rw [if_pos c1]
      by_cases c2 : dG D r / 4 = dG D q / 4
      · rw [if_pos c2, crs_if, decide_eq_true o, decide_eq_true c1.symm, decide_eq_true c2.symm]; simp only [Bool.true_and]
      · rw [if_neg c2, decide_eq_false (show ¬ dG D q / 4 = dG D r / 4 from fun z => c2 z.symm)]; simp only [Bool.and_false, Bool.false_and]; rfl
    · rw [if_neg c1, decide_eq_false (show ¬ dF D q / 4 = dF D r / 4 from fun z => c1 z.symm)]; simp only [Bool.and_false, Bool.false_and]; rfl
  · rw [if_pos (decide_eq_false o), decide_eq_false o]; simp only [Bool.false_and]; rfl
theorem r_comesIn {z : Nat → Int32} {D : DR} (hz : DZ z D) (hw : WF D) {p : Nat} (hp : p < 16) : f_X7_comesIn z (nI p) = some (nI (comes D p)) := by
  have hn := hw.1
  unfold f_X7_comesIn comes
  simp only [fa_lit]
  refine loopS (fun F s i => f_X7_comesIn_b4 z (nI p) F s i) _ (dN D) (fun s => some (nI s)) ?_ ?_ (FU_big (by omega))
  · intro F i s hi
    obtain ⟨h1, h2, -, -⟩ := hw.2.2.2 i hi
    simp only [f_X7_comesIn_b4, f_X7_comesIn_b42, f_X7_comesIn_b43, nme, fa_lit]
    rw [z0, hz.1, if_neg (nle_nI (by omega) (by omega) hi), r_goesOn hz hw hi, r_of1 hz hw hi, r_of2 hz hw hi]
    simp only [bs, bI_0]
    by_cases o : on D i = false
    · rw [if_pos o, if_neg (fun z => by rw [o] at z; exact absurd z.2 (by decide)), nI_step, nI_step]
    · rw [if_neg o]
      by_cases c : dG D i = p
      · rw [if_pos (by rw [c]), if_pos ⟨c, by simpa using o⟩, nI_step, nI_step]
      · rw [if_neg (by rw [eq_nI (by omega) (by omega)]; exact c), if_neg (fun z => c z.1), nI_step, nI_step]
  · intro F s
    simp only [f_X7_comesIn_b4, fa_lit]
    rw [z0, hz.1, if_pos ((le_nI (by omega) (by omega)).mpr (Nat.le_refl _))]
theorem r_leaves {z : Nat → Int32} {D : DR} (hz : DZ z D) (hw : WF D) {p : Nat} (hp : p < 16) : f_X7_leaves z (nI p) = some (nI (leav D p)) := by
  have hn := hw.1
  unfold f_X7_leaves leav
  simp only [fa_lit]
  refine loopS (fun F s i => f_X7_leaves_b4 z (nI p) F s i) _ (dN D) (fun s => some (nI s)) ?_ ?_ (FU_big (by omega))
  · intro F i s hi
    obtain ⟨h1, h2, -, -⟩ := hw.2.2.2 i hi
    simp only [f_X7_leaves_b4, f_X7_leaves_b42, f_X7_leaves_b43, nme, fa_lit]
    rw [z0, hz.1, if_neg (nle_nI (by omega) (by omega) hi), r_goesOn hz hw hi, r_of0 hz hw hi, r_of2 hz hw hi]
    simp only [bs, bI_0]
    by_cases o : on D i = false
    · rw [if_pos o, if_neg (fun z => by rw [o] at z; exact absurd z.2 (by decide)), nI_step, nI_step]
    · rw [if_neg o]
      by_cases c : dF D i = p
      · rw [if_pos (by rw [c]), if_pos ⟨c, by simpa using o⟩, nI_step, nI_step]
      · rw [if_neg (by rw [eq_nI (by omega) (by omega)]; exact c), if_neg (fun z => c z.1), nI_step, nI_step]
  · intro F s
    simp only [f_X7_leaves_b4, fa_lit]
    rw [z0, hz.1, if_pos ((le_nI (by omega) (by omega)).mpr (Nat.le_refl _))]
