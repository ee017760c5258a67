/-! ===== the law's rows: ribbons, crossings, sums ===== -/
def LZ (zr : Nat → Int32) (D : DR) : Prop := ∀ r, r < dN D → zr (3 * r) = nI (dF D r) ∧ zr (3 * r + 1) = nI (dG D r) ∧ zr (3 * r + 2) = nI (dW D r)
theorem l_idx (r k : Nat) : nI 3 * nI r + nI k = nI (3 * r + k) := by rw [pk_mul, nI_add]
theorem l_goesOn {zr : Nat → Int32} {D : DR} (hz : LZ zr D) (hw : WF D) {r : Nat} (hr : r < dN D) : f_L_goesOn zr (nI r) = some (bI (on D r)) := by
  have hn := hw.1
  obtain ⟨h1, h2, -, -⟩ := hw.2.2.2 r hr
  obtain ⟨z1, z2, -⟩ := hz r hr
  unfold f_L_goesOn
  simp only [fa_lit]
  rw [l_idx, pk_mul, if_pos (gd_nI (by omega) (by omega)), if_pos (gd_nI (by omega) (by omega)), cl_nI (by omega), cl_nI (by omega), z2, z1, div_nI (by omega) (by omega) (by omega), div_nI (by omega) (by omega) (by omega)]
  unfold on
  by_cases h : dF D r / 4 < dG D r / 4
  · rw [if_neg (nle_nI (by omega) (by omega) h), decide_eq_true h]; rfl
  · rw [if_pos ((le_nI (by omega) (by omega)).mpr (by omega)), decide_eq_false h]; rfl
theorem mul_neg4b : ∀ a, a < 4 → ∀ b, b < 4 → ∀ c, c < 4 → ∀ d, d < 4 → decide (nI 0 ≤ (nI a - nI b) * (nI c - nI d)) = !(decide (a < b ∧ d < c) || decide (b < a ∧ c < d)) := by decide +kernel
theorem mul_neg4 {a b c d : Nat} (ha : a < 4) (hb : b < 4) (hc : c < 4) (hd : d < 4) : (nI 0 ≤ (nI a - nI b) * (nI c - nI d) ↔ ¬ ((a < b ∧ d < c) ∨ (b < a ∧ c < d))) := by
  have h := mul_neg4b a ha b hb c hc d hd
  rw [← Bool.decide_or] at h
  constructor
  · intro z e
    rw [decide_eq_true z, decide_eq_true e] at h
    cases h
  · intro e
    rw [decide_eq_false e] at h
    exact of_decide_eq_true h
theorem l_crossB {zr za : Nat → Int32} {D : DR} (hz : LZ zr D) (hp : RR za (dP D) 16) (hw : WF D) {r q : Nat} (hr : r < dN D) (hq : q < dN D) (b : Bool) : f_L_cross_b51 zr za (nI r) (nI q) (bI b) = some (bI (b && (decide (dP D (dF D r) < dP D (dF D q) ∧ dP D (dG D q) < dP D (dG D r)) || decide (dP D (dF D q) < dP D (dF D r) ∧ dP D (dG D r) < dP D (dG D q))))) := by
  have hn := hw.1
  obtain ⟨h1, h2, -, -⟩ := hw.2.2.2 r hr
  obtain ⟨h3, h4, -, -⟩ := hw.2.2.2 q hq
  have b1 := hw.2.1 _ h1
  have b2 := hw.2.1 _ h2
  have b3 := hw.2.1 _ h3
  have b4 := hw.2.1 _ h4
  obtain ⟨z1, z2, -⟩ := hz r hr
  obtain ⟨z3, z4, -⟩ := hz q hq
  unfold f_L_cross_b51
  simp only [fa_lit, bI_0]
  by_cases c : b = false
  · rw [if_pos c, c]; rfl
  · have c' : b = true := by simpa using c
    rw [if_neg c, c', Bool.true_and]
    rw [l_idx r 1, l_idx q 1, pk_mul 3 r, pk_mul 3 q]
    rw [cl_nI (show 3 * r < 2147483648 by omega), cl_nI (show 3 * q < 2147483648 by omega), cl_nI (show 3 * r + 1 < 2147483648 by omega), cl_nI (show 3 * q + 1 < 2147483648 by omega), z1, z2, z3, z4]
    rw [if_pos (gd_nI (by omega) (by omega)), if_pos (gd_nI h1 (by omega)), if_pos (gd_nI (by omega) (by omega)), if_pos (gd_nI h3 (by omega)), if_pos (gd_nI (by omega) (by omega)), if_pos (gd_nI h2 (by omega)), if_pos (gd_nI (by omega) (by omega)), if_pos (gd_nI h4 (by omega))]
    rw [cl_nI (show dF D r < 2147483648 by omega), cl_nI (show dF D q < 2147483648 by omega), cl_nI (show dG D r < 2147483648 by omega), cl_nI (show dG D q < 2147483648 by omega), hp _ h1, hp _ h2, hp _ h3, hp _ h4]
    have key := mul_neg4 b1 b3 b2 b4
    by_cases m : (dP D (dF D r) < dP D (dF D q) ∧ dP D (dG D q) < dP D (dG D r)) ∨ (dP D (dF D q) < dP D (dF D r) ∧ dP D (dG D r) < dP D (dG D q))
    · rw [if_neg (fun z => key.mp z m), ← Bool.decide_or, decide_eq_true m]; rfl
    · rw [if_pos (key.mpr m), ← Bool.decide_or, decide_eq_false m]; rfl
theorem l_cross {zr za : Nat → Int32} {D : DR} (hz : LZ zr D) (hp : RR za (dP D) 16) (hw : WF D) {r q : Nat} (hr : r < dN D) (hq : q < dN D) : f_L_cross zr za (nI r) (nI q) = some (bI (crs D r q)) := by
  have hn := hw.1
  obtain ⟨h1, h2, -, -⟩ := hw.2.2.2 r hr
  obtain ⟨h3, h4, -, -⟩ := hw.2.2.2 q hq
  obtain ⟨z1, z2, -⟩ := hz r hr
  obtain ⟨z3, z4, -⟩ := hz q hq
  have k0 := l_crossB hz hp hw hr hq false
  have k1 := l_crossB hz hp hw hr hq true
  rw [bI_f, Bool.false_and] at k0
  rw [bI_t, Bool.true_and] at k1
  unfold f_L_cross f_L_cross_b50
  rw [l_goesOn hz hw hr]
  simp only [bs, fa_lit, bI_0]
  rw [k0, k1, l_idx r 1, l_idx q 1, pk_mul 3 r, pk_mul 3 q]
  rw [cl_nI (show 3 * r < 2147483648 by omega), cl_nI (show 3 * q < 2147483648 by omega), cl_nI (show 3 * r + 1 < 2147483648 by omega), cl_nI (show 3 * q + 1 < 2147483648 by omega), z1, z2, z3, z4]
  rw [if_pos (gd_nI (show 3 * r < 60 by omega) (by omega)), if_pos (gd_nI (show 3 * q < 60 by omega) (by omega)), if_pos (gd_nI (show 3 * r + 1 < 60 by omega) (by omega)), if_pos (gd_nI (show 3 * q + 1 < 60 by omega) (by omega))]
  rw [div_nI (show dF D r < 2147483648 by omega) (by omega) (by omega), div_nI (show dF D q < 2147483648 by omega) (by omega) (by omega), div_nI (show dG D r < 2147483648 by omega) (by omega) (by omega), div_nI (show dG D q < 2147483648 by omega) (by omega) (by omega)]
  simp only [eq_nI (show dF D r / 4 < 2147483648 by omega) (show dF D q / 4 < 2147483648 by omega), eq_nI (show dG D r / 4 < 2147483648 by omega) (show dG D q / 4 < 2147483648 by omega)]
  unfold crs jn on
  by_cases o : dF D r / 4 < dG D r / 4
  · rw [if_neg (show ¬ decide (dF D r / 4 < dG D r / 4) = false by rw [decide_eq_true o]; decide)]
    by_cases c1 : dF D r / 4 = dF D q / 4
    · rw [if_pos c1]
      by_cases c2 : dG D r / 4 = dG D q / 4
      · rw [if_pos c2, decide_eq_true o, decide_eq_true c1.symm, decide_eq_true c2.symm]; simp only [Bool.true_and]
      · rw [if_neg c2, decide_eq_false (show ¬ dG D q / 4 = dG D r / 4 from fun z => c2 z.symm)]; simp only [Bool.and_false, Bool.false_and]
    · rw [if_neg c1, decide_eq_false (show ¬ dF D q / 4 = dF D r / 4 from fun z => c1 z.symm)]; simp only [Bool.and_false, Bool.false_and]
  · rw [if_pos (decide_eq_false o), decide_eq_false o]; simp only [Bool.false_and]
theorem l_side {zr : Nat → Int32} {D : DR} (hz : LZ zr D) (hw : WF D) {p : Nat} (hp : p < 16) (b : Bool) : f_L_side zr (nI (dN D)) (nI p) (bI b) = some (nI (sSum D p b)) := by
  have hn := hw.1
  unfold f_L_side sSum
  simp only [fa_lit]
  refine loopS (fun F s i => f_L_side_b6 zr (nI (dN D)) (nI p) (bI b) F s i) _ (dN D) (fun s => some (nI s)) ?_ ?_ (FU_big (by omega))
  · intro F i s hi
    obtain ⟨h1, h2, -, h4⟩ := hw.2.2.2 i hi
    obtain ⟨z1, z2, z3⟩ := hz i hi
    simp only [f_L_side_b6, f_L_side_b46, f_L_side_b47, nme, fa_lit]
    rw [if_neg (nle_nI (by omega) (by omega) hi), l_goesOn hz hw hi]
    simp only [bs, bI_0, nI_step]
    have hof : nI 3 * nI i + bI b = nI (3 * i + if b = true then 1 else 0) := by
      cases b
      · exact l_idx i 0
      · exact l_idx i 1
    have hzi : zr (3 * i + if b = true then 1 else 0) = nI (if b = true then dG D i else dF D i) := by
      cases b
      · exact z1
      · exact z2
    have eb : (if b = true then dG D i else dF D i) < 16 := by split <;> omega
    have e3 : (if b = true then 1 else 0) ≤ 1 := by split <;> omega
    rw [hof, l_idx i 2, cl_nI (show 3 * i + (if b = true then 1 else 0) < 2147483648 by omega), cl_nI (show 3 * i + 2 < 2147483648 by omega), hzi, z3, if_pos (gd_nI (show 3 * i + (if b = true then 1 else 0) < 60 by omega) (by omega)), if_pos (gd_nI (show 3 * i + 2 < 60 by omega) (by omega))]
    simp only [eq_nI (show (if b = true then dG D i else dF D i) < 2147483648 by omega) (show p < 2147483648 by omega), nI_step]
    unfold sP
    by_cases o : on D i = false
    · rw [if_pos o, if_neg (by rw [o, Bool.false_and]; decide)]
    · have o' : on D i = true := by simpa using o
      rw [if_neg o, o', Bool.true_and]
      by_cases c : (if b = true then dG D i else dF D i) = p
      · rw [if_pos c, if_pos (decide_eq_true c)]
      · rw [if_neg c, if_neg (by rw [decide_eq_false c]; decide)]
  · intro F s
    simp only [f_L_side_b6]
    rw [if_pos ((le_nI (by omega) (by omega)).mpr (Nat.le_refl _))]
theorem crs_comm (D : DR) (r q : Nat) : crs D r q = crs D q r := by rw [crs_t, crs_t, Bool.or_comm]
theorem l_xall {D : DR} (hw : WF D) : sN (fun w => if 1 ≤ w then sN (fun i => sN (fun k => if w ≤ dW D i ∧ w ≤ dW D k ∧ crs D i k = true then 1 else 0) i) (dN D) else 0) 51 = xAll D := by
  have e1 : sN (fun w => if 1 ≤ w then sN (fun i => sN (fun k => if w ≤ dW D i ∧ w ≤ dW D k ∧ crs D i k = true then 1 else 0) i) (dN D) else 0) 51 = sN (fun w => sN (fun i => sN (fun k => if 1 ≤ w ∧ w ≤ dW D i ∧ w ≤ dW D k ∧ (k < i ∧ crs D i k = true) then 1 else 0) (dN D)) (dN D)) 51 := by
    refine sN_cong (fun w _ => ?_)
    by_cases c : 1 ≤ w
    · rw [if_pos c]
      refine sN_cong (fun i hi => ?_)
      rw [sN_z (f := fun k => if 1 ≤ w ∧ w ≤ dW D i ∧ w ≤ dW D k ∧ (k < i ∧ crs D i k = true) then 1 else 0) (a := i) (b := dN D) (by omega) (fun k h1 _ => if_neg (fun z => absurd z.2.2.2.1 (by omega)))]
      refine sN_cong (fun k hk => ?_)
      by_cases d : w ≤ dW D i ∧ w ≤ dW D k ∧ crs D i k = true
      · rw [if_pos d, if_pos ⟨c, d.1, d.2.1, hk, d.2.2⟩]
      · rw [if_neg d, if_neg (fun z => d ⟨z.2.1, z.2.2.1, z.2.2.2.2⟩)]
    · rw [if_neg c]
      exact (sN_0 _ _ (fun i _ => sN_0 _ _ (fun k _ => if_neg (fun z => c z.1)))).symm
  have e2 : xAll D = sN (fun q => sN (fun r => xW D r q) (dN D)) (dN D) := sN_swap (fun r q => xW D r q) (dN D) (dN D)
  rw [e1, sN_swap, e2]
  refine sN_cong (fun i hi => ?_)
  rw [sN_swap]
  refine sN_cong (fun k hk => ?_)
  rw [sN_w]
  have b1 := (hw.2.2.2 i hi).2.2.2
  unfold xW mn
  by_cases c : k < i ∧ crs D i k = true
  · rw [if_pos c, if_pos (show k < i ∧ crs D k i = true from ⟨c.1, by rw [crs_comm]; exact c.2⟩)]
    by_cases h : dW D k < dW D i
    · rw [if_pos h, if_neg (show ¬ 50 < dW D k by omega), if_neg (show ¬ dW D i < dW D k by omega)]
    · rw [if_neg h, if_neg (show ¬ 50 < dW D i by omega)]
      by_cases h2 : dW D i < dW D k
      · rw [if_pos h2]
      · rw [if_neg h2]; omega
  · rw [if_neg c, if_neg (fun z => c ⟨z.1, by rw [crs_comm]; exact z.2⟩)]
theorem l_crossings {zr za : Nat → Int32} {D : DR} (hz : LZ zr D) (hp : RR za (dP D) 16) (hw : WF D) : f_L_crossings zr za (nI (dN D)) = some (nI (xAll D)) := by
  have hn := hw.1
  rw [← l_xall hw]
  unfold f_L_crossings
  simp only [fa_lit]
  have h := loopS2 (fun F s w => f_L_crossings_b5 zr za (nI (dN D)) F s w) (fun w => if 1 ≤ w then sN (fun i => sN (fun k => if w ≤ dW D i ∧ w ≤ dW D k ∧ crs D i k = true then 1 else 0) i) (dN D) else 0) 1 51 0 (by omega) (fun s => some (nI s)) ?_ ?_ ?_ (FU_big (n := 51) (by omega))
  · rw [Nat.zero_add] at h; exact h
  · intro F w s h1 hw51
    simp only [f_L_crossings_b5, fa_lit]
    rw [if_neg (nle_nI (by omega) (by omega) hw51), if_pos h1]
    have he : ∀ s : Nat, f_L_crossings_b5 zr za (nI (dN D)) F (nI s) (nI (w + 1)) = f_L_crossings_b5 zr za (nI (dN D)) F (nI s) (nI (w + 1)) := fun _ => rfl
    generalize f_L_crossings_b5 zr za (nI (dN D)) F = K5 at he ⊢
    refine loopS2 (fun F2 s i => f_L_crossings_b15 zr za (nI (dN D)) K5 F2 s (nI w) i) (fun i => sN (fun k => if w ≤ dW D i ∧ w ≤ dW D k ∧ crs D i k = true then 1 else 0) i) 0 (dN D) s (by omega) (fun s => K5 (nI s) (nI (w + 1))) ?_ ?_ (fun k hk => absurd hk (Nat.not_lt_zero k)) (FU_big (by omega))
    · intro F2 i s _ hi
      simp only [f_L_crossings_b15, fa_lit]
      rw [if_neg (nle_nI (by omega) (by omega) hi)]
      generalize f_L_crossings_b15 zr za (nI (dN D)) K5 F2 = K15
      refine loopS2 (fun F3 s k => f_L_crossings_b24 zr za (nI (dN D)) K5 K15 F3 s (nI w) (nI i) k) (fun k => if w ≤ dW D i ∧ w ≤ dW D k ∧ crs D i k = true then 1 else 0) 0 i s (by omega) (fun s => K15 (nI s) (nI w) (nI (i + 1))) ?_ ?_ (fun k hk => absurd hk (Nat.not_lt_zero k)) (FU_big (by omega))
      · intro F3 k s _ hk
        have hk2 : k < dN D := by omega
        have w1 := (hw.2.2.2 i hi).2.2.2
        have w2 := (hw.2.2.2 k hk2).2.2.2
        simp only [f_L_crossings_b24, f_L_crossings_b74, f_L_crossings_b75, nme, fa_lit]
        rw [if_neg (nle_nI (by omega) (by omega) hk), l_idx i 2, l_idx k 2, if_pos (gd_nI (show 3 * i + 2 < 60 by omega) (by omega)), if_pos (gd_nI (show 3 * k + 2 < 60 by omega) (by omega)), cl_nI (show 3 * i + 2 < 2147483648 by omega), cl_nI (show 3 * k + 2 < 2147483648 by omega), (hz i hi).2.2, (hz k hk2).2.2, l_cross hz hp hw hi hk2]
        simp only [bs, bI_0, nI_step]
        by_cases c1 : dW D i < w
        · rw [if_pos ((lt_nI (by omega) (by omega)).mpr c1), if_neg (fun z => by omega)]
        · rw [if_neg (nlt_nI (by omega) (by omega) (by omega))]
          by_cases c2 : dW D k < w
          · rw [if_pos ((lt_nI (by omega) (by omega)).mpr c2), if_neg (fun z => by omega)]
          · rw [if_neg (nlt_nI (by omega) (by omega) (by omega))]
            by_cases c3 : crs D i k = false
            · rw [if_pos c3, if_neg (fun z => by rw [c3] at z; exact absurd z.2.2 (by decide))]
            · rw [if_neg c3, if_pos ⟨by omega, by omega, by simpa using c3⟩]
      · intro F3 s
        simp only [f_L_crossings_b24, nme, fa_lit]
        rw [if_pos ((le_nI (by omega) (by omega)).mpr (Nat.le_refl _)), nI_step]
    · intro F2 s
      simp only [f_L_crossings_b15, nme, fa_lit]
      rw [if_pos ((le_nI (by omega) (by omega)).mpr (Nat.le_refl _)), nI_step]
  · intro F s
    simp only [f_L_crossings_b5, fa_lit]
    rw [if_pos ((le_nI (by omega) (by omega)).mpr (Nat.le_refl _))]
  · intro k hk
    rw [if_neg (by omega)]
