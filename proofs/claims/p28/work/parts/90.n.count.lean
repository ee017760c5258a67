/-! ===== numbers of the whole drawing, both sides ===== -/
def cV (D : DR) (h : Nat) (k : Nat) : Int32 := if k = 0 then nI (dN D) else if k = 1 then nI (wAll D) else if k = 2 then nI (xAll D) else if k = 3 then nI (xAll D) else if k = 4 then nI (xPairs D) else if k = 5 then nI (nUne D) else if k = 6 then nI (thr D 100) else if k = 7 then nI (thr D 100) else if k = 8 then dT D else nI h
theorem p_count {pl fr to wd : Nat → Int32} {n tr : Int32} {D : DR} (hD : DC pl fr to wd n tr D) (hw : WF D) {h k : Nat} (hk : k < 10) (h1 h2 : Nat → Int32) (h3 : Int32) (h4 u1 u2 u3 u4 u5 u6 : Nat → Int32) (u7 : Int32) :
    ∃ a1 a2 a3 a4 b1 b2 b3 b4 b5 b6 b7, f_X6_count pl fr to wd n tr (nI h) (nI k) h1 h2 h3 h4 u1 u2 u3 u4 u5 u6 u7 = some (.inr (cV D h k, a1, a2, a3, a4, b1, b2, b3, b4, b5, b6, b7)) := by
  obtain ⟨rfl, rfl, hpl, hf, hg, hd⟩ := hD
  have ek : ∀ j, j < 10 → ((nI k = nI j) ↔ k = j) := fun j hj => eq_nI (by omega) (by omega)
  unfold f_X6_count cV
  simp only [fa_lit]
  simp only [ek 0 (by omega), ek 1 (by omega), ek 2 (by omega), ek 3 (by omega), ek 4 (by omega), ek 5 (by omega), ek 6 (by omega), ek 7 (by omega), ek 8 (by omega), ek 9 (by omega)]
  by_cases c0 : k = 0
  · rw [if_pos c0, if_pos c0]
    exact ⟨_, _, _, _, _, _, _, _, _, _, _, rfl⟩
  rw [if_neg c0, if_neg c0]
  by_cases c1 : k = 1
  · rw [if_pos c1, if_pos c1, p_allWidths hd hw]
    simp only [bs]
    exact ⟨_, _, _, _, _, _, _, _, _, _, _, rfl⟩
  rw [if_neg c1, if_neg c1]
  by_cases c2 : k = 2
  · rw [if_pos c2, if_pos c2, p_allCrossings hpl hf hg hd hw]
    simp only [bs]
    exact ⟨_, _, _, _, _, _, _, _, _, _, _, rfl⟩
  rw [if_neg c2, if_neg c2]
  by_cases c3 : k = 3
  · obtain ⟨a, b, c, d, e⟩ := p_ahead hpl hf hg hd hw h1 h2 h3 h4
    rw [if_pos c3, if_pos c3, e]
    simp only [bs]
    exact ⟨_, _, _, _, _, _, _, _, _, _, _, rfl⟩
  rw [if_neg c3, if_neg c3]
  by_cases c4 : k = 4
  · rw [if_pos c4, if_pos c4, p_crossingPairs hpl hf hg hw]
    simp only [bs]
    exact ⟨_, _, _, _, _, _, _, _, _, _, _, rfl⟩
  rw [if_neg c4, if_neg c4]
  by_cases c5 : k = 5
  · rw [if_pos c5, if_pos c5, p_unevenPosts hf hg hd hw]
    simp only [bs]
    exact ⟨_, _, _, _, _, _, _, _, _, _, _, rfl⟩
  rw [if_neg c5, if_neg c5]
  by_cases c6 : k = 6
  · obtain ⟨a, b, c, e⟩ := p_mostByWays hf hg hd hw u1 u2 u3
    rw [if_pos c6, if_pos c6, e]
    simp only [bs]
    exact ⟨_, _, _, _, _, _, _, _, _, _, _, rfl⟩
  rw [if_neg c6, if_neg c6]
  by_cases c7 : k = 7
  · obtain ⟨a, b, c, d, e⟩ := p_mostByCuts hf hg hd hw u4 u5 u6 u7
    rw [if_pos c7, if_pos c7, e]
    simp only [bs]
    exact ⟨_, _, _, _, _, _, _, _, _, _, _, rfl⟩
  rw [if_neg c7, if_neg c7]
  by_cases c8 : k = 8
  · rw [if_pos c8, if_pos c8]
    exact ⟨_, _, _, _, _, _, _, _, _, _, _, rfl⟩
  rw [if_neg c8, if_neg c8, if_pos (show k = 9 by omega)]
  exact ⟨_, _, _, _, _, _, _, _, _, _, _, rfl⟩
theorem xBy_sum {D : DR} (hw : WF D) : sN (xBy D) (dN D) ≤ 400 := by
  have hn := hw.1
  have h1 : ∀ k, k < dN D → xBy D k ≤ 20 := fun k _ => by
    have h2 := sN_le (f := fun q => if crs D k q = true then 1 else 0) (c := 1) (n := dN D) (fun q _ => by split <;> omega)
    unfold xBy
    omega
  have h3 := sN_le (f := xBy D) (c := 20) (n := dN D) h1
  have h4 : dN D * 20 ≤ 20 * 20 := Nat.mul_le_mul_right 20 hn
  omega
theorem r_countNow {z : Nat → Int32} {D : DR} (hz : DZ z D) (hw : WF D) {h k : Nat} (hk : k < 10) : f_X7_countNow z (nI h) (nI k) = some (cV D h k) := by
  have hn := hw.1
  have hx := xBy_sum hw
  have ek : ∀ j, j < 10 → ((nI k = nI j) ↔ k = j) := fun j hj => eq_nI (by omega) (by omega)
  unfold f_X7_countNow
  simp only [fa_lit]
  have hA := loopI (fun F i (s : Int32 × Int32 × Int32) => f_X7_countNow_b10 z (nI h) (nI k) F s.1 s.2.1 s.2.2 i) (fun s => f_X7_countNow_b49 z (nI h) (nI k) FU s.1 s.2.1 s.2.2 (nI 0)) (fun i s => s.1 = nI (sN (dW D) i) ∧ s.2.1 = nI (sN (xBy D) i) ∧ s.2.2 = nI 0) (dN D) ?_ ?_ (dN D) 0 FU (nI 0, nI 0, nI 0) (by omega) (FU_big (by omega)) ⟨rfl, rfl, rfl⟩
  · obtain ⟨s, h1, h2, h3, h4⟩ := hA
    rw [h1]
    have hB := loopI (fun F i (t : Int32) => f_X7_countNow_b49 z (nI h) (nI k) F s.1 s.2.1 t i) (fun t => f_X7_countNow_b49 z (nI h) (nI k) 1 s.1 s.2.1 t (nI 16)) (fun i t => t = nI (sN (fun p => if uEv D p = true then 1 else 0) i)) 16 ?_ ?_ 16 0 FU s.2.2 (by omega) (FU_big (by omega)) h4
    · obtain ⟨t, g1, g2⟩ := hB
      rw [g1, g2]
      simp only [f_X7_countNow_b49, f_X7_countNow_b141, f_X7_countNow_b153, fa_lit]
      rw [if_pos ((le_nI (by omega) (by omega)).mpr (Nat.le_refl _)), h2, h3, r_crossings hz hw, r_through hz hw (no_rib hw), div_nI (by omega) (by omega) (by omega), z0, hz.1, show (nI 1).toNatClampNeg = 1 by decide, hz.2.1]
      simp only [bs]
      simp only [ek 0 (by omega), ek 1 (by omega), ek 2 (by omega), ek 3 (by omega), ek 4 (by omega), ek 5 (by omega), ek 6 (by omega), ek 7 (by omega), ek 8 (by omega)]
      unfold cV
      by_cases c0 : k = 0
      · rw [if_pos c0, if_pos c0]
      rw [if_neg c0, if_neg c0]
      by_cases c1 : k = 1
      · rw [if_pos c1, if_pos c1]
        rfl
      rw [if_neg c1, if_neg c1]
      by_cases c2 : k = 2
      · rw [if_pos c2, if_pos c2]
      rw [if_neg c2, if_neg c2]
      by_cases c3 : k = 3
      · rw [if_pos c3, if_pos c3]
      rw [if_neg c3, if_neg c3]
      by_cases c4 : k = 4
      · rw [if_pos c4, if_pos c4]
        rfl
      rw [if_neg c4, if_neg c4]
      by_cases c5 : k = 5
      · rw [if_pos c5, if_pos c5]
        rfl
      rw [if_neg c5, if_neg c5]
      by_cases c6 : k = 6
      · rw [if_pos c6, if_pos c6]
      rw [if_neg c6, if_neg c6]
      by_cases c7 : k = 7
      · rw [if_pos c7, if_pos c7]
      rw [if_neg c7, if_neg c7]
      by_cases c8 : k = 8
      · rw [if_pos c8, if_pos c8]
      rw [if_neg c8, if_neg c8]
    · intro F i t hi ht
      refine ⟨nI (sN (fun p => if uEv D p = true then 1 else 0) (i + 1)), ?_, rfl⟩
      simp only [f_X7_countNow_b49, f_X7_countNow_b72, fa_lit, nme]
      rw [if_neg (nle_nI (by omega) (by omega) hi), r_isEven hz hw hi, ht]
      simp only [bs, bI_0]
      rw [nI_step, nI_step, nI_step]
      show _ = f_X7_countNow_b49 z (nI h) (nI k) F s.1 s.2.1 (nI (sN (fun p => if uEv D p = true then 1 else 0) i + if uEv D i = true then 1 else 0)) (nI (i + 1))
      cases uEv D i with
      | true => rw [if_pos (by rfl), if_pos rfl]
      | false => rw [if_neg (by decide), if_neg (by decide)]
    · intro F t _
      simp only [f_X7_countNow_b49, fa_lit]
      rw [if_pos ((le_nI (by omega) (by omega)).mpr (Nat.le_refl _)), if_pos ((le_nI (by omega) (by omega)).mpr (Nat.le_refl _))]
  · intro F i s hi ⟨h1, h2, h3⟩
    refine ⟨(nI (sN (dW D) (i + 1)), nI (sN (xBy D) (i + 1)), nI 0), ?_, rfl, rfl, rfl⟩
    simp only [f_X7_countNow_b10, fa_lit, nme]
    rw [z0, hz.1, if_neg (nle_nI (by omega) (by omega) hi), r_of2 hz hw hi, r_crossedBy hz hw hi]
    simp only [bs]
    rw [h1, h2, h3, nI_step, nI_step, nI_step]
    rfl
  · intro F s _
    simp only [f_X7_countNow_b10, fa_lit]
    rw [z0, hz.1, if_pos ((le_nI (by omega) (by omega)).mpr (Nat.le_refl _))]
