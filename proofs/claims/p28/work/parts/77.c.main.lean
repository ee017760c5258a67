/-! ===== cuts: for each ribbon the least cut, if it were not there ===== -/
/-- the row of least cuts, for the ribbons below j the sides up to x, for the others those below x -/
def LW (D : DR) (x j : Nat) (lw : Nat → Int32) : Prop := ∀ r, r < dN D → lw r = nI (lst (fun y => cuT D y r) (if r < j then x + 1 else x))
theorem p_sideLoop {fr to wd be en wi : Nat → Int32} {dn : Int32} {D : DR} (hw : WF D) (hc : CU D (dN D) be en wi) {x : Nat} (hx : x < 256)
    (K16 : Int32 → (Nat → Int32) → (Nat → Int32) → (Nat → Int32) → Int32 → (Nat → Int32) → Option (Int32 × (Nat → Int32) × (Nat → Int32) × (Nat → Int32) × Int32 × (Nat → Int32))) (lw : Nat → Int32) (hl : LW D x 0 lw) :
    ∃ lw', f_X5_ribbonThatMatters_b38 fr to wd dn K16 FU (nI x) (siI x) (nI (cuT D x 100)) (nI 0) be en wi (nI (dN D)) lw = K16 (nI (x + 1)) be en wi (nI (dN D)) lw' ∧ LW D x (dN D) lw' := by
  have hn := hw.1
  refine loopI (fun F i (s : Nat → Int32) => f_X5_ribbonThatMatters_b38 fr to wd dn K16 F (nI x) (siI x) (nI (cuT D x 100)) i be en wi (nI (dN D)) s) (fun s => K16 (nI (x + 1)) be en wi (nI (dN D)) s) (fun i s => LW D x i s) (dN D) ?_ ?_ (dN D) 0 FU lw (by omega) (FU_big (by omega)) hl
  · intro F i s hi hI
    obtain ⟨h1, h2, h3⟩ := hc i hi
    have hs := hI i hi
    rw [if_neg (by omega)] at hs
    have hlb := lst_le (f := fun y => cuT D y i) (fun y => cuT_le hw y i) x
    have hcb := cuT_le hw x i
    have hwo := cuT_wo x hi hn
    refine ⟨upd s i (nI (lst (fun y => cuT D y i) (x + 1))), ?_, ?_⟩
    · have fin : ∀ v, v = cuT D x i → f_X5_ribbonThatMatters_b105 fr to wd dn K16 (f_X5_ribbonThatMatters_b38 fr to wd dn K16 F) (nI v) (nI x) (siI x) (nI (cuT D x 100)) (nI i) be en wi (nI (dN D)) s = f_X5_ribbonThatMatters_b38 fr to wd dn K16 F (nI x) (siI x) (nI (cuT D x 100)) (nI (i + 1)) be en wi (nI (dN D)) (upd s i (nI (lst (fun y => cuT D y i) (x + 1)))) := by
        intro v hv
        subst hv
        simp only [f_X5_ribbonThatMatters_b105, fa_lit, nme]
        rw [if_pos (gd_nI (by omega) (by omega)), if_pos (gd_nI (by omega) (by omega)), cl_nI (by omega), hs, ite_mn (by omega) (by omega), nI_step]
        rw [lst_s (f := fun y => cuT D y i) (fun y => cuT_le hw y i) x]
      simp only [f_X5_ribbonThatMatters_b38, f_X5_ribbonThatMatters_b82, f_X5_ribbonThatMatters_b83, fa_lit, nme]
      rw [if_neg (nle_nI (by omega) (by omega) hi), if_neg (nle_nI (by omega) (by omega) (by omega)), if_pos (gd_nI (by omega) (by omega)), if_pos (gd_nI (by omega) (by omega)), if_pos (gd_nI (by omega) (by omega)), cl_nI (by omega), h1, h2, h3]
      simp only [beI_side hw hx hi, enI_side hw hx hi]
      rw [if_pos trivial, if_neg (show ¬ nI 1 = nI 0 by decide)]
      unfold cuR at hwo
      by_cases c1 : (on D i && sd x (dF D i)) = false
      · rw [if_pos c1]
        rw [← Bool.and_assoc, c1, Bool.false_and, if_neg (by decide)] at hwo
        rw [fin _ (by omega)]
      · have c1' : (on D i && sd x (dF D i)) = true := by simpa using c1
        rw [if_neg c1]
        by_cases c2 : sd x (dG D i) = false
        · rw [if_pos c2]
          rw [← Bool.and_assoc, c1', c2, if_pos (by decide)] at hwo
          rw [pk_sub (by omega), fin _ (by omega)]
        · have c2' : sd x (dG D i) = true := by simpa using c2
          rw [if_neg c2]
          rw [← Bool.and_assoc, c2', Bool.not_true, Bool.and_false, if_neg (by decide)] at hwo
          rw [fin _ (by omega)]
    · intro r hr
      by_cases c : r = i
      · subst c
        rw [upd_q, if_pos (by omega)]
      · rw [upd_w c, hI r hr]
        by_cases d : r < i
        · rw [if_pos d, if_pos (by omega)]
        · rw [if_neg d, if_neg (by omega)]
  · intro F s _
    simp only [f_X5_ribbonThatMatters_b38, f_X5_ribbonThatMatters_b132, fa_lit, nme]
    rw [if_pos ((le_nI (by omega) (by omega)).mpr (Nat.le_refl _)), nI_step]
theorem p_ribbonThatMatters {fr to wd : Nat → Int32} {D : DR} (hf : RR fr (dF D) (dN D)) (hg : RR to (dG D) (dN D)) (hd : RR wd (dW D) (dN D)) (hw : WF D) (be en wi : Nat → Int32) (sz : Int32) (lw : Nat → Int32) :
    ∃ be' en' wi' sz' lw', f_X5_ribbonThatMatters fr to wd (nI (dN D)) be en wi sz lw = some (oI (mnO D), be', en', wi', sz', lw') := by
  have hn := hw.1
  obtain ⟨b, e, w, h1, h2⟩ := p_readCuttable hf hg hd hw be en wi sz
  obtain ⟨l0, h3, h4⟩ := p_fill 20 (nI 1000000) lw (by omega)
  unfold f_X5_ribbonThatMatters
  simp only [fa_lit] at h3 ⊢
  rw [h1]
  simp only [bs]
  rw [h3]
  simp only [bs]
  have h := loopI (fun F i (s : Nat → Int32) => f_X5_ribbonThatMatters_b16 fr to wd (nI (dN D)) F i b e w (nI (dN D)) s) (fun s => some (oI (mnO D), b, e, w, nI (dN D), s)) (fun i s => LW D i 0 s) 256 ?_ ?_ 256 0 FU l0 (by omega) (FU_big (by omega)) (fun r hr => ?_)
  · obtain ⟨s, k1, k2⟩ := h
    exact ⟨b, e, w, _, s, k1⟩
  · intro F i s hi hs
    obtain ⟨lw', k1, k2⟩ := p_sideLoop (fr := fr) (to := to) (wd := wd) (dn := nI (dN D)) hw h2 hi (f_X5_ribbonThatMatters_b16 fr to wd (nI (dN D)) F) s hs
    refine ⟨lw', ?_, fun r hr => ?_⟩
    · simp only [f_X5_ribbonThatMatters_b16, fa_lit, nme]
      rw [if_neg (nle_nI (by omega) (by omega) hi), p_sideWith]
      simp only [bs]
      rw [p_cutOf hw h2 hi]
      simp only [bs]
      exact k1
    · rw [k2 r hr, if_pos hr, if_neg (by omega)]
  · intro F s hs
    simp only [f_X5_ribbonThatMatters_b16, fa_lit]
    rw [if_pos ((le_nI (by omega) (by omega)).mpr (Nat.le_refl _)), p_leastThatGoesOn hf hg hw (fun r hr => ?_)]
    · simp only [bs]
    · rw [hs r hr, if_neg (by omega)]
      rfl
  · rw [h4 r (by omega), if_neg (by omega)]
    rfl
