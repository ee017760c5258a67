/-! ===== the share that goes through, both sides ===== -/
def lvS (D : DR) : Nat := sN (leav D) 4
theorem lvS_cut {D : DR} (hw : WF D) : lvS D = cuT D 0 100 := by
  have hn := hw.1
  unfold lvS leav cuT
  rw [sN_swap]
  refine sN_cong (fun r hr => ?_)
  have s0 : ∀ p, sd 0 p = decide (p < 4) := by
    intro p
    by_cases c : p < 4
    · rw [sd_0 c, decide_eq_true c]
    · by_cases d : 12 ≤ p
      · rw [sd_1 d, decide_eq_false c]
      · rw [sd_2 (by omega) (by omega), Nat.zero_div, decide_eq_false c]
        rfl
  unfold cuR
  rw [s0, s0]
  by_cases ho : on D r = true
  · have hlt : dF D r / 4 < dG D r / 4 := of_decide_eq_true ho
    by_cases c : dF D r < 4
    · rw [sN_at (t := dF D r) c (fun p _ hp => if_neg (fun z => hp z.1.symm)), if_pos ⟨rfl, ho⟩, if_pos ⟨by omega, by rw [ho, decide_eq_true c, decide_eq_false (by omega)]; rfl⟩]
    · rw [if_neg (fun z => by rw [decide_eq_false c, Bool.false_and, Bool.and_false] at z; cases z.2)]
      exact sN_0 _ 4 (fun p hp => if_neg (fun z => by omega))
  · have ho' : on D r = false := by simpa using ho
    rw [if_neg (fun z => by rw [ho', Bool.false_and] at z; cases z.2)]
    exact sN_0 _ 4 (fun p hp => if_neg (fun z => ho z.2))
theorem lvS_le {D : DR} (hw : WF D) : lvS D ≤ 1000 := by
  rw [lvS_cut hw]
  exact cuT_le hw 0 100
theorem thr_lvS {D : DR} (hw : WF D) : thr D 100 ≤ lvS D := by
  rw [lvS_cut hw]
  exact thr_le_cut D 0 (by omega)
def shv (D : DR) : UInt64 := if lvS D = 0 then FP.dconst1 else FP.ddiv (FP.i2d (nI (thr D 100))) (FP.i2d (nI (lvS D)))
theorem shv_form {D : DR} (hw : WF D) : shv D = 0 ∨ ∃ E T, 1000 ≤ E ∧ E ≤ 1023 ∧ T < 4503599627370496 ∧ shv D = nX E T := by
  have h1 := lvS_le hw
  have h2 := thr_lvS hw
  unfold shv
  by_cases c : lvS D = 0
  · rw [if_pos c]
    exact Or.inr ⟨1023, 0, by omega, by omega, by omega, one_nX⟩
  · rw [if_neg c]
    generalize thr D 100 = v at h2 ⊢
    by_cases d : v = 0
    · rw [d]
      exact Or.inl (div_0 c h1)
    · exact Or.inr (div_n d h2 h1)
theorem shv_nn {D : DR} (hw : WF D) : nn (shv D) = true := by
  rcases shv_form hw with h | ⟨E, T, h1, h2, h3, h4⟩
  · rw [h]; exact nn_0
  · rw [h4]; exact nX_nn (by omega) h3
theorem shv_bits {D : DR} (hw : WF D) : ∃ v, f_X6_bitsOfShare (shv D) = some v ∧ f_Jxe99ae_doubleToLongBits_ccdee (shv D) = some v := by
  rcases shv_form hw with h | ⟨E, T, h1, h2, h3, h4⟩
  · rw [h]; exact ⟨0, p_bits0, r_bits0⟩
  · rw [h4]; exact ⟨_, p_bitsOfShare h1 h2 h3, r_bits (by omega) (by omega) h3⟩
theorem p_throughShare {fr to wd : Nat → Int32} {D : DR} (hf : RR fr (dF D) (dN D)) (hg : RR to (dG D) (dN D)) (hd : RR wd (dW D) (dN D)) (hw : WF D) (nu rb qu : Nat → Int32) :
    ∃ nu' rb' qu', f_X6_throughShare fr to wd (nI (dN D)) nu rb qu = some (shv D, nu', rb', qu') := by
  have h1 := lvS_le hw
  have hnn := shv_nn hw
  obtain ⟨nu', rb', qu', hm⟩ := p_mostByWays hf hg hd hw nu rb qu
  unfold f_X6_throughShare
  simp only [fa_lit]
  have h := loopS (fun F s i => f_X6_throughShare_b4 fr to wd (nI (dN D)) F s i nu rb qu) (leav D) 4 (fun s => if nI s = nI 0 then some (FP.dconst1, nu, rb, qu) else (Option.bind (f_X5_mostByWays fr to wd (nI (dN D)) nu rb qu) fun q40 => (if nn (FP.ddiv (FP.i2d q40.1) (FP.i2d (nI s))) = true then some ((FP.ddiv (FP.i2d q40.1) (FP.i2d (nI s))), q40.2.1, q40.2.2.1, q40.2.2.2) else none))) ?_ ?_ (FU_big (n := 4) (by omega))
  · rw [h]
    have e : sN (leav D) 4 = lvS D := rfl
    rw [e]
    unfold shv at hnn ⊢
    by_cases c : lvS D = 0
    · rw [if_pos (by rw [c]), if_pos c]
      exact ⟨nu, rb, qu, rfl⟩
    · rw [if_neg c] at hnn ⊢
      rw [if_neg (by rw [eq_nI (by omega) (by omega)]; exact c), hm]
      simp only [bs]
      rw [if_pos hnn]
      exact ⟨nu', rb', qu', rfl⟩
  · intro F i s hi
    simp only [f_X6_throughShare_b4, fa_lit, nme]
    rw [if_neg (nle_nI (by omega) (by omega) hi), p_leaves hf hg hd hw (by omega)]
    simp only [bs]
    rw [nI_step, nI_step]
  · intro F s
    simp only [f_X6_throughShare_b4, fa_lit]
    rw [if_pos ((le_nI (by omega) (by omega)).mpr (Nat.le_refl _))]
theorem r_share {z : Nat → Int32} {D : DR} (hz : DZ z D) (hw : WF D) : f_X7_share z = some (shv D) := by
  have h1 := lvS_le hw
  have hnn := shv_nn hw
  unfold f_X7_share
  simp only [fa_lit, nme]
  rw [r_leaves hz hw (by omega), r_leaves hz hw (by omega), r_leaves hz hw (by omega), r_leaves hz hw (by omega)]
  simp only [bs]
  rw [nI_step, nI_step, nI_step]
  have e : leav D 0 + leav D 1 + leav D 2 + leav D 3 = lvS D := by
    show _ = 0 + leav D 0 + leav D 1 + leav D 2 + leav D 3
    omega
  rw [e, r_through hz hw (no_rib hw)]
  simp only [bs]
  unfold shv at hnn ⊢
  by_cases c : lvS D = 0
  · rw [if_pos (by rw [c]), if_pos c]
  · rw [if_neg c] at hnn ⊢
    rw [if_neg (by rw [eq_nI (by omega) (by omega)]; exact c), if_pos hnn]
