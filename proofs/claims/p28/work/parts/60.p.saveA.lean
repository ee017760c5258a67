/-! ===== the class: a new Drawing, a new row of the ring ===== -/
theorem p_init : ∃ pl, f_X1_init = some pl ∧ RR pl (fun p => p % 4) 16 := by
  unfold f_X1_init
  simp only [fa_lit]
  refine loopI (fun F i x => f_X1_init_b38 F i x) some (fun i x => ∀ k, k < i → x k = nI (k % 4)) 16 (fun F i x hi hI => ⟨upd x i (nI (i % 4)), ?_, fun k hk => ?_⟩) (fun F x _ => ?_) 16 0 FU (fun _ => nI 0) (by omega) (FU_big (by omega)) (fun k hk => by omega)
  · show f_X1_init_b38 (F + 1) (nI i) x = _
    simp only [f_X1_init_b38, fa_lit, nme]
    rw [if_neg (nle_nI (by omega) (by omega) hi), md4 (by omega), if_pos (gd_nI hi (by omega)), cl_nI (by omega), nI_step]
  · by_cases q : k = i
    · rw [q, upd_q]
    · rw [upd_w q]; exact hI k (by omega)
  · show f_X1_init_b38 (F + 1) (nI 16) x = _
    simp only [f_X1_init_b38, fa_lit, nme]
    rw [if_pos ((le_nI (by omega) (by omega)).mpr (Nat.le_refl _))]
theorem p_saveA {dp df dt dw : Nat → Int32} {dn dtr : Int32} {D : DR} (hD : DC dp df dt dw dn dtr D) (hw : WF D) {o h : Nat} (ho : o < 6) (hh : h ≤ 6) :
    ∃ p f t w, f_X3_saveA dp df dt dw dn dtr (nI o) (nI h) = some (nI (nO o h), nI (nH h), f, t, w, dn, dtr, p) ∧ DC p f t w dn dtr D := by
  obtain ⟨pl, i1, -⟩ := p_init
  obtain ⟨p, f, t, w, e1, e2⟩ := p_copyFrom (dp := pl) (df := fun _ => nI 0) (dt := fun _ => nI 0) (dw := fun _ => nI 0) (dn := nI 0) (dtr := nI 0) hD hw
  refine ⟨p, f, t, w, ?_, e2⟩
  unfold f_X3_saveA f_X3_saveA_b50
  rw [i1]
  simp only [fa_lit, nme, bs]
  rw [nI_step, md6 (by omega), if_neg (nlt_nI (by omega) (by omega) (by omega)), if_pos ((lt_nI (by omega) (by omega)).mpr (by omega)), if_pos (gd_nI (by omega) (by omega)), if_pos (gd_nI (by omega) (by omega)), e1]
  simp only [bs]
  unfold nO nH
  by_cases q : h = 6
  · rw [if_pos ((le_nI (by omega) (by omega)).mpr (by omega)), nI_step, md6 (by omega), if_pos q, if_pos q, q]
  · rw [if_neg (nle_nI (by omega) (by omega) (by omega)), nI_step, if_neg q, if_neg q]
