/-! ===== the class: the ring of saved states ===== -/
theorem md6 {a : Nat} (h : a < 1000) : nI a - nI a / nI 6 * nI 6 = nI (a % 6) := by
  rw [div_nI (by omega) (by omega) (by omega), pk_mul, pk_sub (by omega)]
  exact congrArg nI (by omega)
def nO (o h : Nat) : Nat := if h = 6 then (o + 1) % 6 else o
def nH (h : Nat) : Nat := if h = 6 then 6 else h + 1
theorem p_saveB {dp df dt dw bp bf bt bw : Nat → Int32} {dn dtr bn btr : Int32} {D : DR} (hD : DC dp df dt dw dn dtr D) (hw : WF D) {o h : Nat} (ho : o < 6) (hh : h ≤ 6) :
    ∃ p f t w, f_X3_saveB dp df dt dw dn dtr (nI o) (nI h) bp bf bt bw bn btr = some (nI (nO o h), nI (nH h), p, f, t, w, dn, dtr) ∧ DC p f t w dn dtr D := by
  obtain ⟨p, f, t, w, e1, e2⟩ := p_copyFrom (dp := bp) (df := bf) (dt := bt) (dw := bw) (dn := bn) (dtr := btr) hD hw
  refine ⟨p, f, t, w, ?_, e2⟩
  unfold f_X3_saveB f_X3_saveB_b50
  simp only [fa_lit, nme]
  rw [nI_step, md6 (by omega), if_neg (nlt_nI (by omega) (by omega) (by omega)), if_pos ((lt_nI (by omega) (by omega)).mpr (by omega)), if_pos (gd_nI (by omega) (by omega)), e1]
  simp only [bs]
  unfold nO nH
  by_cases q : h = 6
  · rw [if_pos ((le_nI (by omega) (by omega)).mpr (by omega)), nI_step, md6 (by omega), if_pos q, if_pos q, q]
  · rw [if_neg (nle_nI (by omega) (by omega) (by omega)), nI_step, if_neg q, if_neg q]
theorem p_restoreB {dp df dt dw bp bf bt bw : Nat → Int32} {dn dtr bn btr : Int32} {D : DR} (hB : DC bp bf bt bw bn btr D) (hw : WF D) {o h : Nat} (ho : o < 6) (hh : h < 6) :
    ∃ p f t w, f_X3_restoreB (nI o) bp bf bt bw bn btr (nI (h + 1)) dp df dt dw dn dtr = some (nI h, p, f, t, w, bn, btr) ∧ DC p f t w bn btr D := by
  obtain ⟨p, f, t, w, e1, e2⟩ := p_copyFrom (dp := dp) (df := df) (dt := dt) (dw := dw) (dn := dn) (dtr := dtr) hB hw
  refine ⟨p, f, t, w, ?_, e2⟩
  unfold f_X3_restoreB
  simp only [fa_lit, nme]
  rw [if_neg (nle_nI (by omega) (by omega) (by omega)), pk_sub (show 1 ≤ h + 1 by omega), Nat.add_sub_cancel, nI_step, md6 (by omega), if_neg (nlt_nI (by omega) (by omega) (by omega)), if_neg (nle_nI (by omega) (by omega) (by omega)), if_pos (gd_nI (by omega) (by omega)), e1]
  simp only [bs]
