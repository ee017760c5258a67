/-! ===== a ribbon less: both sides ===== -/
def shf (i : Nat) (g : Nat → Nat) (k : Nat) : Nat := if k < i then g k else g (k + 1)
def rmD (D : DR) (i : Nat) : DR := (D.1 - 1, D.2.1, D.2.2.1, shf i D.2.2.2.1, shf i D.2.2.2.2.1, shf i D.2.2.2.2.2)
theorem rmD_wf {D : DR} (hw : WF D) {i : Nat} (hi : i < dN D) : WF (rmD D i) := by
  obtain ⟨w1, w2, w3, w4⟩ := hw
  refine ⟨?_, w2, w3, fun r hr => ?_⟩
  · show dN D - 1 ≤ 20; omega
  · have hr : r < dN D - 1 := hr
    show shf i (dF D) r < 16 ∧ shf i (dG D) r < 16 ∧ shf i (dF D) r / 4 ≠ shf i (dG D) r / 4 ∧ shf i (dW D) r ≤ 50
    unfold shf
    by_cases q : r < i
    · rw [if_pos q, if_pos q, if_pos q]; exact w4 r (by omega)
    · rw [if_neg q, if_neg q, if_neg q]; exact w4 (r + 1) (by omega)
/-- shifted up to j -/
def SH (a : Nat → Int32) (g : Nat → Nat) (i j n : Nat) : Prop := ∀ k, k < n → a k = nI (if i ≤ k ∧ k + 1 < j then g (k + 1) else g k)
theorem SH_0 {a : Nat → Int32} {g : Nat → Nat} {i n : Nat} (h : RR a g n) : SH a g i (i + 1) n := by
  intro k hk
  rw [if_neg (by omega), h k hk]
theorem SH_s {a : Nat → Int32} {g : Nat → Nat} {i j n : Nat} (h : SH a g i j n) (hj : j < n) (hi : i < j) : SH (upd a (j - 1) (a j)) g i (j + 1) n := by
  intro k hk
  by_cases q : k = j - 1
  · rw [q, upd_q, h j hj, if_neg (by omega), if_pos (by omega)]
    exact congrArg (fun x => nI (g x)) (by omega)
  · rw [upd_w q, h k hk]
    by_cases c : i ≤ k ∧ k + 1 < j
    · rw [if_pos c, if_pos (by omega)]
    · rw [if_neg c, if_neg (by omega)]
theorem SH_n {a : Nat → Int32} {g : Nat → Nat} {i n : Nat} (h : SH a g i n n) : RR a (shf i g) (n - 1) := by
  intro k hk
  rw [h k (by omega)]
  unfold shf
  by_cases c : k < i
  · rw [if_neg (by omega), if_pos c]
  · rw [if_pos (by omega), if_neg c]
theorem p_dropRibbon {fr to wd : Nat → Int32} {D : DR} (hf : RR fr (dF D) (dN D)) (hg : RR to (dG D) (dN D)) (hd : RR wd (dW D) (dN D)) (hw : WF D) {i : Nat} (hi : i < dN D) :
    ∃ fr' to' wd', f_X1_dropRibbon (nI i) fr to wd (nI (dN D)) = some (fr', to', wd', nI (dN D - 1)) ∧ RR fr' (dF (rmD D i)) (dN D - 1) ∧ RR to' (dG (rmD D i)) (dN D - 1) ∧ RR wd' (dW (rmD D i)) (dN D - 1) := by
  have hn := hw.1
  have h := loopI (fun F j (x : (Nat → Int32) × (Nat → Int32) × (Nat → Int32)) => f_X1_dropRibbon_b13 (nI i) F j x.1 x.2.1 x.2.2 (nI (dN D))) (fun x => some (x.1, x.2.1, x.2.2, nI (dN D - 1)))
    (fun j x => i < j ∧ SH x.1 (dF D) i j (dN D) ∧ SH x.2.1 (dG D) i j (dN D) ∧ SH x.2.2 (dW D) i j (dN D)) (dN D) (fun F j x hj hI => ?_) (fun F x _ => ?_) (dN D - (i + 1)) (i + 1) FU (fr, to, wd) (by omega) (FU_big (by omega)) ⟨by omega, SH_0 hf, SH_0 hg, SH_0 hd⟩
  · obtain ⟨⟨f', t', w'⟩, e1, -, e2, e3, e4⟩ := h
    refine ⟨f', t', w', ?_, SH_n e2, SH_n e3, SH_n e4⟩
    unfold f_X1_dropRibbon
    rw [p_hasRibbon hn (by omega), decide_eq_true hi]
    simp only [bs, fa_lit, nme, bI_0]
    rw [if_neg (by decide), nI_step]
    exact e1
  · obtain ⟨f, t, w⟩ := x
    obtain ⟨h0, h1, h2, h3⟩ := hI
    refine ⟨(upd f (j - 1) (f j), upd t (j - 1) (t j), upd w (j - 1) (w j)), ?_, by omega, SH_s h1 hj h0, SH_s h2 hj h0, SH_s h3 hj h0⟩
    show f_X1_dropRibbon_b13 (nI i) (F + 1) (nI j) f t w (nI (dN D)) = _
    simp only [f_X1_dropRibbon_b13, fa_lit, nme]
    rw [if_neg (nle_nI (by omega) (by omega) hj), if_neg (nle_nI (by omega) (by omega) (by omega)), pk_sub (show 1 ≤ j by omega)]
    simp only [if_pos (gd_nI (show j < 20 by omega) (show j < 2147483648 by omega)), if_pos (gd_nI (show j - 1 < 20 by omega) (show j - 1 < 2147483648 by omega))]
    rw [cl_nI (by omega), cl_nI (by omega), nI_step]
  · obtain ⟨f, t, w⟩ := x
    show f_X1_dropRibbon_b13 (nI i) (F + 1) (nI (dN D)) f t w (nI (dN D)) = _
    simp only [f_X1_dropRibbon_b13, f_X1_dropRibbon_b75, fa_lit, nme]
    rw [if_pos ((le_nI (by omega) (by omega)).mpr (Nat.le_refl _)), pk_sub (show 1 ≤ dN D by omega)]
