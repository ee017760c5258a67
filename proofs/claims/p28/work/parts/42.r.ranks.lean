/-! ===== the reference: ranks of a column's posts ===== -/
def ahd (D : DR) (c j k : Nat) : Bool := decide (mU D c j * mV D c k < mU D c k * mV D c j ∨ (mU D c j * mV D c k = mU D c k * mV D c j ∧ dP D (c * 4 + j) < dP D (c * 4 + k)))
def rkN (D : DR) (c k n : Nat) : Nat := sN (fun j => if j ≠ k ∧ ahd D c j k = true then 1 else 0) n
def rk (D : DR) (c k : Nat) : Nat := rkN D c k 4
theorem rkN_s (D : DR) (c k n : Nat) : rkN D c k (n + 1) = rkN D c k n + (if n ≠ k ∧ ahd D c n k = true then 1 else 0) := rfl
theorem rkN_le (D : DR) (c k : Nat) : ∀ n, rkN D c k n ≤ n
  | 0 => Nat.le_refl _
  | n + 1 => by
    rw [rkN_s]
    have h := rkN_le D c k n
    by_cases q : n ≠ k ∧ ahd D c n k = true
    · rw [if_pos q]; omega
    · rw [if_neg q]; omega
theorem rk_lt (D : DR) {c k : Nat} (hk : k < 4) : rk D c k < 4 := by
  have h1 := rkN_le D c k k
  have key : ∀ m, k + 1 + m = 4 → rkN D c k (k + 1 + m) ≤ k + m := by
    intro m
    induction m with
    | zero =>
      intro _
      rw [Nat.add_zero, rkN_s, if_neg (fun h => h.1 rfl)]
      omega
    | succ m _ =>
      intro _
      have h2 : ∀ n, k < n → rkN D c k n < n := by
        intro n
        induction n with
        | zero => intro h; omega
        | succ n ih =>
          intro h
          rw [rkN_s]
          by_cases e : n = k
          · rw [if_neg (fun h => h.1 e)]
            have := rkN_le D c k n
            omega
          · have := ih (by omega)
            by_cases q : n ≠ k ∧ ahd D c n k = true
            · rw [if_pos q]; omega
            · rw [if_neg q]; omega
      have := h2 (k + 1 + (m + 1)) (by omega)
      omega
  have := key (3 - k) (by omega)
  have e : k + 1 + (3 - k) = 4 := by omega
  rw [e] at this
  unfold rk
  omega
theorem mU_le {D : DR} (hw : WF D) {c k : Nat} (hc : c < 4) (hk : k < 4) : mU D c k ≤ 60 := by
  unfold mU
  by_cases q : mN D c k (dN D) = 0
  · rw [if_pos q]; have := hw.2.1 (c * 4 + k) (by omega); omega
  · rw [if_neg q]; exact mS_le hw c k _ (Nat.le_refl _)
theorem mV_le {D : DR} (hw : WF D) {c k : Nat} : mV D c k ≤ 20 := by
  unfold mV
  by_cases q : mN D c k (dN D) = 0
  · rw [if_pos q]; omega
  · rw [if_neg q]; exact mN_le hw c k _ (Nat.le_refl _)
theorem mV_pos (D : DR) (c k : Nat) : 0 < mV D c k := by
  unfold mV
  by_cases q : mN D c k (dN D) = 0
  · rw [if_pos q]; omega
  · rw [if_neg q]; omega
theorem uv_le {D : DR} (hw : WF D) {c j k : Nat} (hc : c < 4) (hj : j < 4) : mU D c j * mV D c k ≤ 1200 := Nat.mul_le_mul (mU_le hw hc hj) (mV_le hw)
theorem r_isAhead {z s m : Nat → Int32} {D : DR} (hz : DZ z D) (hw : WF D) {c j k : Nat} (hc : c < 4) (hj : j < 4) (hk : k < 4) (hs : ∀ k, k < 4 → s k = nI (mU D c k) ∧ m k = nI (mV D c k)) :
    f_X7_isAhead z s m (nI c) (nI j) (nI k) = some (bI (ahd D c j k)) := by
  have b1 := uv_le hw (k := k) hc hj
  have b2 := uv_le hw (k := j) hc hk
  have p1 := hw.2.1 (c * 4 + j) (by omega)
  have p2 := hw.2.1 (c * 4 + k) (by omega)
  unfold f_X7_isAhead f_X7_isAhead_b65
  simp only [fa_lit, nme]
  simp only [if_pos (gd_nI hj (show j < 2147483648 by omega)), if_pos (gd_nI hk (show k < 2147483648 by omega))]
  rw [cl_nI (by omega), cl_nI (by omega), (hs j hj).1, (hs j hj).2, (hs k hk).1, (hs k hk).2, pk_mul, pk_mul, pk_mul, nI_step, nI_step, r_place hz (by omega), r_place hz (by omega)]
  simp only [bs]
  unfold ahd
  rw [Nat.mul_comm c 4]
  rw [Nat.mul_comm c 4] at p1 p2
  by_cases h1 : mU D c j * mV D c k < mU D c k * mV D c j
  · rw [if_pos ((lt_nI (by omega) (by omega)).mpr h1), decide_eq_true (Or.inl h1)]; rfl
  · rw [if_neg (by rw [lt_nI (by omega) (by omega)]; exact h1)]
    by_cases h2 : mU D c j * mV D c k = mU D c k * mV D c j
    · rw [if_pos (by rw [h2])]
      by_cases h3 : dP D (4 * c + j) < dP D (4 * c + k)
      · rw [if_neg (nle_nI (by omega) (by omega) h3), decide_eq_true (Or.inr ⟨h2, h3⟩)]; rfl
      · rw [if_pos ((le_nI (by omega) (by omega)).mpr (by omega)), decide_eq_false (fun h => by cases h with
          | inl h => exact h1 h
          | inr h => exact h3 h.2)]; rfl
    · rw [if_neg (by rw [eq_nI (by omega) (by omega)]; exact h2), decide_eq_false (fun h => by cases h with
          | inl h => exact h1 h
          | inr h => exact h2 h.1)]; rfl
theorem r_rank {z s m : Nat → Int32} {D : DR} (hz : DZ z D) (hw : WF D) {c k : Nat} (hc : c < 4) (hk : k < 4) (hs : ∀ k, k < 4 → s k = nI (mU D c k) ∧ m k = nI (mV D c k)) (K : Int32 → Int32 → (Nat → Int32) → (Nat → Int32) → (Nat → Int32) → Option ((Nat → Int32) × (Nat → Int32) × (Nat → Int32))) (q : Nat) :
    f_X7_sweepColumn_b193 (nI c) K FU (nI q) (nI k) (nI 0) (nI 0) z s m = K (nI (4 * q + rk D c k)) (nI k + -nI 1) z s m := by
  refine loopA (fun F (t : Nat) i => f_X7_sweepColumn_b193 (nI c) K F (nI q) (nI k) (nI t) i z s m) (fun i t => t + (if i ≠ k ∧ ahd D c i k = true then 1 else 0)) 0 4 (fun i t => t = rkN D c k i) _ rfl (fun F i hi hI => ?_) (fun F hI => ?_) FU (FU_big (by omega))
  · refine ⟨?_, by rw [hI]; rfl⟩
    show f_X7_sweepColumn_b193 (nI c) K (F + 1) (nI q) (nI k) _ (nI i) z s m = _
    simp only [f_X7_sweepColumn_b193, f_X7_sweepColumn_b222, f_X7_sweepColumn_b223, fa_lit, nme]
    rw [if_neg (nle_nI (by omega) (by omega) hi)]
    by_cases e : i = k
    · rw [if_pos (by rw [e]), if_neg (fun h => h.1 e), nI_step, nI_step]
    · rw [if_neg (by rw [eq_nI (by omega) (by omega)]; exact e), r_isAhead hz hw hc hi hk hs]
      simp only [bs, bI_0]
      by_cases a : ahd D c i k = true
      · rw [if_neg (by rw [a]; decide), if_pos ⟨e, a⟩, nI_step, nI_step]
      · rw [if_pos (by simpa using a), if_neg (fun h => a h.2), nI_step, nI_step]
  · rw [hI]
    show f_X7_sweepColumn_b193 (nI c) K (F + 1) (nI q) (nI k) _ (nI 4) z s m = _
    simp only [f_X7_sweepColumn_b193, fa_lit, nme]
    rw [if_pos ((le_nI (by omega) (by omega)).mpr (Nat.le_refl _)), pk_mul, nI_step]
    rfl
