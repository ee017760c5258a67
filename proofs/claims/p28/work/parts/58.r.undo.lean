/-! ===== the reference: undo ===== -/
theorem r_undo {z sv : Nat → Int32} {L : Nat → DR} {n : Nat} {th : Int32} (hn : n < 6) (hs : SV sv L (n + 1)) : ∃ z', f_X7_undo sv th z (nI (n + 1)) = some (nI n, nI 0, z', nI n) ∧ DZ z' (L n) ∧ WF (L n) ∧ SV sv L n := by
  obtain ⟨a, b⟩ := hs n (by omega)
  have h := loopI (fun F i x => f_X7_undo_b37 sv F i (nI 0) x (nI n)) (fun x => some (nI n, nI 0, x, nI n)) (fun i x => ∀ k, k < i → x k = sv (78 * n + k)) 78
    (fun F i x hi hI => ⟨upd x i (sv (78 * n + i)), ?_, fun k hk => ?_⟩) (fun F x _ => ?_) 78 0 FU z (by omega) (FU_big (by omega)) (fun k hk => by omega)
  · obtain ⟨z', e1, e2⟩ := h
    refine ⟨z', ?_, DZ_cong b e2 a, b, fun s h => hs s (by omega)⟩
    unfold f_X7_undo f_X7_undo_b13
    simp only [fa_lit, nme]
    rw [if_neg (by rw [eq_nI (by omega) (by omega)]; omega), if_pos ((le_nI (by omega) (by omega)).mpr (Nat.le_refl _)), pk_sub (show 1 ≤ n + 1 by omega), Nat.add_sub_cancel]
    exact e1
  · show f_X7_undo_b37 sv (F + 1) (nI i) (nI 0) x (nI n) = _
    simp only [f_X7_undo_b37, fa_lit, nme]
    rw [if_neg (nle_nI (by omega) (by omega) hi), pk_mul, nI_step, if_pos (gd_nI (by omega) (by omega)), if_pos (gd_nI hi (by omega)), cl_nI (by omega), cl_nI (by omega), nI_step]
  · by_cases q : k = i
    · rw [q, upd_q]
    · rw [upd_w q]; exact hI k (by omega)
  · show f_X7_undo_b37 sv (F + 1) (nI 78) (nI 0) x (nI n) = _
    simp only [f_X7_undo_b37, fa_lit, nme]
    rw [if_pos ((le_nI (by omega) (by omega)).mpr (Nat.le_refl _))]
