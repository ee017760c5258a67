/-! ===== the reference: saved states ===== -/
theorem r_putState {z sv : Nat → Int32} {m : Nat} (hm : m < 6) : ∃ sv', f_X7_record_b49 z sv (nI m) = some (sv', nI (m + 1)) ∧ (∀ k, k < 78 → sv' (78 * m + k) = z k) ∧ ∀ j, (j < 78 * m ∨ 78 * m + 78 ≤ j) → sv' j = sv j := by
  have h := loopI (fun F i x => f_X7_record_b51 z F i x (nI m)) (fun x => some (x, nI (m + 1))) (fun i x => (∀ k, k < i → x (78 * m + k) = z k) ∧ ∀ j, (j < 78 * m ∨ 78 * m + 78 ≤ j) → x j = sv j) 78
    (fun F i x hi hI => ⟨upd x (78 * m + i) (z i), ?_, fun k hk => ?_, fun j hj => ?_⟩) (fun F x _ => ?_) 78 0 FU sv (by omega) (FU_big (by omega)) ⟨fun k hk => by omega, fun _ _ => rfl⟩
  · obtain ⟨sv', e1, e2, e3⟩ := h
    refine ⟨sv', ?_, e2, e3⟩
    unfold f_X7_record_b49
    simp only [fa_lit]
    exact e1
  · show f_X7_record_b51 z (F + 1) (nI i) x (nI m) = _
    simp only [f_X7_record_b51, fa_lit, nme]
    rw [if_neg (nle_nI (by omega) (by omega) hi), if_pos (gd_nI hi (by omega)), pk_mul, nI_step, if_pos (gd_nI (by omega) (by omega)), cl_nI (by omega), cl_nI (by omega), nI_step]
  · by_cases q : k = i
    · rw [q, upd_q]
    · rw [upd_w (by omega)]; exact hI.1 k (by omega)
  · rw [upd_w (by omega)]; exact hI.2 j hj
  · show f_X7_record_b51 z (F + 1) (nI 78) x (nI m) = _
    simp only [f_X7_record_b51, fa_lit, nme]
    rw [if_pos ((le_nI (by omega) (by omega)).mpr (Nat.le_refl _)), nI_step]
/-- the rows of saved states tell the drawings L 0 .. L (n - 1), the oldest first -/
def SV (sv : Nat → Int32) (L : Nat → DR) (n : Nat) : Prop := ∀ s, s < n → DZ (fun k => sv (78 * s + k)) (L s) ∧ WF (L s)
theorem r_save5 {z sv : Nat → Int32} {L : Nat → DR} {D : DR} {n : Nat} (hn : n < 6) (hs : SV sv L n) (hz : DZ z D) (hw : WF D) : ∃ sv', f_X7_record z sv (nI n) = some (sv', nI (n + 1)) ∧ SV sv' (fun s => if s = n then D else L s) (n + 1) := by
  obtain ⟨sv', e1, e2, e3⟩ := r_putState (z := z) (sv := sv) hn
  refine ⟨sv', ?_, fun s h => ?_⟩
  · unfold f_X7_record
    simp only [fa_lit]
    rw [if_neg (by rw [eq_nI (by omega) (by omega)]; omega), e1]
  · by_cases q : s = n
    · subst q
      show DZ _ (if s = s then D else L s) ∧ WF (if s = s then D else L s)
      rw [if_pos rfl]
      exact ⟨DZ_cong hw e2 hz, hw⟩
    · show DZ _ (if s = n then D else L s) ∧ WF (if s = n then D else L s)
      rw [if_neg q]
      obtain ⟨a, b⟩ := hs s (by omega)
      exact ⟨DZ_cong b (fun k hk => e3 _ (Or.inl (by omega))) a, b⟩
theorem r_save6 {z sv : Nat → Int32} {L : Nat → DR} {D : DR} (hs : SV sv L 6) (hz : DZ z D) (hw : WF D) : ∃ sv', f_X7_record z sv (nI 6) = some (sv', nI 6) ∧ SV sv' (fun s => if s = 5 then D else L (s + 1)) 6 := by
  have h := loopI (fun F i x => f_X7_record_b11 z F i x (nI 6)) (fun x => f_X7_record_b49 z x (nI 5)) (fun i x => (∀ k, k < i → x k = sv (78 + k)) ∧ ∀ j, i ≤ j → x j = sv j) 390
    (fun F i x hi hI => ⟨upd x i (sv (78 + i)), ?_, fun k hk => ?_, fun j hj => ?_⟩) (fun F x _ => ?_) 390 0 FU sv (by omega) (FU_big (by omega)) ⟨fun k hk => by omega, fun _ _ => rfl⟩
  · obtain ⟨x, e1, e2, e3⟩ := h
    obtain ⟨sv', g1, g2, g3⟩ := r_putState (z := z) (sv := x) (m := 5) (by omega)
    refine ⟨sv', ?_, fun s h => ?_⟩
    · unfold f_X7_record
      simp only [fa_lit]
      rw [if_pos trivial]
      exact e1.trans g1
    · by_cases q : s = 5
      · subst q
        exact ⟨DZ_cong hw g2 hz, hw⟩
      · show DZ _ (if s = 5 then D else L (s + 1)) ∧ WF (if s = 5 then D else L (s + 1))
        rw [if_neg q]
        obtain ⟨a, b⟩ := hs (s + 1) (by omega)
        refine ⟨DZ_cong b (fun k hk => ?_) a, b⟩
        show sv' (78 * s + k) = sv (78 * (s + 1) + k)
        rw [g3 _ (Or.inl (by omega)), e2 _ (by omega)]
        exact congrArg sv (by omega)
  · show f_X7_record_b11 z (F + 1) (nI i) x (nI 6) = _
    simp only [f_X7_record_b11, fa_lit, nme]
    rw [if_neg (nle_nI (by omega) (by omega) hi), nI_step, if_pos (gd_nI (by omega) (by omega)), if_pos (gd_nI (by omega) (by omega)), cl_nI (by omega), cl_nI (by omega), nI_step, hI.2 (78 + i) (by omega)]
  · by_cases q : k = i
    · rw [q, upd_q]
    · rw [upd_w q]; exact hI.1 k (by omega)
  · rw [upd_w (by omega)]; exact hI.2 j (by omega)
  · show f_X7_record_b11 z (F + 1) (nI 390) x (nI 6) = _
    simp only [f_X7_record_b11, fa_lit, nme]
    rw [if_pos ((le_nI (by omega) (by omega)).mpr (Nat.le_refl _)), pk_sub (by omega)]
