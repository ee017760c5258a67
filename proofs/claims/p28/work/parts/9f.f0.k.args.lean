/-! ===== both sides: ribbon ===== -/
def KE (a b c : Option String) (k : Nat) (E : String) : Prop := (k = 1 ∧ a = some E) ∨ (k = 2 ∧ b = some E) ∨ (k = 3 ∧ c = some E)
theorem KE1 {a b c : Option String} {E : String} (h : a = some E) : KE a b c 1 E := Or.inl ⟨rfl, h⟩
theorem KE2 {a b c : Option String} {E : String} (h : b = some E) : KE a b c 2 E := Or.inr (Or.inl ⟨rfl, h⟩)
theorem KE3 {a b c : Option String} {E : String} (h : c = some E) : KE a b c 3 E := Or.inr (Or.inr ⟨rfl, h⟩)
theorem isPost_out {x : Int32} (h : x < nI 0 ∨ nI 16 ≤ x) : f_X6_isPost x = some (nI 0) := by
  unfold f_X6_isPost
  simp only [fa_lit]
  by_cases c : x < nI 0
  · rw [if_pos c]
  · rw [if_neg c, if_pos (h.resolve_left c)]
theorem checkPost_in {p : Nat} (h : p < 16) : f_X6_checkPostT (nI p) = none ∧ nr (f_X6_checkPost (nI p)) = some () := by
  constructor
  · unfold f_X6_checkPostT
    rw [p_isPost (by omega)]
    simp only [bs, fa_lit, bI_0]
    rw [if_neg (by rw [decide_eq_true h]; decide)]
  · rw [p_checkPost h]
    rfl
theorem checkPost_out {x : Int32} (h : x < nI 0 ∨ nI 16 ≤ x) : f_X6_checkPostT x = some eIO := by
  unfold f_X6_checkPostT
  rw [isPost_out h]
  simp only [bs, fa_lit]
  rw [if_pos trivial]
theorem r_isPost_out {x : Int32} (h : x < nI 0 ∨ nI 16 ≤ x) : f_X7_isPost x = some (nI 0) := by
  unfold f_X7_isPost
  simp only [fa_lit]
  rw [r_in_out (by omega) h]
  simp only [bs]
  rw [if_pos (by decide)]
theorem tb_n (y : Option String) : tb none y = y := rfl
theorem tb_s (e : String) (y : Option String) : tb (some e) y = some e := rfl
theorem columnOf_any (x : Int32) : f_X6_columnOf x = some (x / nI 4) := by
  unfold f_X6_columnOf
  simp only [fa_lit]
/-- a width from 1 on to 50, or not -/
theorem width_arg (x : Int32) : (∃ w, 1 ≤ w ∧ w ≤ 50 ∧ x = nI w) ∨ (x < nI 1 ∨ ¬ x ≤ nI 50) := by
  rcases arg_lt x 51 (by omega) with ⟨w, hw, rfl⟩ | h
  · by_cases c : w = 0
    · subst c
      exact Or.inr (Or.inl ((lt_nI (by omega) (by omega)).mpr (by omega)))
    · exact Or.inl ⟨w, by omega, by omega, rfl⟩
  · refine Or.inr ?_
    rcases h with h | h
    · refine Or.inl ?_
      rw [i_lt (by omega)] at h ⊢
      omega
    · refine Or.inr ?_
      rw [i_ge (by omega)] at h
      rw [i_le (by omega)]
      omega
theorem r_in_w {x : Int32} (h : x < nI 1 ∨ ¬ x ≤ nI 50) : f_X7_in x (nI 1) (nI 50) = some (nI 0) := by
  rw [r_inX]
  rcases h with h | h
  · rw [decide_eq_true h]; rfl
  · have h2 : nI 50 < x := by
      rw [i_gt (by omega)]
      rw [i_le (by omega)] at h
      omega
    rw [decide_eq_true h2]
    simp [bI]
