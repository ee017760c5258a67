/-! ===== both sides: checks of arguments ===== -/
theorem hasRibbon_out {n : Nat} (hn : n ≤ 20) {x : Int32} (h : x < nI 0 ∨ nI n ≤ x) : f_X1_hasRibbon (nI n) x = some (nI 0) := by
  unfold f_X1_hasRibbon
  simp only [fa_lit]
  by_cases c : x < nI 0
  · rw [if_pos c]
  · rw [if_neg c, if_pos (h.resolve_left c)]
theorem checkRibbon_in {n r : Nat} (hn : n ≤ 20) (h : r < n) : f_X6_checkRibbonT (nI n) (nI r) = none ∧ nr (f_X6_checkRibbon (nI n) (nI r)) = some () ∧ f_X6_checkRibbon (nI n) (nI r) = some (.inr ()) := by
  have e : f_X6_checkRibbon (nI n) (nI r) = some (.inr ()) := by
    unfold f_X6_checkRibbon
    rw [p_hasRibbon hn (by omega)]
    simp only [bs, fa_lit, bI_0]
    rw [if_neg (by rw [decide_eq_true h]; decide)]
  refine ⟨?_, by rw [e]; rfl, e⟩
  unfold f_X6_checkRibbonT
  rw [p_hasRibbon hn (by omega)]
  simp only [bs, fa_lit, bI_0]
  rw [if_neg (by rw [decide_eq_true h]; decide)]
theorem checkRibbon_out {n : Nat} (hn : n ≤ 20) {x : Int32} (h : x < nI 0 ∨ nI n ≤ x) : f_X6_checkRibbonT (nI n) x = some eIO := by
  unfold f_X6_checkRibbonT
  rw [hasRibbon_out hn h]
  simp only [bs, fa_lit]
  rw [if_pos trivial]
theorem r_isRibbon_out {z : Nat → Int32} {D : DR} (hz : DZ z D) (hw : WF D) {x : Int32} (h : x < nI 0 ∨ nI (dN D) ≤ x) : f_X7_isRibbon z x = some (nI 0) := by
  have hn := hw.1
  unfold f_X7_isRibbon
  simp only [fa_lit]
  rw [z0, hz.1]
  by_cases c : dN D = 0
  · unfold f_X7_in
    by_cases d : x < nI 0
    · rw [if_pos d]
      simp only [bs, fa_lit]
      rw [if_pos (by decide)]
    · rw [if_neg d, c, if_pos]
      · simp only [bs, fa_lit]
        rw [if_pos (by decide)]
      · rw [Int32.lt_iff_toInt_lt, pk_sub_toInt (by omega) (by omega)]
        rw [i_lt (by omega)] at d
        omega
  · obtain ⟨b, hb⟩ : ∃ b, dN D = b + 1 := ⟨dN D - 1, by omega⟩
    rw [hb] at h ⊢
    rw [pk_sub (by omega), Nat.add_sub_cancel, r_in_out (by omega) h]
    simp only [bs]
    rw [if_pos (by decide)]
/-- two posts of a column, or why not: 1 or 2 -/
theorem pair_arg (x1 x2 : Int32) : (∃ a b, a < 16 ∧ b < 16 ∧ a / 4 = b / 4 ∧ a ≠ b ∧ x1 = nI a ∧ x2 = nI b) ∨
    (f_X6_checkPairT x1 x2 = some eIO ∧ f_X7_whyNoPair x1 x2 = some (nI 1)) ∨ (f_X6_checkPairT x1 x2 = some eIA ∧ f_X7_whyNoPair x1 x2 = some (nI 2)) := by
  rcases (arg_lt x1 16 (by omega)).symm with h1 | ⟨a, ha, rfl⟩
  · refine Or.inr (Or.inl ⟨?_, ?_⟩)
    · unfold f_X6_checkPairT
      rw [checkPost_out h1, tb_s]
    · unfold f_X7_whyNoPair
      simp only [fa_lit]
      rw [r_isPost_out h1]
      simp only [bs]
      rw [if_pos trivial]
  rcases (arg_lt x2 16 (by omega)).symm with h2 | ⟨b, hb, rfl⟩
  · refine Or.inr (Or.inl ⟨?_, ?_⟩)
    · unfold f_X6_checkPairT
      rw [(checkPost_in ha).1, (checkPost_in ha).2, checkPost_out h2, tb_n]
      simp only [bs]
      rw [tb_s]
    · unfold f_X7_whyNoPair
      simp only [fa_lit]
      rw [r_isPost (by omega), r_isPost_out h2]
      simp only [bs, bI_0]
      rw [if_neg (by rw [decide_eq_true ha]; decide), if_pos trivial]
  have hT : f_X6_checkPairT (nI a) (nI b) = if nI a = nI b then some eIA else if nI (a / 4) = nI (b / 4) then none else some eIA := by
    unfold f_X6_checkPairT
    rw [(checkPost_in ha).1, (checkPost_in ha).2, (checkPost_in hb).1, (checkPost_in hb).2, tb_n]
    simp only [bs]
    rw [tb_n, p_columnOf ha, p_columnOf hb]
    simp only [bs]
  have hW : f_X7_whyNoPair (nI a) (nI b) = if nI a = nI b then some (nI 2) else if nI (a / 4) = nI (b / 4) then some (nI 0) else some (nI 2) := by
    unfold f_X7_whyNoPair f_X7_whyNoPair_b30
    simp only [fa_lit]
    rw [r_isPost (by omega), r_isPost (by omega)]
    simp only [bs, bI_0]
    rw [if_neg (by rw [decide_eq_true ha]; decide), if_neg (by rw [decide_eq_true hb]; decide), div_nI (by omega) (by omega) (by omega), div_nI (by omega) (by omega) (by omega)]
  by_cases c : a = b
  · exact Or.inr (Or.inr ⟨by rw [hT, if_pos (by rw [c])], by rw [hW, if_pos (by rw [c])]⟩)
  · have c' : ¬ nI a = nI b := by rw [eq_nI (by omega) (by omega)]; exact c
    by_cases d : a / 4 = b / 4
    · exact Or.inl ⟨a, b, ha, hb, d, c, rfl, rfl⟩
    · have d' : ¬ nI (a / 4) = nI (b / 4) := by rw [eq_nI (by omega) (by omega)]; exact d
      exact Or.inr (Or.inr ⟨by rw [hT, if_neg c', if_neg d'], by rw [hW, if_neg c', if_neg d']⟩)
theorem whyNoPair_ok {a b : Nat} (ha : a < 16) (hb : b < 16) (hc : a / 4 = b / 4) (hn : a ≠ b) : f_X7_whyNoPair (nI a) (nI b) = some (nI 0) := by
  unfold f_X7_whyNoPair
  simp only [fa_lit]
  rw [r_isPost (by omega), r_isPost (by omega)]
  simp only [bs, bI_0]
  rw [if_neg (by rw [decide_eq_true ha]; decide), if_neg (by rw [decide_eq_true hb]; decide), if_neg (by rw [eq_nI (by omega) (by omega)]; exact hn), div_nI (by omega) (by omega) (by omega), div_nI (by omega) (by omega) (by omega), if_pos (by rw [hc])]
theorem column_arg (x : Int32) : (∃ c, c < 4 ∧ x = nI c ∧ f_X7_isColumn x = some (nI 1)) ∨ (f_X6_checkColumnT x = some eIO ∧ f_X7_isColumn x = some (nI 0)) := by
  rcases arg_lt x 4 (by omega) with ⟨c, hc, rfl⟩ | h
  · refine Or.inl ⟨c, hc, rfl, ?_⟩
    unfold f_X7_isColumn
    simp only [fa_lit]
    rw [r_in (by omega) (by omega) (by omega), decide_eq_true ⟨Nat.zero_le _, by omega⟩]
    simp only [bs]
    rw [if_pos (by decide)]
    rfl
  · refine Or.inr ⟨?_, ?_⟩
    · unfold f_X6_checkColumnT
      simp only [fa_lit]
      by_cases d : x < nI 0
      · rw [if_pos d]
      · have h2 := h.resolve_left d
        rw [if_neg d, if_neg]
        rw [i_lt (by omega)]
        rw [i_ge (by omega)] at h2
        omega
    · unfold f_X7_isColumn
      simp only [fa_lit]
      rw [r_in_out (by omega) h]
      simp only [bs]
      rw [if_pos (by decide)]
theorem slot_arg (x : Int32) : (∃ c, c < 2 ∧ x = nI c ∧ f_X6_checkSlotT x = none ∧ f_X6_checkSlot x = some (.inr ()) ∧ f_X7_in x (nI 0) (nI 1) = some (nI 1)) ∨ (f_X6_checkSlotT x = some eIA ∧ f_X7_in x (nI 0) (nI 1) = some (nI 0)) := by
  rcases arg_lt x 2 (by omega) with ⟨c, hc, rfl⟩ | h
  · refine Or.inl ⟨c, hc, rfl, ?_, ?_, ?_⟩
    · unfold f_X6_checkSlotT
      simp only [fa_lit]
      rw [if_neg (nlt_nI (by omega) (by omega) (by omega)), if_pos ((lt_nI (by omega) (by omega)).mpr hc)]
    · unfold f_X6_checkSlot
      simp only [fa_lit]
      rw [if_neg (nlt_nI (by omega) (by omega) (by omega)), if_pos ((lt_nI (by omega) (by omega)).mpr hc)]
    · rw [r_in (by omega) (by omega) (by omega), decide_eq_true ⟨Nat.zero_le _, by omega⟩]
      rfl
  · refine Or.inr ⟨?_, r_in_out (by omega) h⟩
    unfold f_X6_checkSlotT
    simp only [fa_lit]
    by_cases d : x < nI 0
    · rw [if_pos d]
    · have h2 := h.resolve_left d
      rw [if_neg d, if_neg]
      rw [i_lt (by omega)]
      rw [i_ge (by omega)] at h2
      omega
theorem inner_arg (x : Int32) : (∃ p, 4 ≤ p ∧ p < 12 ∧ x = nI p ∧ f_X6_isInner x = some (nI 1) ∧ f_X7_isInner x = some (nI 1)) ∨ (f_X6_isInner x = some (nI 0) ∧ f_X7_isInner x = some (nI 0)) := by
  rcases arg_lt x 12 (by omega) with ⟨p, hp, rfl⟩ | h
  · by_cases c : 4 ≤ p
    · refine Or.inl ⟨p, c, hp, rfl, ?_, ?_⟩
      · rw [p_isInner (by omega), decide_eq_true ⟨c, hp⟩]; rfl
      · rw [r_isInner (by omega), decide_eq_true ⟨c, hp⟩]; rfl
    · refine Or.inr ⟨?_, ?_⟩
      · rw [p_isInner (by omega), decide_eq_false (by omega)]; rfl
      · rw [r_isInner (by omega), decide_eq_false (by omega)]; rfl
  · refine Or.inr ⟨?_, ?_⟩
    · unfold f_X6_isInner
      simp only [fa_lit]
      by_cases d : x < nI 4
      · rw [if_pos d]
      · rw [if_neg d, if_pos]
        rcases h with h | h
        · exact absurd (by rw [i_lt (by omega)] at h ⊢; omega) d
        · exact h
    · unfold f_X7_isInner
      simp only [fa_lit]
      rw [r_inX]
      have e : (!decide (x < nI 4) && !decide (nI 11 < x)) = false := by
        rcases h with h | h
        · have : x < nI 4 := by rw [i_lt (by omega)] at h ⊢; omega
          rw [decide_eq_true this]; rfl
        · have : nI 11 < x := by rw [i_ge (by omega)] at h; rw [i_gt (by omega)]; omega
          rw [decide_eq_true this, Bool.not_true, Bool.and_false]
      rw [e]
      simp only [bs]
      rw [if_pos (by decide)]
      rfl
/-- a width from 0 on to 50, or not -/
theorem width0_arg (x : Int32) : (∃ w, w ≤ 50 ∧ x = nI w ∧ f_X7_in x (nI 0) (nI 50) = some (nI 1)) ∨ ((x < nI 0 ∨ ¬ x ≤ nI 50) ∧ f_X7_in x (nI 0) (nI 50) = some (nI 0)) := by
  rcases arg_lt x 51 (by omega) with ⟨w, hw, rfl⟩ | h
  · refine Or.inl ⟨w, by omega, rfl, ?_⟩
    rw [r_in (by omega) (by omega) (by omega), decide_eq_true ⟨Nat.zero_le _, by omega⟩]
    rfl
  · refine Or.inr ⟨?_, r_in_out (by omega) h⟩
    rcases h with h | h
    · exact Or.inl h
    · refine Or.inr ?_
      rw [i_ge (by omega)] at h
      rw [i_le (by omega)]
      omega
