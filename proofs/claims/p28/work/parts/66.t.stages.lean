/-! ===== texts: the class's stages ===== -/
theorem p_codeAt {t : Nat → Int32} {T : Nat → Nat} {n k : Nat} (ht : RR t T n) (hn : n ≤ 60) (hk : k < 100) : f_X4_codeAt t (nI n) (nI k) = some (nI (aT T n k)) := by
  unfold f_X4_codeAt aT
  simp only [fa_lit]
  rw [if_neg (nlt_nI (by omega) (by omega) (by omega))]
  by_cases h : k < n
  · rw [if_neg (nle_nI (by omega) (by omega) h), if_neg (nle_nI (by omega) (by omega) (by omega)), if_pos (gd_nI (by omega) (by omega)), cl_nI (by omega), ht k h, if_pos h]
  · rw [if_pos ((le_nI (by omega) (by omega)).mpr (by omega)), if_neg h]
theorem p_isLetter {c : Nat} (h : c < 200) : f_X4_isPostLetter (nI c) = some (bI (ltr c)) := by
  unfold f_X4_isPostLetter ltr
  simp only [fa_lit]
  by_cases h1 : c < 97
  · rw [if_pos ((lt_nI (by omega) (by omega)).mpr h1), decide_eq_false (by omega)]; rfl
  · rw [if_neg (nlt_nI (by omega) (by omega) (by omega))]
    by_cases h2 : 112 < c
    · rw [if_pos ((lt_nI (by omega) (by omega)).mpr h2), decide_eq_false (by omega)]; rfl
    · rw [if_neg (nlt_nI (by omega) (by omega) (by omega)), decide_eq_true (by omega)]; rfl
theorem p_isDigit {c : Nat} (h : c < 200) : f_X4_isDigit (nI c) = some (bI (dgt c)) := by
  unfold f_X4_isDigit dgt
  simp only [fa_lit]
  by_cases h1 : c < 48
  · rw [if_pos ((lt_nI (by omega) (by omega)).mpr h1), decide_eq_false (by omega)]; rfl
  · rw [if_neg (nlt_nI (by omega) (by omega) (by omega))]
    by_cases h2 : 57 < c
    · rw [if_pos ((lt_nI (by omega) (by omega)).mpr h2), decide_eq_false (by omega)]; rfl
    · rw [if_neg (nlt_nI (by omega) (by omega) (by omega)), decide_eq_true (by omega)]; rfl
theorem p_isOther {c b : Nat} (h : c < 200) (hb : ltr b = true) : f_X4_isOtherColumn (nI c) (nI b) = some (bI (oth c b)) := by
  have e0 := ltr_t hb
  unfold f_X4_isOtherColumn oth
  simp only [fa_lit]
  rw [p_isLetter h]
  simp only [bs, bI_0]
  by_cases c1 : ltr c = false
  · rw [if_pos c1, c1]; rfl
  · have d1 : ltr c = true := by simpa using c1
    have e1 := ltr_t d1
    rw [if_neg c1, d1, pk_sub e0.1, pk_sub e1.1, p_columnOf (by omega), p_columnOf (by omega)]
    simp only [bs]
    by_cases c2 : (c - 97) / 4 = (b - 97) / 4
    · rw [if_pos (by rw [c2]), decide_eq_false (by omega)]; rfl
    · rw [if_neg (by rw [eq_nI (by omega) (by omega)]; exact c2), decide_eq_true c2]; rfl
def s6 (c : Nat) : Nat := if c = 59 then 1 else 0
def s5 (c : Nat) : Nat := if c = 48 then 6 else s6 c
def s4 (c : Nat) : Nat := if dgt c = true then 6 else s6 c
def s3 (c : Nat) : Nat := if 49 ≤ c ∧ c ≤ 57 then (if 53 ≤ c then (if c = 53 then 5 else 6) else 4) else 0
theorem p_after3 {c : Nat} (h : c < 200) : f_X4_stageAfterFirstDigit (nI c) = some (nI (s3 c)) := by
  unfold f_X4_stageAfterFirstDigit s3
  simp only [fa_lit]
  rw [p_isDigit h]
  simp only [bs, bI_0]
  unfold dgt
  by_cases h0 : 48 ≤ c ∧ c ≤ 57
  · rw [if_neg (by rw [decide_eq_true h0]; decide)]
    by_cases h1 : c = 48
    · rw [if_pos (by rw [h1]), if_neg (by omega)]
    · rw [if_neg (by rw [eq_nI (by omega) (by omega)]; exact h1), if_pos (show 49 ≤ c ∧ c ≤ 57 by omega)]
      by_cases h2 : 53 ≤ c
      · rw [if_pos ((le_nI (by omega) (by omega)).mpr h2), if_pos h2]
        by_cases h3 : c = 53
        · rw [if_pos (by rw [h3]), if_pos h3]
        · rw [if_neg (by rw [eq_nI (by omega) (by omega)]; exact h3), if_neg h3]
      · rw [if_neg (nle_nI (by omega) (by omega) (by omega)), if_neg h2]
  · rw [if_pos (decide_eq_false h0), if_neg (by omega)]
theorem p_after6 {c : Nat} (h : c < 200) : f_X4_stageAfterWidth (nI c) = some (nI (s6 c)) := by
  unfold f_X4_stageAfterWidth s6
  simp only [fa_lit]
  by_cases h1 : c = 59
  · rw [if_pos (by rw [h1]), if_pos h1]
  · rw [if_neg (by rw [eq_nI (by omega) (by omega)]; exact h1), if_neg h1]
theorem p_stage1 {t : Nat → Int32} {T : Nat → Nat} {n i : Nat} (ht : RR t T n) (hn : n ≤ 60) (hA : aT T n i < 200) (hi : i < 100) : f_X4_stageAfter t (nI n) (nI 1) (nI i) = some (nI (if ltr (aT T n i) = true then 2 else 0)) := by
  unfold f_X4_stageAfter
  simp only [fa_lit]
  rw [p_codeAt ht hn hi]
  simp only [bs]
  rw [if_pos trivial, p_isLetter hA]
  simp only [bs, bI_0]
  by_cases c : ltr (aT T n i) = false
  · rw [if_pos c, if_neg (by rw [c]; decide)]
  · rw [if_neg c, if_pos (by simpa using c)]
theorem p_stage2 {t : Nat → Int32} {T : Nat → Nat} {n i : Nat} (ht : RR t T n) (hn : n ≤ 60) (hA : aT T n (i + 1) < 200) (hb : ltr (aT T n i) = true) (hi : i + 1 < 100) : f_X4_stageAfter t (nI n) (nI 2) (nI (i + 1)) = some (nI (if oth (aT T n (i + 1)) (aT T n i) = true then 3 else 0)) := by
  unfold f_X4_stageAfter
  simp only [fa_lit]
  rw [p_codeAt ht hn hi]
  simp only [bs]
  rw [if_neg (by decide), if_pos trivial, pk_sub (by omega), Nat.add_sub_cancel, p_codeAt ht hn (by omega)]
  simp only [bs]
  rw [p_isOther hA hb]
  simp only [bs, bI_0]
  by_cases c : oth (aT T n (i + 1)) (aT T n i) = false
  · rw [if_pos c, if_neg (by rw [c]; decide)]
  · rw [if_neg c, if_pos (by simpa using c)]
theorem p_stage3 {t : Nat → Int32} {T : Nat → Nat} {n i : Nat} (ht : RR t T n) (hn : n ≤ 60) (hA : aT T n i < 200) (hi : i < 100) : f_X4_stageAfter t (nI n) (nI 3) (nI i) = some (nI (s3 (aT T n i))) := by
  unfold f_X4_stageAfter
  simp only [fa_lit]
  rw [p_codeAt ht hn hi]
  simp only [bs]
  rw [if_neg (by decide), if_neg (by decide), if_pos trivial, p_after3 hA]
  simp only [bs]
theorem p_stage4 {t : Nat → Int32} {T : Nat → Nat} {n i : Nat} (ht : RR t T n) (hn : n ≤ 60) (hA : aT T n i < 200) (hi : i < 100) : f_X4_stageAfter t (nI n) (nI 4) (nI i) = some (nI (s4 (aT T n i))) := by
  unfold f_X4_stageAfter s4
  simp only [fa_lit]
  rw [p_codeAt ht hn hi]
  simp only [bs]
  rw [if_neg (by decide), if_neg (by decide), if_neg (by decide), if_pos trivial, p_isDigit hA, p_after6 hA]
  simp only [bs, bI_0]
  by_cases c : dgt (aT T n i) = false
  · rw [if_pos c, if_neg (by rw [c]; decide)]
  · rw [if_neg c, if_pos (by simpa using c)]
theorem p_stage5 {t : Nat → Int32} {T : Nat → Nat} {n i : Nat} (ht : RR t T n) (hn : n ≤ 60) (hA : aT T n i < 200) (hi : i < 100) : f_X4_stageAfter t (nI n) (nI 5) (nI i) = some (nI (s5 (aT T n i))) := by
  unfold f_X4_stageAfter s5
  simp only [fa_lit]
  rw [p_codeAt ht hn hi]
  simp only [bs]
  rw [if_neg (by decide), if_neg (by decide), if_neg (by decide), if_neg (by decide), if_pos trivial, p_after6 hA]
  simp only [bs]
  by_cases c : aT T n i = 48
  · rw [if_pos (by rw [c]), if_pos c]
  · rw [if_neg (by rw [eq_nI (by omega) (by omega)]; exact c), if_neg c]
theorem p_stage6 {t : Nat → Int32} {T : Nat → Nat} {n i : Nat} (ht : RR t T n) (hn : n ≤ 60) (hA : aT T n i < 200) (hi : i < 100) : f_X4_stageAfter t (nI n) (nI 6) (nI i) = some (nI (s6 (aT T n i))) := by
  unfold f_X4_stageAfter
  simp only [fa_lit]
  rw [p_codeAt ht hn hi]
  simp only [bs]
  rw [if_neg (by decide), if_neg (by decide), if_neg (by decide), if_neg (by decide), if_neg (by decide), if_pos trivial, p_after6 hA]
  simp only [bs]
/-- one step of the look for the first error -/
theorem fw_step {t : Nat → Int32} {n i s s' G : Nat} (hi : i < n) (hn : n ≤ 60) (h : f_X4_stageAfter t (nI n) (nI s) (nI i) = some (nI s')) (hs : s' < 10) :
    f_X4_firstWrong_b4 t (nI n) (G + 1) (nI s) (nI i) = if s' = 0 then some (nI i) else f_X4_firstWrong_b4 t (nI n) G (nI s') (nI (i + 1)) := by
  simp only [f_X4_firstWrong_b4, fa_lit, nme]
  rw [if_neg (nle_nI (by omega) (by omega) hi), h]
  simp only [bs]
  rw [nI_step]
  by_cases c : s' = 0
  · rw [if_pos (by rw [c]), if_pos c]
  · rw [if_neg (by rw [eq_nI (by omega) (by omega)]; exact c), if_neg c]
theorem fw_end {t : Nat → Int32} {n G : Nat} (hn : n ≤ 60) (s : Int32) : f_X4_firstWrong_b4 t (nI n) (G + 1) s (nI n) = some (nI n) := by
  simp only [f_X4_firstWrong_b4, fa_lit, nme]
  rw [if_pos ((le_nI (by omega) (by omega)).mpr (Nat.le_refl _))]
