/-! ===== the means of a column: the reference ===== -/
theorem md4 {a : Nat} (h : a < 1000) : nI a - nI a / nI 4 * nI 4 = nI (a % 4) := by
  rw [div_nI (by omega) (by omega) (by omega), pk_mul, pk_sub (by omega)]
  exact congrArg nI (by omega)
theorem r_means0 (c : Int32) (z s m : Nat → Int32) : ∃ s' m', f_X7_sweepColumn c z s m = f_X7_sweepColumn_b29 c FU (nI 0) z s' m' ∧ ∀ k, k < 4 → s' k = nI 0 ∧ m' k = nI 0 := by
  have h := loopI (fun F i (x : (Nat → Int32) × (Nat → Int32)) => f_X7_sweepColumn_b2 c F i z x.1 x.2) (fun x => f_X7_sweepColumn_b29 c FU (nI 0) z x.1 x.2)
    (fun i x => ∀ k, k < i → x.1 k = nI 0 ∧ x.2 k = nI 0) 4 (fun F i x hi hI => ?_) (fun F x hI => ?_) 4 0 FU (s, m) (by omega) (FU_big (by omega)) (fun k hk => by omega)
  · obtain ⟨⟨s', m'⟩, e, h1⟩ := h
    refine ⟨s', m', ?_, h1⟩
    unfold f_X7_sweepColumn
    simp only [fa_lit]
    exact e
  · obtain ⟨s, m⟩ := x
    refine ⟨(upd s i (nI 0), upd m i (nI 0)), ?_, fun k hk => ?_⟩
    · show f_X7_sweepColumn_b2 c (F + 1) (nI i) z s m = _
      simp only [f_X7_sweepColumn_b2, fa_lit, nme]
      rw [if_neg (nle_nI (by omega) (by omega) hi)]
      simp only [if_pos (gd_nI hi (show i < 2147483648 by omega))]
      rw [cl_nI (by omega), nI_step]
    · show upd s i (nI 0) k = _ ∧ upd m i (nI 0) k = _
      by_cases q : k = i
      · rw [q, upd_q, upd_q]; exact ⟨rfl, rfl⟩
      · rw [upd_w q, upd_w q]; exact hI k (by omega)
  · obtain ⟨s, m⟩ := x
    show f_X7_sweepColumn_b2 c (F + 1) (nI 4) z s m = _
    simp only [f_X7_sweepColumn_b2, fa_lit, nme]
    rw [if_pos ((le_nI (by omega) (by omega)).mpr (Nat.le_refl _))]
theorem r_means1 {z : Nat → Int32} {D : DR} (hz : DZ z D) (hw : WF D) {c : Nat} (hc : c < 4) (s m : Nat → Int32) (h0 : ∀ k, k < 4 → s k = nI 0 ∧ m k = nI 0) :
    ∃ s' m', f_X7_sweepColumn_b29 (nI c) FU (nI 0) z s m = f_X7_sweepColumn_b110 (nI c) FU (nI 0) z s' m' ∧ ∀ k, k < 4 → s' k = nI (mS D c k (dN D)) ∧ m' k = nI (mN D c k (dN D)) := by
  have hn := hw.1
  have h := loopI (fun F i (x : (Nat → Int32) × (Nat → Int32)) => f_X7_sweepColumn_b29 (nI c) F i z x.1 x.2) (fun x => f_X7_sweepColumn_b110 (nI c) FU (nI 0) z x.1 x.2)
    (fun i x => ∀ k, k < 4 → x.1 k = nI (mS D c k i) ∧ x.2 k = nI (mN D c k i)) (dN D)
    (fun F i x hi hI => ?_) (fun F x hI => ?_) (dN D) 0 FU (s, m) (by omega) (FU_big (by omega)) h0
  · obtain ⟨⟨s1, m1⟩, e, h1⟩ := h
    exact ⟨s1, m1, e, h1⟩
  · obtain ⟨s, m⟩ := x
    obtain ⟨w1, w2, -, -⟩ := hw.2.2.2 i hi
    have hI : ∀ k, k < 4 → s k = nI (mS D c k i) ∧ m k = nI (mN D c k i) := hI
    suffices h : ∃ s' m', f_X7_sweepColumn_b29 (nI c) (F + 1) (nI i) z s m = f_X7_sweepColumn_b29 (nI c) F (nI (i + 1)) z s' m' ∧ ∀ k, k < 4 → s' k = nI (mS D c k (i + 1)) ∧ m' k = nI (mN D c k (i + 1)) by
      obtain ⟨s', m', e, h⟩ := h
      exact ⟨(s', m'), e, h⟩
    simp only [f_X7_sweepColumn_b29, f_X7_sweepColumn_b102, fa_lit, nme]
    rw [z0, hz.1, if_neg (nle_nI (by omega) (by omega) hi), r_goesOn hz hw hi]
    simp only [bs, bI_0]
    by_cases o : on D i = true
    · rw [if_neg (by rw [o]; decide), r_of1 hz hw hi]
      simp only [bs]
      rw [div_nI (by omega) (by omega) (by omega)]
      have e0 := eq_nI (a := dG D i / 4) (b := c) (by omega) (by omega)
      simp only [e0]
      by_cases q : dG D i / 4 = c
      · rw [if_pos q]
        rw [← div_nI (a := dG D i) (d := 4) (by omega) (by omega) (by omega), md4 (by omega)]
        simp only [if_pos (gd_nI (show dG D i % 4 < 4 by omega) (show dG D i % 4 < 2147483648 by omega))]
        rw [r_of0 hz hw hi]
        simp only [bs]
        rw [r_place hz w1]
        simp only [bs]
        have u := hI (dG D i % 4) (by omega)
        rw [cl_nI (by omega), u.1, u.2, nI_step, nI_step, nI_step]
        refine ⟨_, _, rfl, fun k hk => ?_⟩
        by_cases e : k = dG D i % 4
        · have e' : dG D i = c * 4 + k ∧ on D i = true := ⟨by omega, o⟩
          rw [mS_s, mN_s, if_pos e', if_pos e', ← e, upd_q, upd_q]
          exact ⟨rfl, rfl⟩
        · have e' : ¬ (dG D i = c * 4 + k ∧ on D i = true) := fun h => e (by omega)
          rw [mS_s, mN_s, if_neg e', if_neg e', upd_w e, upd_w e]
          exact hI k hk
      · rw [if_neg q, nI_step]
        refine ⟨_, _, rfl, fun k hk => ?_⟩
        have e' : ¬ (dG D i = c * 4 + k ∧ on D i = true) := fun h => q (by omega)
        rw [mS_s, mN_s, if_neg e', if_neg e']
        exact hI k hk
    · have o' : on D i = false := by simpa using o
      rw [if_pos o', nI_step]
      refine ⟨_, _, rfl, fun k hk => ?_⟩
      have e' : ¬ (dG D i = c * 4 + k ∧ on D i = true) := fun h => o h.2
      rw [mS_s, mN_s, if_neg e', if_neg e']
      exact hI k hk
  · obtain ⟨s, m⟩ := x
    show f_X7_sweepColumn_b29 (nI c) (F + 1) (nI (dN D)) z s m = _
    simp only [f_X7_sweepColumn_b29, fa_lit, nme]
    rw [z0, hz.1, if_pos ((le_nI (by omega) (by omega)).mpr (Nat.le_refl _))]
theorem r_means2 {z : Nat → Int32} {D : DR} (hz : DZ z D) (hw : WF D) {c : Nat} (hc : c < 4) (s m : Nat → Int32) (h0 : ∀ k, k < 4 → s k = nI (mS D c k (dN D)) ∧ m k = nI (mN D c k (dN D))) :
    ∃ s' m', f_X7_sweepColumn_b110 (nI c) FU (nI 0) z s m = f_X7_sweepColumn_b183 (nI c) FU (nI 0) (nI 3) z s' m' ∧ ∀ k, k < 4 → s' k = nI (mU D c k) ∧ m' k = nI (mV D c k) := by
  have h := loopI (fun F i (x : (Nat → Int32) × (Nat → Int32)) => f_X7_sweepColumn_b110 (nI c) F i z x.1 x.2) (fun x => f_X7_sweepColumn_b183 (nI c) FU (nI 0) (nI 3) z x.1 x.2)
    (fun i x => (∀ k, k < i → x.1 k = nI (mU D c k) ∧ x.2 k = nI (mV D c k)) ∧ ∀ k, k < 4 → i ≤ k → x.1 k = nI (mS D c k (dN D)) ∧ x.2 k = nI (mN D c k (dN D))) 4
    (fun F i x hi hI => ?_) (fun F x hI => ?_) 4 0 FU (s, m) (by omega) (FU_big (by omega)) ⟨fun k hk => by omega, fun k hk _ => h0 k hk⟩
  · obtain ⟨⟨s', m'⟩, e, h1, -⟩ := h
    exact ⟨s', m', e, h1⟩
  · obtain ⟨s, m⟩ := x
    obtain ⟨h1, h2⟩ := hI
    have e0 : m i = nI (mN D c i (dN D)) := (h2 i hi (Nat.le_refl _)).2
    have e1 : s i = nI (mS D c i (dN D)) := (h2 i hi (Nat.le_refl _)).1
    have b := mN_le hw c i (dN D) (Nat.le_refl _)
    refine ⟨(upd s i (nI (mU D c i)), upd m i (nI (mV D c i))), ?_, ?_, ?_⟩
    · show f_X7_sweepColumn_b110 (nI c) (F + 1) (nI i) z s m = f_X7_sweepColumn_b110 (nI c) F (nI (i + 1)) z _ _
      simp only [f_X7_sweepColumn_b110, f_X7_sweepColumn_b147, f_X7_sweepColumn_b172, fa_lit, nme]
      rw [if_neg (nle_nI (by omega) (by omega) hi)]
      simp only [if_pos (gd_nI hi (show i < 2147483648 by omega))]
      rw [cl_nI (by omega), e0, e1]
      by_cases q : mN D c i (dN D) = 0
      · rw [if_pos (by rw [q]), pk_mul, nI_step, r_place hz (by omega)]
        simp only [bs]
        rw [if_pos (by rw [q]), nI_step]
        have x1 : mU D c i = dP D (4 * c + i) := by unfold mU; rw [if_pos q, Nat.mul_comm]
        have x2 : mV D c i = 1 := by unfold mV; rw [if_pos q]
        rw [x1, x2]
      · rw [if_neg (by rw [eq_nI (by omega) (by omega)]; exact q), if_neg (by rw [eq_nI (by omega) (by omega)]; exact q), nI_step]
        have x1 : mU D c i = mS D c i (dN D) := by unfold mU; rw [if_neg q]
        have x2 : mV D c i = mN D c i (dN D) := by unfold mV; rw [if_neg q]
        rw [x1, x2]
    · intro k hk
      show upd s i _ k = _ ∧ upd m i _ k = _
      by_cases q : k = i
      · rw [q, upd_q, upd_q]; exact ⟨rfl, rfl⟩
      · rw [upd_w q, upd_w q]; exact h1 k (by omega)
    · intro k hk hk2
      show upd s i _ k = _ ∧ upd m i _ k = _
      rw [upd_w (by omega), upd_w (by omega)]; exact h2 k hk (by omega)
  · obtain ⟨s, m⟩ := x
    show f_X7_sweepColumn_b110 (nI c) (F + 1) (nI 4) z s m = _
    simp only [f_X7_sweepColumn_b110, fa_lit, nme]
    rw [if_pos ((le_nI (by omega) (by omega)).mpr (Nat.le_refl _))]
