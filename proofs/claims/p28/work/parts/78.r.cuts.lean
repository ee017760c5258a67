/-! ===== cuts: the reference ===== -/
theorem r_inner {x : Nat} (hx : x < 16) : f_X7_isInner (nI x) = some (bI (decide (4 ≤ x ∧ x < 12))) := r_isInner (by omega)
theorem sd_0 {x p : Nat} (h : p < 4) : sd x p = true := by
  unfold sd
  rw [decide_eq_true h]
  rfl
theorem sd_1 {x p : Nat} (h : 12 ≤ p) : sd x p = false := by
  unfold sd
  rw [decide_eq_false (by omega), decide_eq_false (by omega)]
  rfl
theorem sd_2 {x p : Nat} (h : 4 ≤ p) (h2 : p < 12) : sd x p = decide (x / 2 ^ (p - 4) % 2 = 1) := by
  unfold sd
  rw [decide_eq_false (by omega), decide_eq_true h2, Bool.false_or, Bool.true_and]
theorem r_cut98 {z : Nat → Int32} {D : DR} (hz : DZ z D) (hw : WF D) {x1 x2 : Int32} {wo : Nat} (ho : ∀ r, r < dN D → (nI r = x2 ↔ r = wo)) (K : Int32 → Int32 → Option Int32) {i s : Nat} (hi : i < dN D) (a b : Bool) :
    f_X7_cut_b98 z x1 x2 K (bI b) (nI s) (nI i) (bI a) = K (nI (s + if i ≠ wo ∧ (on D i && (a && b)) = true then dW D i else 0)) (nI (i + 1)) := by
  unfold f_X7_cut_b98 f_X7_cut_b136 f_X7_cut_b137
  simp only [fa_lit, nme, ho i hi]
  rw [r_goesOn hz hw hi, r_of2 hz hw hi]
  simp only [bs, bI_0, nI_step]
  by_cases c : i = wo
  · rw [if_pos c, if_neg (fun z => z.1 c)]
  rw [if_neg c]
  cases on D i with
  | false => rw [if_pos rfl, if_neg (fun z => by cases z.2)]
  | true =>
    rw [if_neg (by decide)]
    cases a with
    | false => rw [if_pos rfl, if_neg (fun z => by cases z.2)]
    | true =>
      rw [if_neg (by decide)]
      cases b with
      | false => rw [if_pos rfl, if_neg (fun z => by cases z.2)]
      | true => rw [if_neg (by decide), if_pos ⟨c, rfl⟩]
theorem r_cut65 {z : Nat → Int32} {D : DR} (hz : DZ z D) (hw : WF D) {x2 : Int32} {wo x : Nat} (hx : x < 256) (ho : ∀ r, r < dN D → (nI r = x2 ↔ r = wo)) (K : Int32 → Int32 → Option Int32) {i s : Nat} (hi : i < dN D) (a : Bool) :
    f_X7_cut_b65 z (nI x) x2 K (bI a) (nI s) (nI i) (nI (dG D i)) = K (nI (s + if i ≠ wo ∧ (on D i && (a && !sd x (dG D i))) = true then dW D i else 0)) (nI (i + 1)) := by
  have t2 := (hw.2.2.2 i hi).2.1
  have hT := r_cut98 (x1 := nI x) hz hw ho K (s := s) hi a true
  have hF := r_cut98 (x1 := nI x) hz hw ho K (s := s) hi a false
  unfold f_X7_cut_b65 f_X7_cut_b93 f_X7_cut_b97
  simp only [fa_lit]
  generalize dG D i = p at t2 ⊢
  by_cases c : 12 ≤ p
  · rw [if_pos ((le_nI (by omega) (by omega)).mpr c), sd_1 c]
    exact hT
  rw [if_neg (nle_nI (by omega) (by omega) (by omega)), r_inner t2]
  simp only [bs, bI_0]
  by_cases d : 4 ≤ p
  · rw [if_neg (by rw [decide_eq_true (show 4 ≤ p ∧ p < 12 by omega)]; decide), pk_sub d, bit_r x hx _ (by omega), sd_2 d (by omega)]
    have hm : x / 2 ^ (p - 4) % 2 < 2 := Nat.mod_lt _ (by omega)
    by_cases e : x / 2 ^ (p - 4) % 2 = 0
    · rw [if_pos (by rw [e]), decide_eq_false (by omega)]
      exact hT
    · rw [if_neg (by rw [eq_nI (by omega) (by omega)]; exact e), decide_eq_true (by omega)]
      exact hF
  · rw [if_pos (decide_eq_false (by omega)), sd_0 (by omega)]
    exact hF
theorem r_cut {z : Nat → Int32} {D : DR} (hz : DZ z D) (hw : WF D) {x2 : Int32} {wo x : Nat} (hx : x < 256) (ho : ∀ r, r < dN D → (nI r = x2 ↔ r = wo)) : f_X7_cut z (nI x) x2 = some (nI (cuT D x wo)) := by
  have hn := hw.1
  unfold f_X7_cut cuT
  simp only [fa_lit]
  refine loopS (fun F s i => f_X7_cut_b5 z (nI x) x2 F s i) _ (dN D) (fun s => some (nI s)) ?_ ?_ (FU_big (by omega))
  · intro F i s hi
    have t1 := (hw.2.2.2 i hi).1
    have hT := r_cut65 hz hw hx ho (f_X7_cut_b5 z (nI x) x2 F) (s := s) hi true
    have hF := r_cut65 hz hw hx ho (f_X7_cut_b5 z (nI x) x2 F) (s := s) hi false
    simp only [f_X7_cut_b5, f_X7_cut_b60, f_X7_cut_b64, fa_lit]
    rw [z0, hz.1, if_neg (nle_nI (by omega) (by omega) hi), r_of0 hz hw hi, r_of1 hz hw hi]
    simp only [bs]
    unfold cuR
    by_cases c : dF D i < 4
    · rw [if_pos ((lt_nI (by omega) (by omega)).mpr c), sd_0 c]
      exact hT
    rw [if_neg (nlt_nI (by omega) (by omega) (by omega)), r_inner t1]
    simp only [bs, bI_0]
    by_cases d : dF D i < 12
    · rw [if_neg (by rw [decide_eq_true (show 4 ≤ dF D i ∧ dF D i < 12 by omega)]; decide), pk_sub (by omega), bit_r x hx _ (by omega), sd_2 (by omega) d]
      have hm : x / 2 ^ (dF D i - 4) % 2 < 2 := Nat.mod_lt _ (by omega)
      by_cases e : x / 2 ^ (dF D i - 4) % 2 = 1
      · rw [if_pos (by rw [e]), decide_eq_true e]
        exact hT
      · rw [if_neg (by rw [eq_nI (by omega) (by omega)]; exact e), decide_eq_false e]
        exact hF
    · rw [if_pos (decide_eq_false (by omega)), sd_1 (by omega)]
      exact hF
  · intro F s
    simp only [f_X7_cut_b5, fa_lit]
    rw [z0, hz.1, if_pos ((le_nI (by omega) (by omega)).mpr (Nat.le_refl _))]
theorem r_through {z : Nat → Int32} {D : DR} (hz : DZ z D) (hw : WF D) {x2 : Int32} {wo : Nat} (ho : ∀ r, r < dN D → (nI r = x2 ↔ r = wo)) : f_X7_through z x2 = some (nI (thr D wo)) := by
  unfold f_X7_through
  simp only [fa_lit]
  rw [r_cut hz hw (by omega) ho]
  simp only [bs]
  have h := loopI (fun F i (s : Int32) => f_X7_through_b9 z x2 F s i) some (fun i s => ∃ k, i = k + 1 ∧ s = nI (lmN (fun x => cuT D x wo) k)) 256 ?_ ?_ 255 1 FU (nI (cuT D 0 wo)) (by omega) (FU_big (by omega)) ⟨0, rfl, rfl⟩
  · obtain ⟨s, h1, k, h2, h3⟩ := h
    have e : k = 255 := by omega
    subst e
    unfold thr
    exact h1.trans (congrArg some h3)
  · intro F i s hi ⟨k, hk, hs⟩
    subst hk
    have h1 := lmN_le (fun x => cuT D x wo) 1000 (fun x => cuT_le hw x wo) k
    have h2 := cuT_le hw (k + 1) wo
    refine ⟨nI (lmN (fun x => cuT D x wo) (k + 1)), ?_, k + 1, rfl, rfl⟩
    simp only [f_X7_through_b9, f_X7_through_b36, fa_lit, nme]
    rw [if_neg (nle_nI (by omega) (by omega) hi), r_cut hz hw hi ho]
    simp only [bs]
    rw [hs, nI_step]
    by_cases c : cuT D (k + 1) wo < lmN (fun x => cuT D x wo) k
    · rw [if_neg (nle_nI (by omega) (by omega) c)]
      unfold lmN
      rw [if_pos c]
    · rw [if_pos ((le_nI (by omega) (by omega)).mpr (by omega))]
      show _ = f_X7_through_b9 z x2 F (nI (if cuT D (k + 1) wo < lmN (fun x => cuT D x wo) k then _ else _)) _
      rw [if_neg c]
  · intro F s _
    simp only [f_X7_through_b9, fa_lit]
    rw [if_pos ((le_nI (by omega) (by omega)).mpr (Nat.le_refl _))]
theorem no_rib {D : DR} (hw : WF D) : ∀ r, r < dN D → (nI r = -nI 1 ↔ r = 100) := by
  intro r hr
  have hn := hw.1
  exact ⟨fun h => absurd h (fun z => (m1_ne (by omega)).mp z), fun h => by omega⟩
theorem r_findMain {z : Nat → Int32} {D : DR} (hz : DZ z D) (hw : WF D) : f_X7_findMain z = some (oI (mnO D)) := by
  have hn := hw.1
  unfold f_X7_findMain
  simp only [fa_lit]
  have h := loopI (fun F i (s : Option Nat) => f_X7_findMain_b6 z F (oI s) (match s with | none => nI 0 | some j => nI (thr D j)) i) (fun s => some (oI s)) (fun i s => s = itr (mnS D) none i ∧ ∀ j, s = some j → j < i) (dN D) ?_ ?_ (dN D) 0 FU none (by omega) (FU_big (by omega)) ⟨rfl, fun j h => by cases h⟩
  · obtain ⟨s, h1, h2, -⟩ := h
    rw [h2] at h1
    exact h1
  · intro F i s hi ⟨hs, hj⟩
    have hb := thr_le hw i
    refine ⟨mnS D i s, ?_, by rw [hs]; rfl, ?_⟩
    · simp only [f_X7_findMain_b6, f_X7_findMain_b46, f_X7_findMain_b41, fa_lit, nme]
      rw [z0, hz.1, if_neg (nle_nI (by omega) (by omega) hi), r_goesOn hz hw hi, r_through hz hw (fun r hr => eq_nI (by omega) (by omega)), nI_step]
      simp only [bs, bI_0]
      unfold mnS
      by_cases c : on D i = false
      · rw [if_pos c, if_neg (show ¬ on D i = true by rw [c]; decide)]
      · rw [if_neg c, if_pos (show on D i = true by simpa using c)]
        match s, hj with
        | none, _ =>
          rw [if_pos (show oI none < nI 0 by decide)]
          rfl
        | some j, hj =>
          have hji := hj j rfl
          have ht := thr_le hw j
          rw [if_neg (show ¬ oI (some j) < nI 0 from nlt_nI (by omega) (by omega) (by omega))]
          dsimp only
          by_cases d : thr D i < thr D j
          · rw [if_neg (nle_nI (by omega) (by omega) d), if_pos d]
            rfl
          · rw [if_pos ((le_nI (by omega) (by omega)).mpr (by omega)), if_neg d]
    · intro j h
      unfold mnS at h
      by_cases c : on D i = true
      · rw [if_pos c] at h
        clear hs hb
        cases s with
        | none =>
          have e : i = j := Option.some.inj h
          omega
        | some k =>
          have hk := hj k rfl
          dsimp only at h
          by_cases d : thr D i < thr D k
          · rw [if_pos d] at h
            clear d
            have e : i = j := Option.some.inj h
            omega
          · rw [if_neg d] at h
            clear d
            have e : k = j := Option.some.inj h
            omega
      · rw [if_neg c] at h
        have := hj j h
        omega
  · intro F s _
    simp only [f_X7_findMain_b6, fa_lit]
    rw [z0, hz.1, if_pos ((le_nI (by omega) (by omega)).mpr (Nat.le_refl _))]
