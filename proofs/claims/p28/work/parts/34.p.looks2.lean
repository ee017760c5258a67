/-! ===== the reference: looks ===== -/
theorem r_ribbonsAt1 {z : Nat → Int32} {D : DR} (hz : DZ z D) (hw : WF D) {p : Nat} (hp : p < 16) (b : Bool) : f_X7_ribbonsAt z (nI p) (nI 1) (bI b) = some (nI (sN (fun r => if dG D r = p ∧ on D r = b then 1 else 0) (dN D))) := by
  have hn := hw.1
  unfold f_X7_ribbonsAt
  simp only [fa_lit]
  refine loopS (fun F s i => f_X7_ribbonsAt_b6 z (nI p) (nI 1) (bI b) F s i) _ (dN D) (fun s => some (nI s)) ?_ ?_ (FU_big (by omega))
  · intro F i s hi
    obtain ⟨h1, h2, -, -⟩ := hw.2.2.2 i hi
    simp only [f_X7_ribbonsAt_b6, f_X7_ribbonsAt_b44, f_X7_ribbonsAt_b45, nme, fa_lit]
    rw [z0, hz.1, if_neg (nle_nI (by omega) (by omega) hi), r_goesOn hz hw hi, r_of1 hz hw hi]
    simp only [bs]
    have eb : (bI (on D i) = bI b) ↔ on D i = b := by cases on D i <;> cases b <;> decide
    by_cases o : on D i = b
    · rw [if_pos (eb.mpr o)]
      by_cases c : dG D i = p
      · rw [if_pos (by rw [c]), if_pos ⟨c, o⟩, nI_step, nI_step]
      · rw [if_neg (by rw [eq_nI (by omega) (by omega)]; exact c), if_neg (fun z => c z.1), nI_step, nI_step]
    · rw [if_neg (fun z => o (eb.mp z)), if_neg (fun z => o z.2), nI_step, nI_step]
  · intro F s
    simp only [f_X7_ribbonsAt_b6, fa_lit]
    rw [z0, hz.1, if_pos ((le_nI (by omega) (by omega)).mpr (Nat.le_refl _))]
theorem r_ribbonsAt0 {z : Nat → Int32} {D : DR} (hz : DZ z D) (hw : WF D) {p : Nat} (hp : p < 16) (b : Bool) : f_X7_ribbonsAt z (nI p) (nI 0) (bI b) = some (nI (sN (fun r => if dF D r = p ∧ on D r = b then 1 else 0) (dN D))) := by
  have hn := hw.1
  unfold f_X7_ribbonsAt
  simp only [fa_lit]
  refine loopS (fun F s i => f_X7_ribbonsAt_b6 z (nI p) (nI 0) (bI b) F s i) _ (dN D) (fun s => some (nI s)) ?_ ?_ (FU_big (by omega))
  · intro F i s hi
    obtain ⟨h1, h2, -, -⟩ := hw.2.2.2 i hi
    simp only [f_X7_ribbonsAt_b6, f_X7_ribbonsAt_b44, f_X7_ribbonsAt_b45, nme, fa_lit]
    rw [z0, hz.1, if_neg (nle_nI (by omega) (by omega) hi), r_goesOn hz hw hi, r_of0 hz hw hi]
    simp only [bs]
    have eb : (bI (on D i) = bI b) ↔ on D i = b := by cases on D i <;> cases b <;> decide
    by_cases o : on D i = b
    · rw [if_pos (eb.mpr o)]
      by_cases c : dF D i = p
      · rw [if_pos (by rw [c]), if_pos ⟨c, o⟩, nI_step, nI_step]
      · rw [if_neg (by rw [eq_nI (by omega) (by omega)]; exact c), if_neg (fun z => c z.1), nI_step, nI_step]
    · rw [if_neg (fun z => o (eb.mp z)), if_neg (fun z => o z.2), nI_step, nI_step]
  · intro F s
    simp only [f_X7_ribbonsAt_b6, fa_lit]
    rw [z0, hz.1, if_pos ((le_nI (by omega) (by omega)).mpr (Nat.le_refl _))]
theorem sN_add (f g : Nat → Nat) : ∀ n, sN (fun k => f k + g k) n = sN f n + sN g n
  | 0 => rfl
  | n + 1 => by
    show sN (fun k => f k + g k) n + (f n + g n) = sN f n + f n + (sN g n + g n)
    rw [sN_add f g n]; omega
theorem rBack_two {D : DR} (hw : WF D) (p : Nat) : sN (fun r => if dG D r = p ∧ on D r = false then 1 else 0) (dN D) + sN (fun r => if dF D r = p ∧ on D r = false then 1 else 0) (dN D) = rBack D p := by
  rw [← sN_add]
  refine sN_cong (fun r hr => ?_)
  have h := (hw.2.2.2 r hr).2.2.1
  by_cases o : on D r = false
  · by_cases c1 : dG D r = p
    · have c2 : ¬ dF D r = p := fun e => h (by rw [e, c1])
      simp [o, c1, c2]
    · by_cases c2 : dF D r = p
      · simp [o, c1, c2]
      · simp [o, c1, c2]
  · simp [o]
theorem r_isEven {z : Nat → Int32} {D : DR} (hz : DZ z D) (hw : WF D) {p : Nat} (hp : p < 16) : f_X7_isEven z (nI p) = some (bI (!uEv D p)) := by
  have c1 := comes_le hw p
  have c2 := leav_le hw p
  unfold f_X7_isEven f_X7_isEven_b20 uEv
  rw [r_isInner (by omega), r_comesIn hz hw hp, r_leaves hz hw hp]
  simp only [bs, fa_lit, bI_0, eq_nI (a := comes D p) (b := leav D p) (by omega) (by omega)]
  by_cases i : 4 ≤ p ∧ p < 12
  · rw [if_neg (by rw [decide_eq_true i]; decide), decide_eq_true i]
    by_cases c : comes D p = leav D p
    · rw [if_pos c, decide_eq_false (by simp [c])]; rfl
    · rw [if_neg c, decide_eq_true c]; rfl
  · rw [if_pos (decide_eq_false i), decide_eq_false i]; rfl
theorem r_greater {z : Nat → Int32} {D : DR} (hz : DZ z D) (hw : WF D) {p : Nat} (hp : p < 16) : f_X7_greater z (nI p) = some (nI (imax (comes D p) (leav D p))) := by
  have c1 := comes_le hw p
  have c2 := leav_le hw p
  unfold f_X7_greater imax
  rw [r_comesIn hz hw hp, r_leaves hz hw hp]
  simp only [bs]
  by_cases c : comes D p < leav D p
  · rw [if_pos ((le_nI (by omega) (by omega)).mpr (by omega)), if_pos c]
  · rw [if_neg c]
    by_cases e : comes D p = leav D p
    · rw [e, ite_self]
    · rw [if_neg (nle_nI (by omega) (by omega) (by omega))]
theorem r_postNow {z : Nat → Int32} {D : DR} (hz : DZ z D) (hw : WF D) {p k : Nat} (hp : p < 16) (hk : k < 8) : f_X7_postNow z (nI p) (nI k) = some (nI (pV D p k)) := by
  unfold f_X7_postNow pV
  simp only [fa_lit]
  have ek : ∀ j, j < 8 → ((nI k = nI j) ↔ k = j) := fun j hj => eq_nI (by omega) (by omega)
  simp only [ek 0 (by omega), ek 1 (by omega), ek 2 (by omega), ek 3 (by omega), ek 4 (by omega), ek 5 (by omega), ek 6 (by omega)]
  have a1 := r_ribbonsAt1 hz hw hp true
  have a2 := r_ribbonsAt1 hz hw hp false
  have a3 := r_ribbonsAt0 hz hw hp true
  have a4 := r_ribbonsAt0 hz hw hp false
  rw [bI_t] at a1 a3
  rw [bI_f] at a2 a4
  by_cases h0 : k = 0
  · rw [if_pos h0, if_pos h0, r_place hz hp]; simp only [bs]
  rw [if_neg h0, if_neg h0]
  by_cases h1 : k = 1
  · rw [if_pos h1, if_pos h1, r_comesIn hz hw hp]; simp only [bs]
  rw [if_neg h1, if_neg h1]
  by_cases h2 : k = 2
  · rw [if_pos h2, if_pos h2, r_leaves hz hw hp]; simp only [bs]
  rw [if_neg h2, if_neg h2]
  by_cases h3 : k = 3
  · rw [if_pos h3, if_pos h3, a1]; simp only [bs]; rfl
  rw [if_neg h3, if_neg h3]
  by_cases h4 : k = 4
  · rw [if_pos h4, if_pos h4, a3]; simp only [bs]; rfl
  rw [if_neg h4, if_neg h4]
  by_cases h5 : k = 5
  · rw [if_pos h5, if_pos h5, a2, a4]; simp only [bs]; rw [nI_step, rBack_two hw]
  rw [if_neg h5, if_neg h5]
  by_cases h6 : k = 6
  · rw [if_pos h6, if_pos h6, r_isEven hz hw hp]
    simp only [bs, bI_0]
    by_cases c : uEv D p = true
    · rw [if_pos (by rw [c]; rfl), if_pos c]
    · rw [if_neg (by simpa using c), if_neg c]
  rw [if_neg h6, if_neg h6, r_greater hz hw hp]
  simp only [bs]
theorem r_ribbonNow {z : Nat → Int32} {D : DR} (hz : DZ z D) (hw : WF D) {r k : Nat} (hr : r < dN D) (hk : k < 5) : f_X7_ribbonNow z (nI r) (nI k) = some (nI (rV D r k)) := by
  unfold f_X7_ribbonNow rV
  simp only [fa_lit]
  have ek : ∀ j, j < 5 → ((nI k = nI j) ↔ k = j) := fun j hj => eq_nI (by omega) (by omega)
  by_cases h : 3 ≤ k
  · rw [if_pos ((le_nI (by omega) (by omega)).mpr h), if_neg (show ¬ k = 0 by omega), if_neg (show ¬ k = 1 by omega), if_neg (show ¬ k = 2 by omega)]
    by_cases h3 : k = 3
    · rw [if_pos ((ek 3 (by omega)).mpr h3), if_pos h3, r_goesOn hz hw hr]
      simp only [bs, bI_0]
      by_cases o : on D r = false
      · rw [if_pos o, if_neg (by rw [o]; decide)]
      · rw [if_neg o, if_pos (by simpa using o)]
    · rw [if_neg (fun e => h3 ((ek 3 (by omega)).mp e)), if_neg h3, r_crossedBy hz hw hr]
      simp only [bs]
  · rw [if_neg (nle_nI (by omega) (by omega) (by omega))]
    have e3 : k = 0 ∨ k = 1 ∨ k = 2 := by omega
    rcases e3 with rfl | rfl | rfl
    · rw [r_of0 hz hw hr]; simp only [bs]; rfl
    · rw [r_of1 hz hw hr]; simp only [bs]; rfl
    · rw [r_of2 hz hw hr]; simp only [bs]; rfl
/-- how high a column is -/
def hgt (D : DR) (c : Nat) : Nat := sN (fun k => imax (comes D (4 * c + k)) (leav D (4 * c + k))) 4
theorem sN_shift (f : Nat → Nat) (a : Nat) : ∀ n, sN f (a + n) = sN f a + sN (fun k => f (a + k)) n
  | 0 => rfl
  | n + 1 => by
    show sN f (a + n) + f (a + n) = sN f a + (sN (fun k => f (a + k)) n + f (a + n))
    rw [sN_shift f a n]; omega
theorem r_heightOf {z : Nat → Int32} {D : DR} (hz : DZ z D) (hw : WF D) {c : Nat} (hc : c < 4) : f_X7_heightOf z (nI c) = some (nI (hgt D c)) := by
  unfold f_X7_heightOf hgt
  simp only [fa_lit, nme]
  rw [pk_mul]
  have h := loopS2 (fun F s i => f_X7_heightOf_b6 z (nI c) F s i) (fun p => if 4 * c ≤ p then imax (comes D p) (leav D p) else 0) (4 * c) (4 * c + 4) 0 (by omega) (fun s => some (nI s)) ?_ ?_ ?_ (FU_big (n := 4 * c + 4) (by omega))
  · rw [h, Nat.zero_add, sN_shift, sN_z (a := 0) (b := 4 * c) (by omega) (fun k _ hk => if_neg (by omega))]
    rw [show sN (fun p => if 4 * c ≤ p then imax (comes D p) (leav D p) else 0) 0 = 0 from rfl, Nat.zero_add]
    exact congrArg (fun w => some (nI w)) (sN_cong (fun k _ => if_pos (by omega)))
  · intro F i s h1 h2
    simp only [f_X7_heightOf_b6, nme, fa_lit]
    rw [pk_mul, nI_step, if_neg (nle_nI (by omega) (by omega) h2), r_greater hz hw (by omega)]
    simp only [bs]
    rw [if_pos h1, nI_step, nI_step]
  · intro F s
    simp only [f_X7_heightOf_b6, fa_lit]
    rw [pk_mul, nI_step, if_pos ((le_nI (by omega) (by omega)).mpr (Nat.le_refl _))]
  · intro k hk
    rw [if_neg (by omega)]
theorem p_checkColumn {c : Nat} (h : c < 4) : f_X6_checkColumn (nI c) = some (.inr ()) := by
  unfold f_X6_checkColumn
  simp only [fa_lit]
  rw [if_neg (nlt_nI (by omega) (by omega) (by omega)), if_pos ((lt_nI (by omega) (by omega)).mpr h)]
theorem p_height {pl fr to wd : Nat → Int32} {D : DR} (hpl : RR pl (dP D) 16) (hf : RR fr (dF D) (dN D)) (hg : RR to (dG D) (dN D)) (hd : RR wd (dW D) (dN D)) (hw : WF D) {c : Nat} (hc : c < 4) : f_X6_height pl fr to wd (nI (dN D)) (nI c) = some (.inr (nI (hgt D c))) := by
  unfold f_X6_height hgt
  rw [p_checkColumn hc]
  simp only [xbs, fa_lit]
  refine loopS (fun F s i => f_X6_height_b8 pl fr to wd (nI (dN D)) (nI c) F s i) _ 4 (fun s => some (.inr (nI s))) ?_ ?_ (FU_big (by omega))
  · intro F i s hi
    simp only [f_X6_height_b8, nme, fa_lit]
    rw [if_neg (nle_nI (by omega) (by omega) hi), pk_mul, nI_step, Nat.mul_comm c 4, p_postOf hpl hf hg hd hw (by omega) (by omega)]
    simp only [xbs]
    rw [nI_step, nI_step]
    rfl
  · intro F s
    simp only [f_X6_height_b8, fa_lit]
    rw [if_pos ((le_nI (by omega) (by omega)).mpr (Nat.le_refl _))]
