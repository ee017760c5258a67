/-! ===== cuts: the sides, and what a side cuts ===== -/
def sd (x p : Nat) : Bool := decide (p < 4) || (decide (p < 12) && decide (x / 2 ^ (p - 4) % 2 = 1))
theorem bit_c : ∀ x, x < 256 → ∀ p, p < 16 → decide (((nI 1 <<< (nI p &&& nI 31)) &&& ((nI x <<< (nI 4 &&& nI 31)) ||| nI 15)) = nI 0) = !sd x p := by decide +kernel
theorem bit_r : ∀ x, x < 256 → ∀ k, k < 8 → (nI x >>> (nI k &&& nI 31)) &&& nI 1 = nI (x / 2 ^ k % 2) := by decide +kernel
theorem zero_and (a : Int32) : nI 0 &&& a = nI 0 := Int32.zero_and
def cuR (D : DR) (x r : Nat) : Bool := on D r && (sd x (dF D r) && !sd x (dG D r))
/-- what the side x cuts, without a ribbon -/
def cuT (D : DR) (x wo : Nat) : Nat := sN (fun r => if r ≠ wo ∧ cuR D x r = true then dW D r else 0) (dN D)
theorem cuT_le {D : DR} (hw : WF D) (x wo : Nat) : cuT D x wo ≤ 1000 := by
  have h1 := sN_le (f := fun r => if r ≠ wo ∧ cuR D x r = true then dW D r else 0) (c := 50) (n := dN D) (fun r hr => ite50 hw hr _)
  have h2 : dN D * 50 ≤ 20 * 50 := Nat.mul_le_mul_right 50 hw.1
  unfold cuT; omega
def beI (D : DR) (r : Nat) : Int32 := if on D r = true then nI 1 <<< (nI (dF D r) &&& nI 31) else nI 0
def enI (D : DR) (r : Nat) : Int32 := nI 1 <<< (nI (dG D r) &&& nI 31)
def siI (x : Nat) : Int32 := (nI x <<< (nI 4 &&& nI 31)) ||| nI 15
/-- the rows of what can be cut -/
def CU (D : DR) (n : Nat) (be en wi : Nat → Int32) : Prop := ∀ r, r < n → be r = beI D r ∧ en r = enI D r ∧ wi r = nI (dW D r)
theorem CU_s {D : DR} {i : Nat} {be en wi : Nat → Int32} (h : CU D i be en wi) : CU D (i + 1) (upd be i (beI D i)) (upd en i (enI D i)) (upd wi i (nI (dW D i))) := by
  intro r hr
  by_cases c : r = i
  · subst c
    exact ⟨upd_q _ _ _, upd_q _ _ _, upd_q _ _ _⟩
  · rw [upd_w c, upd_w c, upd_w c]
    exact h r (by omega)
theorem p_readCuttable {fr to wd : Nat → Int32} {D : DR} (hf : RR fr (dF D) (dN D)) (hg : RR to (dG D) (dN D)) (hd : RR wd (dW D) (dN D)) (hw : WF D) (be en wi : Nat → Int32) (sz : Int32) :
    ∃ be' en' wi', f_X5_readCuttable fr to wd (nI (dN D)) be en wi sz = some (be', en', wi', nI (dN D)) ∧ CU D (dN D) be' en' wi' := by
  have hn := hw.1
  unfold f_X5_readCuttable
  simp only [fa_lit]
  suffices h : ∃ s : (Nat → Int32) × (Nat → Int32) × (Nat → Int32) × Int32, f_X5_readCuttable_b7 fr to wd (nI (dN D)) FU (nI 0) be en wi (nI 0) = some s ∧ (s.2.2.2 = nI (dN D) ∧ CU D (dN D) s.1 s.2.1 s.2.2.1) by
    obtain ⟨s, h1, h2, h3⟩ := h
    exact ⟨s.1, s.2.1, s.2.2.1, h1.trans (by rw [← h2]), h3⟩
  refine loopI (fun F i (s : (Nat → Int32) × (Nat → Int32) × (Nat → Int32) × Int32) => f_X5_readCuttable_b7 fr to wd (nI (dN D)) F i s.1 s.2.1 s.2.2.1 s.2.2.2) some (fun i s => s.2.2.2 = nI i ∧ CU D i s.1 s.2.1 s.2.2.1) (dN D) ?_ ?_ (dN D) 0 FU (be, en, wi, nI 0) (by omega) (FU_big (by omega)) ⟨rfl, fun r hr => by omega⟩
  · intro F i s hi ⟨h1, h2⟩
    refine ⟨(upd s.1 i (beI D i), upd s.2.1 i (enI D i), upd s.2.2.1 i (nI (dW D i)), nI (i + 1)), ?_, rfl, CU_s h2⟩
    simp only [f_X5_readCuttable_b7, f_X5_readCuttable_b45, fa_lit, nme]
    rw [if_neg (nle_nI (by omega) (by omega) hi), if_neg (nle_nI (by omega) (by omega) (by omega)), p_goesOn hf hg hw hi, p_fromOf hf hn hi, p_toOf hg hn hi, p_widthOf hd hn hi]
    simp only [bs, bI_0]
    simp only [if_pos (gd_nI (show i < 20 by omega) (show i < 2147483648 by omega))]
    rw [cl_nI (by omega), h1, nI_step]
    by_cases c : on D i = false
    · have e : beI D i = nI 0 := if_neg (by rw [c]; decide)
      rw [if_pos c, e]
      rfl
    · have e : beI D i = nI 1 <<< (nI (dF D i) &&& nI 31) := if_pos (by simpa using c)
      rw [if_neg c, e]
      rfl
  · intro F s _
    simp only [f_X5_readCuttable_b7, fa_lit]
    rw [if_pos ((le_nI (by omega) (by omega)).mpr (Nat.le_refl _))]
theorem beI_side {D : DR} (hw : WF D) {x r : Nat} (hx : x < 256) (hr : r < dN D) : (beI D r &&& siI x = nI 0) ↔ (on D r && sd x (dF D r)) = false := by
  have t1 := (hw.2.2.2 r hr).1
  unfold beI siI
  by_cases c : on D r = true
  · rw [if_pos c, c, Bool.true_and]
    have h := bit_c x hx _ t1
    constructor
    · intro e
      rw [decide_eq_true e] at h
      simpa using h.symm
    · intro e
      rw [e] at h
      exact of_decide_eq_true h
  · rw [if_neg c, zero_and]
    have c' : on D r = false := by simpa using c
    rw [c', Bool.false_and]
    exact ⟨fun _ => rfl, fun _ => rfl⟩
theorem enI_side {D : DR} (hw : WF D) {x r : Nat} (hx : x < 256) (hr : r < dN D) : (enI D r &&& siI x = nI 0) ↔ sd x (dG D r) = false := by
  have t1 := (hw.2.2.2 r hr).2.1
  unfold enI siI
  have h := bit_c x hx _ t1
  constructor
  · intro e
    rw [decide_eq_true e] at h
    simpa using h.symm
  · intro e
    rw [e] at h
    exact of_decide_eq_true h
theorem p_cutOf {D : DR} (hw : WF D) {be en wi : Nat → Int32} (hc : CU D (dN D) be en wi) {x : Nat} (hx : x < 256) : f_X5_cutOf be en wi (nI (dN D)) (siI x) = some (nI (cuT D x 100)) := by
  have hn := hw.1
  unfold f_X5_cutOf cuT
  simp only [fa_lit]
  refine loopS (fun F s i => f_X5_cutOf_b4 be en wi (nI (dN D)) (siI x) F s i) _ (dN D) (fun s => some (nI s)) ?_ ?_ (FU_big (by omega))
  · intro F i s hi
    obtain ⟨h1, h2, h3⟩ := hc i hi
    simp only [f_X5_cutOf_b4, f_X5_cutOf_b49, fa_lit, nme]
    rw [if_neg (nle_nI (by omega) (by omega) hi), if_neg (nle_nI (by omega) (by omega) (by omega)), if_pos (gd_nI (by omega) (by omega)), if_pos (gd_nI (by omega) (by omega)), if_pos (gd_nI (by omega) (by omega)), cl_nI (by omega), h1, h2, h3, nI_step, nI_step]
    simp only [beI_side hw hx hi, enI_side hw hx hi]
    unfold cuR
    by_cases c1 : (on D i && sd x (dF D i)) = false
    · rw [if_pos c1, if_neg (fun z => by rw [← Bool.and_assoc, c1, Bool.false_and] at z; exact absurd z.2 (by decide))]
      rfl
    · have c1' : (on D i && sd x (dF D i)) = true := by simpa using c1
      rw [if_neg c1]
      by_cases c2 : sd x (dG D i) = false
      · rw [if_pos c2, if_pos ⟨by omega, by rw [← Bool.and_assoc, c1', c2]; rfl⟩]
      · have c2' : sd x (dG D i) = true := by simpa using c2
        rw [if_neg c2, if_neg (fun z => by rw [← Bool.and_assoc, c2', Bool.not_true, Bool.and_false] at z; exact absurd z.2 (by decide))]
        rfl
  · intro F s
    simp only [f_X5_cutOf_b4, fa_lit]
    rw [if_pos ((le_nI (by omega) (by omega)).mpr (Nat.le_refl _))]
theorem p_sideWith (x : Nat) : f_X5_sideWith (nI x) = some (siI x) := by
  unfold f_X5_sideWith siI
  simp only [fa_lit]
