/-! ===== the means of a column: both sides ===== -/
theorem loopI {σ ρ : Type} (L : Nat → Int32 → σ → ρ) (R : σ → ρ) (I : Nat → σ → Prop) (n : Nat)
    (hs : ∀ F i s, i < n → I i s → ∃ s', L (F + 1) (nI i) s = L F (nI (i + 1)) s' ∧ I (i + 1) s') (he : ∀ F s, I n s → L (F + 1) (nI n) s = R s) :
    ∀ (k i F : Nat) (s : σ), i + k = n → k < F → I i s → ∃ s', L F (nI i) s = R s' ∧ I n s' := by
  intro k
  induction k with
  | zero =>
    intro i F s hi hF h
    cases F with
    | zero => omega
    | succ F =>
      have e : i = n := by omega
      subst e
      exact ⟨s, he F s h, h⟩
  | succ k ih =>
    intro i F s hi hF h
    cases F with
    | zero => omega
    | succ F =>
      obtain ⟨s1, e1, h1⟩ := hs F i s (by omega) h
      obtain ⟨s2, e2, h2⟩ := ih (i + 1) F s1 (by omega) (by omega) h1
      exact ⟨s2, e1.trans e2, h2⟩
theorem p_fill (n : Nat) (v : Int32) (a : Nat → Int32) (h : n < 5000) : ∃ a', f_J7_fill_53178 n v a = some a' ∧ ∀ j, j < n → a' j = v := by
  unfold f_J7_fill_53178
  simp only [fa_lit, nme]
  rw [show Int32.ofNat n = nI n from rfl]
  refine loopI (fun F i s => f_J7_fill_53178_b5 n v F i (nI n) s) some (fun i s => ∀ j, j < i → s j = v) n (fun F i s hi hI => ⟨upd s i v, ?_, ?_⟩) (fun F s _ => ?_) n 0 FU a (by omega) (FU_big (by omega)) (fun j hj => by omega)
  · show f_J7_fill_53178_b5 n v (F + 1) (nI i) (nI n) s = _
    simp only [f_J7_fill_53178_b5, fa_lit, nme]
    rw [if_neg (nle_nI (by omega) (by omega) hi), if_pos (gd_nI hi (by omega)), cl_nI (by omega), nI_step]
  · intro j hj
    by_cases h : j = i
    · rw [h, upd_q]
    · rw [upd_w h]; exact hI j (by omega)
  · show f_J7_fill_53178_b5 n v (F + 1) (nI n) (nI n) s = _
    simp only [f_J7_fill_53178_b5, fa_lit, nme]
    rw [if_pos ((le_nI (by omega) (by omega)).mpr (Nat.le_refl _))]
def mS (D : DR) (c k n : Nat) : Nat := sN (fun r => if dG D r = c * 4 + k ∧ on D r = true then dP D (dF D r) else 0) n
def mN (D : DR) (c k n : Nat) : Nat := sN (fun r => if dG D r = c * 4 + k ∧ on D r = true then 1 else 0) n
def mU (D : DR) (c k : Nat) : Nat := if mN D c k (dN D) = 0 then dP D (c * 4 + k) else mS D c k (dN D)
def mV (D : DR) (c k : Nat) : Nat := if mN D c k (dN D) = 0 then 1 else mN D c k (dN D)
theorem mS_le {D : DR} (hw : WF D) (c k n : Nat) (h : n ≤ dN D) : mS D c k n ≤ 60 := by
  have hn := hw.1
  have := sN_le (f := fun r => if dG D r = c * 4 + k ∧ on D r = true then dP D (dF D r) else 0) (c := 3) (n := n) (fun r hr => by
    by_cases q : dG D r = c * 4 + k ∧ on D r = true
    · show (if _ then _ else _) ≤ 3
      rw [if_pos q]
      have := hw.2.1 _ (hw.2.2.2 r (by omega)).1
      omega
    · show (if _ then _ else _) ≤ 3
      rw [if_neg q]; omega)
  unfold mS; omega
theorem mN_le {D : DR} (hw : WF D) (c k n : Nat) (h : n ≤ dN D) : mN D c k n ≤ 20 := by
  have hn := hw.1
  have := sN_le (f := fun r => if dG D r = c * 4 + k ∧ on D r = true then 1 else 0) (c := 1) (n := n) (fun r hr => by
    by_cases q : dG D r = c * 4 + k ∧ on D r = true
    · show (if _ then _ else _) ≤ 1
      rw [if_pos q]; omega
    · show (if _ then _ else _) ≤ 1
      rw [if_neg q]; omega)
  unfold mN; omega
theorem mS_s (D : DR) (c k n : Nat) : mS D c k (n + 1) = mS D c k n + (if dG D n = c * 4 + k ∧ on D n = true then dP D (dF D n) else 0) := rfl
theorem mN_s (D : DR) (c k n : Nat) : mN D c k (n + 1) = mN D c k n + (if dG D n = c * 4 + k ∧ on D n = true then 1 else 0) := rfl
theorem isNum_sub {a b : Nat} (ha : a < 1000) (hb : b < 1000) : f_X2_isNumber (nI a - nI b) = some (bI (decide (b ≤ a ∧ a < b + 4))) := by
  unfold f_X2_isNumber
  simp only [fa_lit]
  by_cases h : a < b
  · rw [if_pos ((sub_lt0 ha hb).mpr h), decide_eq_false (by omega)]; rfl
  · rw [if_neg (by rw [sub_lt0 ha hb]; exact h), pk_sub (show b ≤ a by omega)]
    by_cases h2 : 4 ≤ a - b
    · rw [if_pos ((le_nI (by omega) (by omega)).mpr h2), decide_eq_false (by omega)]; rfl
    · rw [if_neg (nle_nI (by omega) (by omega) (by omega)), decide_eq_true (by omega)]; rfl
theorem isNum {a : Nat} (ha : a < 1000) : f_X2_isNumber (nI a) = some (bI (decide (a < 4))) := by
  unfold f_X2_isNumber
  simp only [fa_lit]
  rw [if_neg (nlt_nI (by omega) (by omega) (by omega))]
  by_cases h2 : 4 ≤ a
  · rw [if_pos ((le_nI (by omega) (by omega)).mpr h2), decide_eq_false (by omega)]; rfl
  · rw [if_neg (nle_nI (by omega) (by omega) (by omega)), decide_eq_true (by omega)]; rfl
/-- the second loop: posts without ribbons -/
theorem p_means2 {pl fr to : Nat → Int32} {D : DR} (hp : RR pl (dP D) 16) (hw : WF D) {c : Nat} (hc : c < 4) {n : Int32} (s m : Nat → Int32) (hs : ∀ k, k < 4 → s k = nI (mS D c k (dN D))) (hm : ∀ k, k < 4 → m k = nI (mN D c k (dN D))) :
    ∃ s' m', f_X2_findMeans_b91 pl fr to n (nI c) FU (nI 0) s m = some (s', m') ∧ (∀ k, k < 4 → s' k = nI (mU D c k)) ∧ ∀ k, k < 4 → m' k = nI (mV D c k) := by
  have h := loopI (fun F i (x : (Nat → Int32) × (Nat → Int32)) => f_X2_findMeans_b91 pl fr to n (nI c) F i x.1 x.2) some
    (fun i x => (∀ k, k < i → x.1 k = nI (mU D c k) ∧ x.2 k = nI (mV D c k)) ∧ ∀ k, k < 4 → i ≤ k → x.1 k = nI (mS D c k (dN D)) ∧ x.2 k = nI (mN D c k (dN D))) 4
    (fun F i x hi hI => ?_) (fun F x hI => ?_) 4 0 FU (s, m) (by omega) (FU_big (by omega)) ⟨fun k hk => by omega, fun k hk _ => ⟨hs k hk, hm k hk⟩⟩
  · obtain ⟨⟨s', m'⟩, e, h1, -⟩ := h
    exact ⟨s', m', e, fun k hk => (h1 k hk).1, fun k hk => (h1 k hk).2⟩
  · obtain ⟨s, m⟩ := x
    obtain ⟨h1, h2⟩ := hI
    have e0 : m i = nI (mN D c i (dN D)) := (h2 i hi (Nat.le_refl _)).2
    have e1 : s i = nI (mS D c i (dN D)) := (h2 i hi (Nat.le_refl _)).1
    have b := mN_le hw c i (dN D) (Nat.le_refl _)
    by_cases z : mN D c i (dN D) = 0
    · refine ⟨(upd s i (nI (dP D (c * 4 + i))), upd m i (nI 1)), ?_, ?_, ?_⟩
      · show f_X2_findMeans_b91 pl fr to n (nI c) (F + 1) (nI i) s m = _
        simp only [f_X2_findMeans_b91, f_X2_findMeans_b127, fa_lit, nme]
        rw [if_neg (nle_nI (by omega) (by omega) hi)]
        simp only [if_pos (gd_nI hi (show i < 2147483648 by omega))]
        rw [cl_nI (by omega), e0, if_pos (by rw [z]), pk_mul, nI_step, p_placeOf hp (by omega)]
        simp only [bs]
        rw [nI_step]
      · intro k hk
        show upd s i (nI (dP D (c * 4 + i))) k = _ ∧ upd m i (nI 1) k = _
        by_cases q : k = i
        · rw [q, upd_q, upd_q]
          unfold mU mV
          rw [if_pos z, if_pos z]
          exact ⟨rfl, rfl⟩
        · rw [upd_w q, upd_w q]; exact h1 k (by omega)
      · intro k hk hk2
        show upd s i (nI (dP D (c * 4 + i))) k = _ ∧ upd m i (nI 1) k = _
        rw [upd_w (by omega), upd_w (by omega)]; exact h2 k hk (by omega)
    · refine ⟨(s, m), ?_, ?_, ?_⟩
      · show f_X2_findMeans_b91 pl fr to n (nI c) (F + 1) (nI i) s m = _
        simp only [f_X2_findMeans_b91, f_X2_findMeans_b127, fa_lit, nme]
        rw [if_neg (nle_nI (by omega) (by omega) hi), if_pos (gd_nI hi (by omega)), cl_nI (by omega), e0, if_neg (by rw [eq_nI (by omega) (by omega)]; exact z), nI_step]
      · intro k hk
        show s k = _ ∧ m k = _
        by_cases q : k = i
        · unfold mU mV
          rw [q, if_neg z, if_neg z]
          exact ⟨e1, e0⟩
        · exact h1 k (by omega)
      · intro k hk hk2
        exact h2 k hk (by omega)
  · obtain ⟨s, m⟩ := x
    show f_X2_findMeans_b91 pl fr to n (nI c) (F + 1) (nI 4) s m = _
    simp only [f_X2_findMeans_b91, fa_lit, nme]
    rw [if_pos ((le_nI (by omega) (by omega)).mpr (Nat.le_refl _))]
/-- the means, told by the class -/
theorem p_findMeans {pl fr to : Nat → Int32} {D : DR} (hp : RR pl (dP D) 16) (hf : RR fr (dF D) (dN D)) (hg : RR to (dG D) (dN D)) (hw : WF D) {c : Nat} (hc : c < 4) (s m : Nat → Int32) :
    ∃ s' m', f_X2_findMeans pl fr to (nI (dN D)) (nI c) s m = some (s', m') ∧ (∀ k, k < 4 → s' k = nI (mU D c k)) ∧ ∀ k, k < 4 → m' k = nI (mV D c k) := by
  have hn := hw.1
  obtain ⟨s0, a1, a2⟩ := p_fill 4 (nI 0) s (by omega)
  obtain ⟨m0, b1, b2⟩ := p_fill 4 (nI 0) m (by omega)
  have h := loopI (fun F i (x : (Nat → Int32) × (Nat → Int32)) => f_X2_findMeans_b18 pl fr to (nI (dN D)) (nI c) F i x.1 x.2) (fun x => f_X2_findMeans_b91 pl fr to (nI (dN D)) (nI c) FU (nI 0) x.1 x.2)
    (fun i x => ∀ k, k < 4 → x.1 k = nI (mS D c k i) ∧ x.2 k = nI (mN D c k i)) (dN D)
    (fun F i x hi hI => ?_) (fun F x hI => ?_) (dN D) 0 FU (s0, m0) (by omega) (FU_big (by omega)) (fun k hk => ⟨a2 k hk, b2 k hk⟩)
  · obtain ⟨⟨s1, m1⟩, e, h1⟩ := h
    obtain ⟨s2, m2, e2, e3, e4⟩ := p_means2 (fr := fr) (to := to) (n := nI (dN D)) hp hw hc s1 m1 (fun k hk => (h1 k hk).1) (fun k hk => (h1 k hk).2)
    refine ⟨s2, m2, ?_, e3, e4⟩
    unfold f_X2_findMeans
    simp only [fa_lit]
    rw [a1, b1]
    simp only [bs]
    exact e.trans e2
  · obtain ⟨s, m⟩ := x
    obtain ⟨w1, w2, -, -⟩ := hw.2.2.2 i hi
    have hI : ∀ k, k < 4 → s k = nI (mS D c k i) ∧ m k = nI (mN D c k i) := hI
    suffices h : ∃ s' m', f_X2_findMeans_b18 pl fr to (nI (dN D)) (nI c) (F + 1) (nI i) s m = f_X2_findMeans_b18 pl fr to (nI (dN D)) (nI c) F (nI (i + 1)) s' m' ∧ ∀ k, k < 4 → s' k = nI (mS D c k (i + 1)) ∧ m' k = nI (mN D c k (i + 1)) by
      obtain ⟨s', m', e, h⟩ := h
      exact ⟨(s', m'), e, h⟩
    simp only [f_X2_findMeans_b18, f_X2_findMeans_b83, fa_lit, nme]
    rw [if_neg (nle_nI (by omega) (by omega) hi), p_toOf hg hn hi]
    simp only [bs]
    rw [pk_mul, isNum_sub (by omega) (by omega)]
    simp only [bs, bI_0]
    by_cases q : c * 4 ≤ dG D i ∧ dG D i < c * 4 + 4
    · rw [if_neg (by rw [decide_eq_true q]; decide), p_goesOn hf hg hw hi]
      simp only [bs, bI_0]
      by_cases o : on D i = true
      · rw [if_neg (by rw [o]; decide), pk_sub q.1]
        simp only [if_pos (gd_nI (show dG D i - c * 4 < 4 by omega) (show dG D i - c * 4 < 2147483648 by omega))]
        rw [p_fromOf hf hn hi]
        simp only [bs]
        rw [p_placeOf hp w1]
        simp only [bs]
        have u := hI (dG D i - c * 4) (by omega)
        rw [cl_nI (by omega), u.1, u.2, nI_step, nI_step, nI_step]
        refine ⟨_, _, rfl, fun k hk => ?_⟩
        by_cases e : k = dG D i - c * 4
        · have e' : dG D i = c * 4 + k ∧ on D i = true := ⟨by omega, o⟩
          rw [mS_s, mN_s, if_pos e', if_pos e', ← e, upd_q, upd_q]
          exact ⟨rfl, rfl⟩
        · have e' : ¬ (dG D i = c * 4 + k ∧ on D i = true) := fun h => e (by omega)
          rw [mS_s, mN_s, if_neg e', if_neg e', upd_w e, upd_w e]
          exact hI k hk
      · have o' : on D i = false := by simpa using o
        rw [if_pos o', nI_step]
        refine ⟨_, _, rfl, fun k hk => ?_⟩
        have e' : ¬ (dG D i = c * 4 + k ∧ on D i = true) := fun h => o h.2
        rw [mS_s, mN_s, if_neg e', if_neg e']
        exact hI k hk
    · rw [if_pos (decide_eq_false q), nI_step]
      refine ⟨_, _, rfl, fun k hk => ?_⟩
      have e' : ¬ (dG D i = c * 4 + k ∧ on D i = true) := fun h => q (by omega)
      rw [mS_s, mN_s, if_neg e', if_neg e']
      exact hI k hk
  · obtain ⟨s, m⟩ := x
    show f_X2_findMeans_b18 pl fr to (nI (dN D)) (nI c) (F + 1) (nI (dN D)) s m = _
    simp only [f_X2_findMeans_b18, fa_lit, nme]
    rw [if_pos ((le_nI (by omega) (by omega)).mpr (Nat.le_refl _))]
