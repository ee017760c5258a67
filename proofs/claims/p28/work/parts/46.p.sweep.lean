/-! ===== the class: a column put in order, and all ===== -/
theorem p_hasLess {s m : Nat → Int32} {D : DR} (hw : WF D) {c x y : Nat} (hc : c < 4) (hx : x < 4) (hy : y < 4) (hs : ∀ k, k < 4 → s k = nI (mU D c k)) (hm : ∀ k, k < 4 → m k = nI (mV D c k)) :
    f_X2_hasLessMean s m (nI x) (nI y) = some (bI (ls D c x y)) := by
  have b1 := uv_le hw (k := y) hc hx
  have b2 := uv_le hw (k := x) hc hy
  unfold f_X2_hasLessMean
  rw [isNum (by omega), isNum (by omega), decide_eq_true hx, decide_eq_true hy]
  simp only [bs, fa_lit, bI_0]
  simp only [if_pos (gd_nI hx (show x < 2147483648 by omega)), if_pos (gd_nI hy (show y < 2147483648 by omega))]
  rw [if_neg (by decide), if_neg (by decide), cl_nI (by omega), cl_nI (by omega), hs x hx, hs y hy, hm x hx, hm y hy, pk_mul, pk_mul]
  unfold ls
  by_cases q : mU D c x * mV D c y < mU D c y * mV D c x
  · rw [if_neg (nle_nI (by omega) (by omega) q), decide_eq_true q]; rfl
  · rw [if_pos ((le_nI (by omega) (by omega)).mpr (by omega)), decide_eq_false q]; rfl
theorem dn1 {f : Nat} (h : f < 1000) : nI (f + 1) + -nI 1 = nI f := by
  have e : nI (f + 1) = nI f + nI 1 := (nI_add f 1).symm
  rw [e, ← Int32.sub_eq_add_neg, Int32.add_sub_cancel]
theorem p_insert {s m : Nat → Int32} {D : DR} (hw : WF D) {c x i : Nat} (hc : c < 4) (hx : x < 4) (hs : ∀ k, k < 4 → s k = nI (mU D c k)) (hm : ∀ k, k < 4 → m k = nI (mV D c k)) (K : Int32 → (Nat → Int32) → Option (Nat → Int32)) :
    ∀ (f F : Nat) (row : Nat → Int32) (R : Nat → Nat), f < 4 → f < F → RR row R 4 → (∀ k, k < 4 → R k < 4) → ∃ row', f_X2_sortRow_b16 s m K F (nI i) (nI x) (nI f) row = K (nI (i + 1)) row' ∧ RR row' (insB (ls D c) x f R) 4 := by
  intro f
  induction f with
  | zero =>
    intro F row R hf hF hr hR
    cases F with
    | zero => omega
    | succ F =>
      refine ⟨upd row 0 (nI x), ?_, RR_upd hr rfl (fun k _ hk => if_neg hk)⟩
      simp only [f_X2_sortRow_b16, f_X2_sortRow_b56, fa_lit, nme]
      rw [if_pos ((le_nI (by omega) (by omega)).mpr (Nat.le_refl _)), if_pos (gd_nI (by omega) (by omega)), cl_nI (by omega), nI_step]
  | succ f ih =>
    intro F row R hf hF hr hR
    cases F with
    | zero => omega
    | succ F =>
      have e1 : nI (f + 1) - nI 1 = nI f := pk_sub (show 1 ≤ f + 1 by omega)
      have e2 := p_hasLess hw hc hx (hR f (by omega)) hs hm
      simp only [f_X2_sortRow_b16, f_X2_sortRow_b56, fa_lit, nme]
      rw [if_neg (nle_nI (by omega) (by omega) (by omega)), e1]
      simp only [if_pos (gd_nI (show f < 4 by omega) (show f < 2147483648 by omega)), if_pos (gd_nI hf (show f + 1 < 2147483648 by omega))]
      rw [cl_nI (by omega), cl_nI (by omega), hr f (by omega), e2]
      simp only [bs, bI_0]
      by_cases q : ls D c x (R f) = true
      · rw [if_neg (by rw [q]; decide), dn1 (by omega)]
        have e3 : insB (ls D c) x (f + 1) R = insB (ls D c) x f (fun k => if k = f + 1 then R f else R k) := if_pos q
        rw [e3]
        exact ih F _ _ (by omega) (by omega) (RR_upd hr (by simp only [if_pos]) (fun k _ hk => if_neg hk)) (fun k hk => by
          by_cases h : k = f + 1
          · rw [if_pos h]; exact hR f (by omega)
          · rw [if_neg h]; exact hR k hk)
      · rw [if_pos (by simpa using q), nI_step]
        have e3 : insB (ls D c) x (f + 1) R = (fun k => if k = f + 1 then x else R k) := if_neg q
        rw [e3]
        exact ⟨_, rfl, RR_upd hr (by simp only [if_pos]) (fun k _ hk => if_neg hk)⟩
theorem p_sortRow {s m row : Nat → Int32} {D : DR} (hw : WF D) {c : Nat} (hc : c < 4) (hs : ∀ k, k < 4 → s k = nI (mU D c k)) (hm : ∀ k, k < 4 → m k = nI (mV D c k)) (hr : RR row (inv D c) 4) :
    ∃ row', f_X2_sortRow s m row = some row' ∧ RR row' (srR D c) 4 := by
  have h0 : ∀ k, k < 4 → inv D c k < 4 := fun k hk => (inv_ok hw hc hk).1
  have st : ∀ i F row R, i < 4 → RR row R 4 → (∀ k, k < 4 → R k < 4) → ∃ row', f_X2_sortRow_b2 s m (F + 1) (nI i) row = f_X2_sortRow_b2 s m F (nI (i + 1)) row' ∧ RR row' (insB (ls D c) (R i) i R) 4 ∧ ∀ k, k < 4 → insB (ls D c) (R i) i R k < 4 := by
    intro i F row R hi hr hR
    obtain ⟨row', e1, e2⟩ := p_insert hw (i := i) hc (hR i hi) hs hm (f_X2_sortRow_b2 s m F) i FU row R hi (FU_big (by omega)) hr hR
    refine ⟨row', ?_, e2, fun k hk => ?_⟩
    · rw [← e1]
      simp only [f_X2_sortRow_b2, fa_lit, nme]
      rw [if_neg (nle_nI (by omega) (by omega) hi), if_pos (gd_nI hi (by omega)), cl_nI (by omega), hr i hi]
    · by_cases h : k ≤ i
      · exact insB_P (ls D c) (fun y => y < 4) (R i) (hR i hi) i R (fun j hj => hR j (by omega)) k h
      · rw [insB_out (ls D c) (R i) i R k (by omega)]; exact hR k hk
  obtain ⟨G, e⟩ : ∃ G, FU = G + 1 + 1 + 1 + 1 := ⟨5996, rfl⟩
  obtain ⟨r1, e1, q1, b1⟩ := st 1 (G + 1 + 1 + 1) row (inv D c) (by omega) hr h0
  obtain ⟨r2, e2, q2, b2⟩ := st 2 (G + 1 + 1) r1 _ (by omega) q1 b1
  obtain ⟨r3, e3, q3, b3⟩ := st 3 (G + 1) r2 _ (by omega) q2 b2
  refine ⟨r3, ?_, q3⟩
  unfold f_X2_sortRow
  rw [e]
  simp only [fa_lit]
  rw [e1, e2, e3]
  simp only [f_X2_sortRow_b2, fa_lit]
  rw [if_pos ((le_nI (by omega) (by omega)).mpr (Nat.le_refl _))]
theorem p_postAt {pl : Nat → Int32} {D : DR} (hp : RR pl (dP D) 16) (hw : WF D) {c j : Nat} (hc : c < 4) (hj : j < 4) : f_X1_postAt pl (nI c) (nI j) = some (nI (c * 4 + inv D c j)) := by
  have iv := inv_ok hw hc hj
  unfold f_X1_postAt
  simp only [fa_lit, nme]
  rw [pk_mul]
  obtain ⟨G, e⟩ : ∃ G, FU = G + 1 + 1 + 1 + 1 := ⟨5996, rfl⟩
  rw [e]
  have st : ∀ F k, k < 4 → f_X1_postAt_b7 pl (nI c) (nI j) (F + 1) (nI (c * 4)) (nI (c * 4 + k)) = if dP D (c * 4 + k) = j then some (nI (c * 4 + k)) else f_X1_postAt_b7 pl (nI c) (nI j) F (nI (c * 4)) (nI (c * 4 + (k + 1))) := by
    intro F k hk
    have b := hw.2.1 (c * 4 + k) (by omega)
    simp only [f_X1_postAt_b7, fa_lit, nme]
    rw [nI_step, if_neg (nle_nI (by omega) (by omega) (by omega)), p_placeOf hp (by omega)]
    simp only [bs]
    have e := eq_nI (a := dP D (c * 4 + k)) (b := j) (by omega) (by omega)
    simp only [e]
    rw [nI_step, Nat.add_assoc]
  have s0 : f_X1_postAt_b7 pl (nI c) (nI j) (G + 1 + 1 + 1 + 1) (nI (c * 4)) (nI (c * 4)) = if dP D (c * 4) = j then some (nI (c * 4)) else f_X1_postAt_b7 pl (nI c) (nI j) (G + 1 + 1 + 1) (nI (c * 4)) (nI (c * 4 + 1)) := st (G + 1 + 1 + 1) 0 (by omega)
  rw [s0, st _ 1 (by omega), st _ 2 (by omega), st _ 3 (by omega)]
  have iv2 := iv.2
  unfold inv at iv2 ⊢
  by_cases h0 : dP D (c * 4) = j
  · rw [if_pos h0, if_pos h0, Nat.add_zero]
  · rw [if_neg h0, if_neg h0]
    rw [if_neg h0] at iv2
    by_cases h1 : dP D (c * 4 + 1) = j
    · rw [if_pos h1, if_pos h1]
    · rw [if_neg h1, if_neg h1]
      rw [if_neg h1] at iv2
      by_cases h2 : dP D (c * 4 + 2) = j
      · rw [if_pos h2, if_pos h2]
      · rw [if_neg h2, if_neg h2]
        rw [if_neg h2] at iv2
        rw [if_pos iv2]
theorem p_readRow {pl row : Nat → Int32} {D : DR} (hp : RR pl (dP D) 16) (hw : WF D) {c : Nat} (hc : c < 4) : ∃ row', f_X2_readRow pl (nI c) row = some row' ∧ RR row' (inv D c) 4 := by
  unfold f_X2_readRow
  simp only [fa_lit]
  refine loopI (fun F i x => f_X2_readRow_b2 pl (nI c) F i x) some (fun i x => ∀ k, k < i → x k = nI (inv D c k)) 4 (fun F i x hi hI => ⟨upd x i (nI (inv D c i)), ?_, fun k hk => ?_⟩) (fun F x _ => ?_) 4 0 FU row (by omega) (FU_big (by omega)) (fun k hk => by omega)
  · show f_X2_readRow_b2 pl (nI c) (F + 1) (nI i) x = _
    simp only [f_X2_readRow_b2, fa_lit, nme]
    rw [if_neg (nle_nI (by omega) (by omega) hi), p_postAt hp hw hc hi]
    simp only [bs]
    rw [pk_mul, pk_sub (by omega), if_pos (gd_nI hi (by omega)), cl_nI (by omega), nI_step, Nat.add_sub_cancel_left]
  · by_cases q : k = i
    · rw [q, upd_q]
    · rw [upd_w q]; exact hI k (by omega)
  · show f_X2_readRow_b2 pl (nI c) (F + 1) (nI 4) x = _
    simp only [f_X2_readRow_b2, fa_lit, nme]
    rw [if_pos ((le_nI (by omega) (by omega)).mpr (Nat.le_refl _))]
/-- the row's posts set to their places -/
theorem p_putRow {D : DR} (hw : WF D) {c : Nat} (hc : c < 4) {pl : Nat → Int32} {i : Nat} (hi : i < 4) (h : RR pl (fun p => if p / 4 = c ∧ rk D c (p % 4) < i then rk D c (p % 4) else dP D p) 16) :
    ∃ pl', f_X1_setPlace (nI (c * 4 + srR D c i)) (nI i) pl = some pl' ∧ RR pl' (fun p => if p / 4 = c ∧ rk D c (p % 4) < i + 1 then rk D c (p % 4) else dP D p) 16 := by
  obtain ⟨k1, k2⟩ := srR_ok hw hc hi
  obtain ⟨pl', e1, e2⟩ := p_setPlace h (a := c * 4 + srR D c i) (v := i) (by omega)
  refine ⟨pl', e1, fun p hp => ?_⟩
  rw [e2 p hp]
  apply congrArg nI
  show (if p = c * 4 + srR D c i then i else if p / 4 = c ∧ rk D c (p % 4) < i then rk D c (p % 4) else dP D p) = if p / 4 = c ∧ rk D c (p % 4) < i + 1 then rk D c (p % 4) else dP D p
  by_cases q : p = c * 4 + srR D c i
  · have q1 : p % 4 = srR D c i := by omega
    rw [if_pos q, q1, k2, if_pos ⟨by omega, by omega⟩]
  · rw [if_neg q]
    by_cases q2 : p / 4 = c
    · have x := srR_of hw hc (k := p % 4) (by omega)
      have q3 : rk D c (p % 4) ≠ i := fun e => by
        rw [e] at x
        omega
      by_cases q4 : rk D c (p % 4) < i
      · rw [if_pos ⟨q2, q4⟩, if_pos ⟨q2, by omega⟩]
      · rw [if_neg (fun h => q4 h.2), if_neg (fun h => q3 (by omega))]
    · rw [if_neg (fun h => q2 h.1), if_neg (fun h => q2 h.1)]
theorem p_column {fr to s m row pl : Nat → Int32} {n : Int32} {D : DR} (hw : WF D) {c : Nat} (hc : c < 4) (K : Int32 → (Nat → Int32) → (Nat → Int32) → (Nat → Int32) → (Nat → Int32) → Option ((Nat → Int32) × (Nat → Int32) × (Nat → Int32) × (Nat → Int32))) (hr : RR row (srR D c) 4) (hp : RR pl (dP D) 16) :
    ∃ pl', f_X2_sweepColumns_b25 fr to n K FU (nI c) (nI 0) s m row pl = K (nI (c + 1)) s m row pl' ∧ RR pl' (dP (swC D c)) 16 := by
  have h := loopI (fun F i x => f_X2_sweepColumns_b25 fr to n K F (nI c) i s m row x) (fun x => K (nI (c + 1)) s m row x)
    (fun i x => RR x (fun p => if p / 4 = c ∧ rk D c (p % 4) < i then rk D c (p % 4) else dP D p) 16) 4 (fun F i x hi hI => ?_) (fun F x _ => ?_) 4 0 FU pl (by omega) (FU_big (by omega)) (fun p hp2 => ?_)
  · obtain ⟨pl', e1, e2⟩ := h
    refine ⟨pl', e1, fun p hp2 => ?_⟩
    rw [e2 p hp2]
    apply congrArg nI
    show (if p / 4 = c ∧ rk D c (p % 4) < 4 then rk D c (p % 4) else dP D p) = if p / 4 = c then rk D c (p % 4) else dP D p
    have := rk_lt D (c := c) (k := p % 4) (by omega)
    by_cases q : p / 4 = c
    · rw [if_pos q, if_pos ⟨q, this⟩]
    · rw [if_neg q, if_neg (fun h => q h.1)]
  · obtain ⟨pl', e1, e2⟩ := p_putRow hw hc hi hI
    refine ⟨pl', ?_, e2⟩
    show f_X2_sweepColumns_b25 fr to n K (F + 1) (nI c) (nI i) s m row x = _
    simp only [f_X2_sweepColumns_b25, fa_lit, nme]
    rw [if_neg (nle_nI (by omega) (by omega) hi), if_pos (gd_nI hi (by omega)), cl_nI (by omega), hr i hi, pk_mul, nI_step, e1]
    simp only [bs]
    rw [nI_step]
  · show f_X2_sweepColumns_b25 fr to n K (F + 1) (nI c) (nI 4) s m row x = _
    simp only [f_X2_sweepColumns_b25, fa_lit, nme]
    rw [if_pos ((le_nI (by omega) (by omega)).mpr (Nat.le_refl _)), nI_step]
  · show pl p = nI (if p / 4 = c ∧ rk D c (p % 4) < 0 then rk D c (p % 4) else dP D p)
    rw [if_neg (fun h => Nat.not_lt_zero _ h.2)]
    exact hp p hp2
def swA (D : DR) : DR := swC (swC (swC D 1) 2) 3
theorem swA_wf {D : DR} (hw : WF D) : WF (swA D) := swC_wf (swC_wf (swC_wf hw (by omega)) (by omega)) (by omega)
theorem p_sweepOne {fr to s m row pl : Nat → Int32} {D : DR} (hf : RR fr (dF D) (dN D)) (hg : RR to (dG D) (dN D)) (hw : WF D) (hp : RR pl (dP D) 16) {c : Nat} (hc : c < 4) (F : Nat) :
    ∃ s' m' row' pl', f_X2_sweepColumns_b2 fr to (nI (dN D)) (F + 1) (nI c) s m row pl = f_X2_sweepColumns_b2 fr to (nI (dN D)) F (nI (c + 1)) s' m' row' pl' ∧ RR pl' (dP (swC D c)) 16 := by
  obtain ⟨s1, m1, e1, a1, a2⟩ := p_findMeans hp hf hg hw hc s m
  obtain ⟨r1, e2, a3⟩ := p_readRow (row := row) hp hw hc
  obtain ⟨r2, e3, a4⟩ := p_sortRow hw hc a1 a2 a3
  obtain ⟨pl', e4, a5⟩ := p_column (fr := fr) (to := to) (s := s1) (m := m1) (n := nI (dN D)) hw hc (f_X2_sweepColumns_b2 fr to (nI (dN D)) F) a4 hp
  refine ⟨s1, m1, r2, pl', ?_, a5⟩
  rw [← e4]
  simp only [f_X2_sweepColumns_b2, fa_lit]
  rw [if_neg (nle_nI (by omega) (by omega) hc), e1]
  simp only [bs]
  rw [e2]
  simp only [bs]
  rw [e3]
  simp only [bs]
theorem p_sweepColumns {fr to s m row pl : Nat → Int32} {D : DR} (hf : RR fr (dF D) (dN D)) (hg : RR to (dG D) (dN D)) (hw : WF D) (hp : RR pl (dP D) 16) :
    ∃ s' m' row' pl', f_X2_sweepColumns fr to (nI (dN D)) s m row pl = some (s', m', row', pl') ∧ RR pl' (dP (swA D)) 16 := by
  obtain ⟨G, e⟩ : ∃ G, FU = G + 1 + 1 + 1 + 1 := ⟨5996, rfl⟩
  obtain ⟨s1, m1, r1, p1, e1, h1⟩ := p_sweepOne (s := s) (m := m) (row := row) hf hg hw hp (c := 1) (by omega) (G + 1 + 1 + 1)
  obtain ⟨s2, m2, r2, p2, e2, h2⟩ := p_sweepOne (D := swC D 1) (s := s1) (m := m1) (row := r1) hf hg (swC_wf hw (by omega)) h1 (c := 2) (by omega) (G + 1 + 1)
  obtain ⟨s3, m3, r3, p3, e3, h3⟩ := p_sweepOne (D := swC (swC D 1) 2) (s := s2) (m := m2) (row := r2) hf hg (swC_wf (swC_wf hw (by omega)) (by omega)) h2 (c := 3) (by omega) (G + 1)
  refine ⟨s3, m3, r3, p3, ?_, h3⟩
  unfold f_X2_sweepColumns
  rw [e]
  simp only [fa_lit]
  refine e1.trans (Eq.trans e2 (Eq.trans e3 ?_))
  simp only [f_X2_sweepColumns_b2, fa_lit]
  rw [if_pos ((le_nI (by omega) (by omega)).mpr (Nat.le_refl _))]
theorem r_sweepOne {z s m sv : Nat → Int32} {th sa : Int32} {D : DR} (hz : DZ z D) (hw : WF D) {c : Nat} (hc : c < 4) (F : Nat) :
    ∃ z' s' m', f_X7_sweep_b11 (F + 1) (nI c) th z sv sa s m = f_X7_sweep_b11 F (nI (c + 1)) th z' sv sa s' m' ∧ DZ z' (swC D c) := by
  obtain ⟨z', s', m', e1, h1⟩ := r_sweepColumn (s := s) (m := m) hz hw hc
  refine ⟨z', s', m', ?_, h1⟩
  simp only [f_X7_sweep_b11, fa_lit, nme]
  rw [if_neg (nle_nI (by omega) (by omega) hc), e1]
  simp only [bs]
  rw [nI_step]
theorem r_sweep {z s m sv : Nat → Int32} {th sa : Int32} {D : DR} (hz : DZ z D) (hw : WF D) :
    ∃ z' s' m', f_X7_sweep_b11 FU (nI 1) th z sv sa s m = some (nI (xAll (swA D)), th, z', sv, sa, s', m') ∧ DZ z' (swA D) := by
  obtain ⟨G, e⟩ : ∃ G, FU = G + 1 + 1 + 1 + 1 := ⟨5996, rfl⟩
  obtain ⟨z1, s1, m1, e1, h1⟩ := r_sweepOne (s := s) (m := m) (sv := sv) (th := th) (sa := sa) hz hw (c := 1) (by omega) (G + 1 + 1 + 1)
  obtain ⟨z2, s2, m2, e2, h2⟩ := r_sweepOne (s := s1) (m := m1) (sv := sv) (th := th) (sa := sa) h1 (swC_wf hw (by omega)) (c := 2) (by omega) (G + 1 + 1)
  obtain ⟨z3, s3, m3, e3, h3⟩ := r_sweepOne (s := s2) (m := m2) (sv := sv) (th := th) (sa := sa) h2 (swC_wf (swC_wf hw (by omega)) (by omega)) (c := 3) (by omega) (G + 1)
  refine ⟨z3, s3, m3, ?_, h3⟩
  rw [e]
  refine e1.trans (e2.trans (e3.trans ?_))
  simp only [f_X7_sweep_b11, fa_lit, nme]
  rw [if_pos ((le_nI (by omega) (by omega)).mpr (Nat.le_refl _)), r_crossings h3 (swA_wf hw)]
  simp only [bs]
  rfl
