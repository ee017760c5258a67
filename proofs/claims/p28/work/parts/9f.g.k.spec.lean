/-! ===== what each call of the class answers, and the drawing after it ===== -/
def ar (n : Nat) (x : Int32) : Option Nat := if x < nI 0 ∨ nI n ≤ x then none else some x.toNatClampNeg
theorem ar_out {n : Nat} {x : Int32} (h : x < nI 0 ∨ nI n ≤ x) : ar n x = none := if_pos h
theorem ar_in {n p : Nat} (h : p < n) (hn : n < 2147483648) : ar n (nI p) = some p := by
  unfold ar
  rw [if_neg (fun z => z.elim (nlt_nI (by omega) (by omega) (by omega)) (nle_nI (by omega) (by omega) h)), cl_nI (by omega)]
def f_K_ribbon (E : DR) (x1 x2 x3 : Int32) : Option (Int32 × DR) := match ar 16 x1, ar 16 x2 with
  | some a, some b => if a / 4 = b / 4 then some (-nI 32, E) else if x3 < nI 1 ∨ ¬ x3 ≤ nI 50 then some (-nI 32, E) else if 20 ≤ dN E then some (-nI 33, E) else some (nI (dN E), adD E a b x3.toNatClampNeg)
  | _, _ => some (-nI 31, E)
def f_K_widen (E : DR) (x1 x2 : Int32) : Option (Int32 × DR) := match ar (dN E) x1 with
  | some r => if x2 < nI 0 ∨ ¬ x2 ≤ nI 50 then some (-nI 32, E) else some (nI (dW E r), setW E r x2.toNatClampNeg)
  | none => some (-nI 31, E)
def f_K_remove (E : DR) (x1 : Int32) : Option (Int32 × DR) := match ar (dN E) x1 with
  | some r => some (nI (dW E r), rmD E r)
  | none => some (-nI 31, E)
def f_K_swap (E : DR) (x1 x2 : Int32) : Option (Int32 × DR) := match ar 16 x1, ar 16 x2 with
  | some a, some b => if a = b then some (-nI 32, E) else if a / 4 = b / 4 then some (nI (xAll (exP E a b)), exP E a b) else some (-nI 32, E)
  | _, _ => some (-nI 31, E)
def f_K_order (E : DR) (x1 : Int32) : Option (Int32 × DR) := match ar 4 x1 with
  | some c => some (nI (xAll (orD E c (bO E c))), orD E c (bO E c))
  | none => some (-nI 31, E)
def f_K_trim (E : DR) (x1 : Int32) : Option (Int32 × DR) := match ar 16 x1 with
  | some p => if 4 ≤ p ∧ p < 12 then some (nI (trK E p), trD E p) else some (-nI 31, E)
  | none => some (-nI 31, E)
noncomputable def stS (D : DR) : Nat := @dite Nat (WF D) (Classical.propDecidable _) (fun h => (settle_law h).choose) (fun _ => 0)
noncomputable def stE (D : DR) : DR := @dite DR (WF D) (Classical.propDecidable _) (fun h => (settle_law h).choose_spec.choose) (fun _ => D)
theorem st_spec {D : DR} (hw : WF D) : WF (stE D) ∧ dN (stE D) = dN D ∧ dF (stE D) = dF D ∧ dG (stE D) = dG D ∧ dP (stE D) = dP D ∧ dT (stE D) = dT D + nI (stS D) ∧ (∀ q, 4 ≤ q → q < 12 → comes (stE D) q = leav (stE D) q) ∧ ((∀ q, 4 ≤ q → q < 12 → comes D q = leav D q) → stS D = 0) ∧
    (∀ (fr to wd : Nat → Int32), RR fr (dF D) (dN D) → RR to (dG D) (dN D) → RR wd (dW D) (dN D) → ∃ wd', f_X1_trimAll fr to (nI (dN D)) wd (dT D) = some (nI (stS D), wd', dT (stE D)) ∧ RR wd' (dW (stE D)) (dN D)) ∧
    (∀ (z : Nat → Int32), LZ z D → ∃ z', f_L_settled (nI (dN D)) z = some (nI (stS D), z') ∧ LZ z' (stE D)) := by
  unfold stS stE
  rw [dif_pos hw, dif_pos hw]
  exact (settle_law hw).choose_spec.choose_spec
noncomputable def f_K_settle (E : DR) : Option (Int32 × DR) := some (nI (stS E), stE E)
def f_K_sweep (E : DR) : Option (Int32 × DR) := some (nI (xAll (swA E)), swA E)
def f_K_ifSwapped (E : DR) (x1 x2 : Int32) : Option Int32 := match ar 16 x1, ar 16 x2 with
  | some a, some b => if a / 4 = b / 4 ∧ a ≠ b then some (nI (xAll (exP E a b))) else none
  | _, _ => none
def f_K_bestOrder (E : DR) (x1 : Int32) : Option Int32 := match ar 4 x1 with
  | some c => some (nI (tell4 (bO E c)))
  | none => none
noncomputable def f_K_ifSettled (E : DR) : Option Int32 := some (nI (stS E))
def f_K_count (E : DR) (x1 : Int32) : Option Int32 := match ar 9 x1 with
  | some k => some (cV E 0 k)
  | none => none
def f_K_postOf (E : DR) (x1 x2 : Int32) : Option Int32 := match ar 16 x1, ar 8 x2 with
  | some p, some k => some (nI (pV E p k))
  | _, _ => none
def f_K_ribbonOf (E : DR) (x1 x2 : Int32) : Option Int32 := match ar (dN E) x1, ar 5 x2 with
  | some r, some k => some (nI (rV E r k))
  | _, _ => none
def f_K_height (E : DR) (x1 : Int32) : Option Int32 := match ar 4 x1 with
  | some c => some (nI (hgt E c))
  | none => none
def f_K_mainRibbon (E : DR) : Option Int32 := some (oI (mnO E))
def f_K_throughShare (E : DR) : Option UInt64 := some (shv E)
/-! ===== the class gives these answers: calls that change nothing ===== -/
section
variable {pl fr to wd : Nat → Int32} {n tr : Int32} {E : DR}
theorem kp_postOf (hD : DC pl fr to wd n tr E) (hw : WF E) {x1 x2 v : Int32} (hk : f_K_postOf E x1 x2 = some v) : f_X6_postOf pl fr to wd n x1 x2 = some (.inr v) := by
  obtain ⟨rfl, rfl, hpl, hf, hg, hd⟩ := hD
  unfold f_K_postOf at hk
  rcases (arg_lt x1 16 (by omega)).symm with h1 | ⟨p, hp, rfl⟩
  · rw [ar_out h1] at hk; cases hk
  rcases (arg_lt x2 8 (by omega)).symm with h2 | ⟨k, hk8, rfl⟩
  · rw [ar_out h2, ar_in hp (by omega)] at hk; cases hk
  rw [ar_in hp (by omega), ar_in hk8 (by omega)] at hk
  cases hk
  exact p_postOf hpl hf hg hd hw hp hk8
theorem kp_ribbonOf (hD : DC pl fr to wd n tr E) (hw : WF E) {x1 x2 v : Int32} (hk : f_K_ribbonOf E x1 x2 = some v) : f_X6_ribbonOf pl fr to wd n x1 x2 = some (.inr v) := by
  obtain ⟨rfl, rfl, hpl, hf, hg, hd⟩ := hD
  have hn := hw.1
  unfold f_K_ribbonOf at hk
  rcases (arg_lt x1 (dN E) (by omega)).symm with h1 | ⟨p, hp, rfl⟩
  · rw [ar_out h1] at hk; cases hk
  rcases (arg_lt x2 5 (by omega)).symm with h2 | ⟨k, hk8, rfl⟩
  · rw [ar_out h2, ar_in hp (by omega)] at hk; cases hk
  rw [ar_in hp (by omega), ar_in hk8 (by omega)] at hk
  cases hk
  exact p_ribbonOf hpl hf hg hd hw hp hk8
theorem kp_height (hD : DC pl fr to wd n tr E) (hw : WF E) {x1 v : Int32} (hk : f_K_height E x1 = some v) : f_X6_height pl fr to wd n x1 = some (.inr v) := by
  obtain ⟨rfl, rfl, hpl, hf, hg, hd⟩ := hD
  unfold f_K_height at hk
  rcases (arg_lt x1 4 (by omega)).symm with h1 | ⟨c, hc, rfl⟩
  · rw [ar_out h1] at hk; cases hk
  rw [ar_in hc (by omega)] at hk
  cases hk
  exact p_height hpl hf hg hd hw hc
theorem cV_h (D : DR) {h k : Nat} (hk : k < 9) : cV D h k = cV D 0 k := by
  unfold cV
  by_cases c : k = 8
  · subst c; rfl
  · match k, hk with
    | 0, _ => rfl
    | 1, _ => rfl
    | 2, _ => rfl
    | 3, _ => rfl
    | 4, _ => rfl
    | 5, _ => rfl
    | 6, _ => rfl
    | 7, _ => rfl
    | 8, _ => rfl
theorem kp_count (hD : DC pl fr to wd n tr E) (hw : WF E) {x1 v : Int32} (hk : f_K_count E x1 = some v) (h : Nat) (h1 h2 : Nat → Int32) (h3 : Int32) (h4 u1 u2 u3 u4 u5 u6 : Nat → Int32) (u7 : Int32) : ∃ q, f_X6_count pl fr to wd n tr (nI h) x1 h1 h2 h3 h4 u1 u2 u3 u4 u5 u6 u7 = some (.inr (v, q)) := by
  unfold f_K_count at hk
  rcases (arg_lt x1 9 (by omega)).symm with c | ⟨k, hk9, rfl⟩
  · rw [ar_out c] at hk; cases hk
  rw [ar_in hk9 (by omega)] at hk
  cases hk
  obtain ⟨a1, a2, a3, a4, b1, b2, b3, b4, b5, b6, b7, e⟩ := p_count hD hw (h := h) (show k < 10 by omega) h1 h2 h3 h4 u1 u2 u3 u4 u5 u6 u7
  rw [cV_h E hk9] at e
  exact ⟨_, e⟩
theorem kp_ifSwapped (hD : DC pl fr to wd n tr E) (hw : WF E) {x1 x2 v : Int32} (hk : f_K_ifSwapped E x1 x2 = some v) (ep ef et ew : Nat → Int32) (en etr : Int32) : ∃ q, f_X6_ifSwapped pl fr to wd n tr x1 x2 ep ef et ew en etr = some (.inr (v, q)) := by
  unfold f_K_ifSwapped at hk
  rcases (arg_lt x1 16 (by omega)).symm with h1 | ⟨a, ha, rfl⟩
  · rw [ar_out h1] at hk; cases hk
  rcases (arg_lt x2 16 (by omega)).symm with h2 | ⟨b, hb, rfl⟩
  · rw [ar_out h2, ar_in ha (by omega)] at hk; cases hk
  rw [ar_in ha (by omega), ar_in hb (by omega)] at hk
  by_cases c : a / 4 = b / 4 ∧ a ≠ b
  · simp only [if_pos c] at hk
    cases hk
    obtain ⟨p, f, t, w, e⟩ := p_ifSwapped (ep := ep) (ef := ef) (et := et) (ew := ew) (en := en) (etr := etr) hD hw ha hb c.1 c.2
    exact ⟨_, e⟩
  · simp only [if_neg c] at hk
    cases hk
theorem kp_bestOrder (hD : DC pl fr to wd n tr E) (hw : WF E) {x1 v : Int32} (hk : f_K_bestOrder E x1 = some v) (row best co : Nat → Int32) : ∃ q, f_X6_bestOrder pl fr to wd n x1 row best co = some (.inr (v, q)) := by
  obtain ⟨rfl, rfl, hpl, hf, hg, hd⟩ := hD
  unfold f_K_bestOrder at hk
  rcases (arg_lt x1 4 (by omega)).symm with h1 | ⟨c, hc, rfl⟩
  · rw [ar_out h1] at hk; cases hk
  rw [ar_in hc (by omega)] at hk
  cases hk
  obtain ⟨q, e⟩ := p_bestOrder hpl hf hg hd hw hc row best co
  exact ⟨q, e⟩
theorem kp_ifSettled (hD : DC pl fr to wd n tr E) (hw : WF E) {v : Int32} (hk : f_K_ifSettled E = some v) (ep ef et ew : Nat → Int32) (en etr : Int32) : ∃ q, f_X6_ifSettled pl fr to wd n tr ep ef et ew en etr = some (v, q) := by
  unfold f_K_ifSettled at hk
  cases hk
  obtain ⟨-, -, -, -, -, -, -, -, g7, -⟩ := st_spec hw
  obtain ⟨p, f, t, w, e⟩ := p_ifSettled (ep := ep) (ef := ef) (et := et) (ew := ew) (en := en) (etr := etr) hD hw g7
  exact ⟨_, e⟩
theorem kp_mainRibbon (hD : DC pl fr to wd n tr E) (hw : WF E) {v : Int32} (hk : f_K_mainRibbon E = some v) (be en wi : Nat → Int32) (sz : Int32) (lw : Nat → Int32) : ∃ q, f_X6_mainRibbon fr to wd n be en wi sz lw = some (v, q) := by
  obtain ⟨rfl, rfl, hpl, hf, hg, hd⟩ := hD
  unfold f_K_mainRibbon at hk
  cases hk
  exact p_mainRibbon hf hg hd hw be en wi sz lw
theorem kp_throughShare (hD : DC pl fr to wd n tr E) (hw : WF E) {v : UInt64} (hk : f_K_throughShare E = some v) (nu rb qu : Nat → Int32) : ∃ q, f_X6_throughShare fr to wd n nu rb qu = some (v, q) := by
  obtain ⟨rfl, rfl, hpl, hf, hg, hd⟩ := hD
  unfold f_K_throughShare at hk
  cases hk
  obtain ⟨a, b, c, e⟩ := p_throughShare hf hg hd hw nu rb qu
  exact ⟨_, e⟩
end
/-! ===== calls that throw ===== -/
theorem checkPair_x1 {x1 x2 : Int32} (h : x1 < nI 0 ∨ nI 16 ≤ x1) : f_X6_checkPairT x1 x2 = some eIO := by
  unfold f_X6_checkPairT
  rw [checkPost_out h, tb_s]
theorem checkPair_x2 {a : Nat} {x2 : Int32} (ha : a < 16) (h : x2 < nI 0 ∨ nI 16 ≤ x2) : f_X6_checkPairT (nI a) x2 = some eIO := by
  unfold f_X6_checkPairT
  rw [(checkPost_in ha).1, (checkPost_in ha).2, tb_n]
  simp only [bs]
  rw [checkPost_out h, tb_s]
theorem checkPair_ab {a b : Nat} (ha : a < 16) (hb : b < 16) : f_X6_checkPairT (nI a) (nI b) = if a = b then some eIA else if a / 4 = b / 4 then none else some eIA := by
  unfold f_X6_checkPairT
  rw [(checkPost_in ha).1, (checkPost_in ha).2, tb_n, (checkPost_in hb).1, (checkPost_in hb).2]
  simp only [bs, eq_nI (show a < 2147483648 by omega) (show b < 2147483648 by omega)]
  rw [tb_n, p_columnOf ha, p_columnOf hb]
  simp only [bs, eq_nI (show a / 4 < 2147483648 by omega) (show b / 4 < 2147483648 by omega)]
theorem checkColumn_out {x : Int32} (h : x < nI 0 ∨ nI 4 ≤ x) : f_X6_checkColumnT x = some eIO := by
  unfold f_X6_checkColumnT
  simp only [fa_lit]
  by_cases c : x < nI 0
  · rw [if_pos c]
  · have c2 := h.resolve_left c
    rw [if_neg c, if_neg]
    intro z
    rw [i_lt (by omega)] at z
    rw [i_ge (by omega)] at c2
    omega
theorem inner_out {x : Int32} (h : x < nI 4 ∨ nI 12 ≤ x) : f_X6_isInner x = some (nI 0) := by
  unfold f_X6_isInner
  simp only [fa_lit]
  by_cases c : x < nI 4
  · rw [if_pos c]
  · rw [if_neg c, if_pos (h.resolve_left c)]
section
variable {pl fr to wd : Nat → Int32} {n tr : Int32} {E : DR}
/-- the throw of a call, and its number in the law -/
def TE (v : Int32) (e : String) : Prop := (v = -nI 31 ∧ e = eIO) ∨ (v = -nI 32 ∧ e = eIA) ∨ (v = -nI 33 ∧ e = eIS)
theorem TE1 : TE (-nI 31) eIO := Or.inl ⟨rfl, rfl⟩
theorem TE2 : TE (-nI 32) eIA := Or.inr (Or.inl ⟨rfl, rfl⟩)
theorem TE3 : TE (-nI 33) eIS := Or.inr (Or.inr ⟨rfl, rfl⟩)
theorem ks_ribbon (hD : DC pl fr to wd n tr E) (hw : WF E) {o h : Nat} (ho : o < 6) (hh : h ≤ 6) {x1 x2 x3 v : Int32} {E' : DR} (hk : f_K_ribbon E x1 x2 x3 = some (v, E')) :
    WF E' ∧ ((E' = E ∧ ∃ e, f_X6_ribbonT n x1 x2 x3 = some e ∧ TE v e) ∨
      ((∃ fr' to' wd' n' bp bf bt bw bn btr, f_X6_ribbonA pl tr x1 x2 x3 fr to wd n (nI o) (nI h) = some (.inr (v, fr', to', wd', n', nI (nO o h), nI (nH h), bf, bt, bw, bn, btr, bp)) ∧ DC pl fr' to' wd' n' tr E') ∧
       ∀ (cp cf ct cw : Nat → Int32) (cn ctr : Int32), ∃ fr' to' wd' n' bp bf bt bw bn btr, f_X6_ribbonB pl tr x1 x2 x3 fr to wd n (nI o) (nI h) cp cf ct cw cn ctr = some (.inr (v, fr', to', wd', n', nI (nO o h), nI (nH h), bp, bf, bt, bw, bn, btr)) ∧ DC pl fr' to' wd' n' tr E')) := by
  have hDc := hD
  obtain ⟨rfl, rfl, hpl, hf, hg, hd⟩ := hD
  have hn20 := hw.1
  unfold f_K_ribbon at hk
  rcases (arg_lt x1 16 (by omega)).symm with h1 | ⟨a, ha, rfl⟩
  · rw [ar_out h1] at hk
    cases hk
    refine ⟨hw, Or.inl ⟨rfl, eIO, ?_, TE1⟩⟩
    unfold f_X6_ribbonT
    rw [checkPost_out h1, tb_s]
  rcases (arg_lt x2 16 (by omega)).symm with h2 | ⟨b, hb, rfl⟩
  · rw [ar_out h2, ar_in ha (by omega)] at hk
    cases hk
    refine ⟨hw, Or.inl ⟨rfl, eIO, ?_, TE1⟩⟩
    unfold f_X6_ribbonT
    rw [(checkPost_in ha).1, (checkPost_in ha).2, checkPost_out h2, tb_n]
    simp only [bs]
    rw [tb_s]
  rw [ar_in ha (by omega), ar_in hb (by omega)] at hk
  have hT : f_X6_ribbonT (nI (dN E)) (nI a) (nI b) x3 = (if nI (a / 4) = nI (b / 4) then some eIA else (if x3 < nI 1 then some eIA else (if x3 ≤ nI 50 then (if nI (dN E) < nI 20 then none else some eIS) else some eIA))) := by
    unfold f_X6_ribbonT
    rw [(checkPost_in ha).1, (checkPost_in ha).2, (checkPost_in hb).1, (checkPost_in hb).2, tb_n]
    simp only [bs]
    rw [tb_n, p_columnOf ha, p_columnOf hb]
    simp only [bs, fa_lit]
  by_cases c : a / 4 = b / 4
  · simp only [if_pos c] at hk
    cases hk
    refine ⟨hw, Or.inl ⟨rfl, eIA, ?_, TE2⟩⟩
    rw [hT, if_pos (by rw [c])]
  simp only [if_neg c] at hk
  rcases (width_arg x3).symm with h3 | ⟨w, hw1, hw2, rfl⟩
  · rw [if_pos h3] at hk
    cases hk
    refine ⟨hw, Or.inl ⟨rfl, eIA, ?_, TE2⟩⟩
    rw [hT, if_neg (by rw [eq_nI (by omega) (by omega)]; exact c)]
    by_cases d : x3 < nI 1
    · rw [if_pos d]
    · rw [if_neg d, if_neg (h3.resolve_left d)]
  rw [if_neg (fun z => z.elim (nlt_nI (by omega) (by omega) (by omega)) (fun y => y ((le_nI (by omega) (by omega)).mpr hw2)))] at hk
  by_cases e : 20 ≤ dN E
  · rw [if_pos e] at hk
    cases hk
    refine ⟨hw, Or.inl ⟨rfl, eIS, ?_, TE3⟩⟩
    rw [hT, if_neg (by rw [eq_nI (by omega) (by omega)]; exact c), if_neg (nlt_nI (by omega) (by omega) (by omega)), if_pos ((le_nI (by omega) (by omega)).mpr hw2), if_neg (nlt_nI (by omega) (by omega) (by omega))]
  rw [if_neg e, cl_nI (by omega)] at hk
  cases hk
  have hn : dN E < 20 := by omega
  have hwf := adD_wf hw hn ha hb c hw2
  obtain ⟨fr', to', wd', p1, p2, p3, p4⟩ := p_addRibbon hf hg hd hn a b w
  refine ⟨hwf, Or.inr ⟨?_, ?_⟩⟩
  · obtain ⟨bp, bf, bt, bw, q1, q2⟩ := p_saveA hDc hw ho hh
    refine ⟨fr', to', wd', _, bp, bf, bt, bw, nI (dN E), dT E, ?_, ⟨rfl, rfl, hpl, p2, p3, p4⟩⟩
    unfold f_X6_ribbonA f_X6_ribbonA_b40
    simp only [fa_lit]
    rw [p_checkPost ha, p_checkPost hb]
    simp only [xbs]
    rw [p_columnOf ha, p_columnOf hb]
    simp only [bs]
    rw [if_neg (by rw [eq_nI (by omega) (by omega)]; exact c), if_neg (nlt_nI (by omega) (by omega) (by omega)), if_pos ((le_nI (by omega) (by omega)).mpr hw2), if_pos ((lt_nI (by omega) (by omega)).mpr hn), q1]
    simp only [bs]
    rw [p1]
    simp only [bs]
    rw [pk_sub (by omega), Nat.add_sub_cancel]
    rfl
  · intro cp cf ct cw cn ctr
    obtain ⟨bp, bf, bt, bw, q1, q2⟩ := p_saveB (bp := cp) (bf := cf) (bt := ct) (bw := cw) (bn := cn) (btr := ctr) hDc hw ho hh
    refine ⟨fr', to', wd', _, bp, bf, bt, bw, nI (dN E), dT E, ?_, ⟨rfl, rfl, hpl, p2, p3, p4⟩⟩
    unfold f_X6_ribbonB f_X6_ribbonB_b40
    simp only [fa_lit]
    rw [p_checkPost ha, p_checkPost hb]
    simp only [xbs]
    rw [p_columnOf ha, p_columnOf hb]
    simp only [bs]
    rw [if_neg (by rw [eq_nI (by omega) (by omega)]; exact c), if_neg (nlt_nI (by omega) (by omega) (by omega)), if_pos ((le_nI (by omega) (by omega)).mpr hw2), if_pos ((lt_nI (by omega) (by omega)).mpr hn), q1]
    simp only [bs]
    rw [p1]
    simp only [bs]
    rw [pk_sub (by omega), Nat.add_sub_cancel]
    rfl
theorem ks_widen (hD : DC pl fr to wd n tr E) (hw : WF E) {o h : Nat} (ho : o < 6) (hh : h ≤ 6) {x1 x2 v : Int32} {E' : DR} (hk : f_K_widen E x1 x2 = some (v, E')) :
    WF E' ∧ ((E' = E ∧ ∃ e, f_X6_widenT n x1 x2 = some e ∧ TE v e) ∨
      ((∃ wd' bp bf bt bw bn btr, f_X6_widenA pl fr to n tr x1 x2 wd (nI o) (nI h) = some (.inr (v, wd', nI (nO o h), nI (nH h), bf, bt, bw, bn, btr, bp)) ∧ DC pl fr to wd' n tr E') ∧
       ∀ (cp cf ct cw : Nat → Int32) (cn ctr : Int32), ∃ wd' bp bf bt bw bn btr, f_X6_widenB pl fr to n tr x1 x2 wd (nI o) (nI h) cp cf ct cw cn ctr = some (.inr (v, wd', nI (nO o h), nI (nH h), bp, bf, bt, bw, bn, btr)) ∧ DC pl fr to wd' n tr E')) := by
  have hDc := hD
  obtain ⟨rfl, rfl, hpl, hf, hg, hd⟩ := hD
  have hn20 := hw.1
  unfold f_K_widen at hk
  rcases (arg_lt x1 (dN E) (by omega)).symm with h1 | ⟨r, hr, rfl⟩
  · rw [ar_out h1] at hk
    cases hk
    refine ⟨hw, Or.inl ⟨rfl, eIO, ?_, TE1⟩⟩
    unfold f_X6_widenT
    rw [checkRibbon_out hn20 h1, tb_s]
  rw [ar_in hr (by omega)] at hk
  have hT : f_X6_widenT (nI (dN E)) (nI r) x2 = if x2 < nI 0 then some eIA else if x2 ≤ nI 50 then none else some eIA := by
    unfold f_X6_widenT
    rw [(checkRibbon_in hn20 hr).1, (checkRibbon_in hn20 hr).2.1, tb_n]
    simp only [bs, fa_lit]
  by_cases h2 : x2 < nI 0 ∨ ¬ x2 ≤ nI 50
  · simp only [if_pos h2] at hk
    cases hk
    refine ⟨hw, Or.inl ⟨rfl, eIA, ?_, TE2⟩⟩
    rw [hT]
    by_cases d : x2 < nI 0
    · rw [if_pos d]
    · rw [if_neg d, if_neg (h2.resolve_left d)]
  simp only [if_neg h2] at hk
  rcases (width0_arg x2).symm with ⟨z, -⟩ | ⟨w, hw5, rfl, -⟩
  · exact absurd z h2
  rw [cl_nI (by omega)] at hk
  cases hk
  have hwf := setW_wf (r := r) hw hw5
  obtain ⟨wd', p1, p2⟩ := p_setWidth (w := w) hn20 hr hd
  refine ⟨hwf, Or.inr ⟨?_, ?_⟩⟩
  · obtain ⟨bp, bf, bt, bw, q1, q2⟩ := p_saveA hDc hw ho hh
    refine ⟨wd', bp, bf, bt, bw, nI (dN E), dT E, ?_, ⟨rfl, rfl, hpl, hf, hg, p2⟩⟩
    unfold f_X6_widenA f_X6_widenA_b15
    simp only [fa_lit]
    rw [(checkRibbon_in hn20 hr).2.2]
    simp only [xbs]
    rw [if_neg (nlt_nI (by omega) (by omega) (by omega)), if_pos ((le_nI (by omega) (by omega)).mpr hw5), q1]
    simp only [bs]
    rw [p_widthOf hd hn20 hr, p1]
    simp only [bs]
  · intro cp cf ct cw cn ctr
    obtain ⟨bp, bf, bt, bw, q1, q2⟩ := p_saveB (bp := cp) (bf := cf) (bt := ct) (bw := cw) (bn := cn) (btr := ctr) hDc hw ho hh
    refine ⟨wd', bp, bf, bt, bw, nI (dN E), dT E, ?_, ⟨rfl, rfl, hpl, hf, hg, p2⟩⟩
    unfold f_X6_widenB f_X6_widenB_b15
    simp only [fa_lit]
    rw [(checkRibbon_in hn20 hr).2.2]
    simp only [xbs]
    rw [if_neg (nlt_nI (by omega) (by omega) (by omega)), if_pos ((le_nI (by omega) (by omega)).mpr hw5), q1]
    simp only [bs]
    rw [p_widthOf hd hn20 hr, p1]
    simp only [bs]
theorem ks_remove (hD : DC pl fr to wd n tr E) (hw : WF E) {o h : Nat} (ho : o < 6) (hh : h ≤ 6) {x1 v : Int32} {E' : DR} (hk : f_K_remove E x1 = some (v, E')) :
    WF E' ∧ ((E' = E ∧ ∃ e, f_X6_removeT n x1 = some e ∧ (v = -nI 31 ∧ e = eIO)) ∨
      ((∃ fr' to' wd' n' bp bf bt bw bn btr, f_X6_removeA pl tr x1 fr to wd n (nI o) (nI h) = some (.inr (v, fr', to', wd', n', nI (nO o h), nI (nH h), bf, bt, bw, bn, btr, bp)) ∧ DC pl fr' to' wd' n' tr E') ∧
       ∀ (cp cf ct cw : Nat → Int32) (cn ctr : Int32), ∃ fr' to' wd' n' bp bf bt bw bn btr, f_X6_removeB pl tr x1 fr to wd n (nI o) (nI h) cp cf ct cw cn ctr = some (.inr (v, fr', to', wd', n', nI (nO o h), nI (nH h), bp, bf, bt, bw, bn, btr)) ∧ DC pl fr' to' wd' n' tr E')) := by
  have hDc := hD
  obtain ⟨rfl, rfl, hpl, hf, hg, hd⟩ := hD
  have hn20 := hw.1
  unfold f_K_remove at hk
  rcases (arg_lt x1 (dN E) (by omega)).symm with h1 | ⟨r, hr, rfl⟩
  · rw [ar_out h1] at hk
    cases hk
    refine ⟨hw, Or.inl ⟨rfl, eIO, ?_, rfl, rfl⟩⟩
    unfold f_X6_removeT
    rw [checkRibbon_out hn20 h1, tb_s]
  rw [ar_in hr (by omega)] at hk
  cases hk
  have hwf := rmD_wf hw hr
  obtain ⟨fr', to', wd', p1, p2, p3, p4⟩ := p_dropRibbon hf hg hd hw hr
  refine ⟨hwf, Or.inr ⟨?_, ?_⟩⟩
  · obtain ⟨bp, bf, bt, bw, q1, q2⟩ := p_saveA hDc hw ho hh
    refine ⟨fr', to', wd', _, bp, bf, bt, bw, nI (dN E), dT E, ?_, ⟨rfl, rfl, hpl, p2, p3, p4⟩⟩
    unfold f_X6_removeA
    rw [(checkRibbon_in hn20 hr).2.2]
    simp only [xbs]
    rw [q1]
    simp only [bs]
    rw [p_widthOf hd hn20 hr]
    simp only [bs]
    rw [p1]
    simp only [bs]
    rfl
  · intro cp cf ct cw cn ctr
    obtain ⟨bp, bf, bt, bw, q1, q2⟩ := p_saveB (bp := cp) (bf := cf) (bt := ct) (bw := cw) (bn := cn) (btr := ctr) hDc hw ho hh
    refine ⟨fr', to', wd', _, bp, bf, bt, bw, nI (dN E), dT E, ?_, ⟨rfl, rfl, hpl, p2, p3, p4⟩⟩
    unfold f_X6_removeB
    rw [(checkRibbon_in hn20 hr).2.2]
    simp only [xbs]
    rw [q1]
    simp only [bs]
    rw [p_widthOf hd hn20 hr]
    simp only [bs]
    rw [p1]
    simp only [bs]
    rfl
theorem ks_swap (hD : DC pl fr to wd n tr E) (hw : WF E) {o h : Nat} (ho : o < 6) (hh : h ≤ 6) {x1 x2 v : Int32} {E' : DR} (hk : f_K_swap E x1 x2 = some (v, E')) :
    WF E' ∧ ((E' = E ∧ ∃ e, f_X6_swapT x1 x2 = some e ∧ TE v e) ∨
      ((∃ pl' bp bf bt bw bn btr, f_X6_swapA fr to wd n tr x1 x2 pl (nI o) (nI h) = some (.inr (v, pl', nI (nO o h), nI (nH h), bf, bt, bw, bn, btr, bp)) ∧ DC pl' fr to wd n tr E') ∧
       ∀ (cp cf ct cw : Nat → Int32) (cn ctr : Int32), ∃ pl' bp bf bt bw bn btr, f_X6_swapB fr to wd n tr x1 x2 pl (nI o) (nI h) cp cf ct cw cn ctr = some (.inr (v, pl', nI (nO o h), nI (nH h), bp, bf, bt, bw, bn, btr)) ∧ DC pl' fr to wd n tr E')) := by
  have hDc := hD
  obtain ⟨rfl, rfl, hpl, hf, hg, hd⟩ := hD
  have hn20 := hw.1
  unfold f_K_swap at hk
  rcases (arg_lt x1 16 (by omega)).symm with h1 | ⟨a, ha, rfl⟩
  · rw [ar_out h1] at hk
    cases hk
    refine ⟨hw, Or.inl ⟨rfl, eIO, ?_, TE1⟩⟩
    unfold f_X6_swapT
    rw [checkPair_x1 h1, tb_s]
  rcases (arg_lt x2 16 (by omega)).symm with h2 | ⟨b, hb, rfl⟩
  · rw [ar_out h2, ar_in ha (by omega)] at hk
    cases hk
    refine ⟨hw, Or.inl ⟨rfl, eIO, ?_, TE1⟩⟩
    unfold f_X6_swapT
    rw [checkPair_x2 ha h2, tb_s]
  rw [ar_in ha (by omega), ar_in hb (by omega)] at hk
  by_cases c1 : a = b
  · simp only [if_pos c1] at hk
    cases hk
    refine ⟨hw, Or.inl ⟨rfl, eIA, ?_, TE2⟩⟩
    unfold f_X6_swapT
    rw [checkPair_ab ha hb, if_pos c1, tb_s]
  simp only [if_neg c1] at hk
  by_cases c2 : a / 4 = b / 4
  rotate_left
  · rw [if_neg c2] at hk
    cases hk
    refine ⟨hw, Or.inl ⟨rfl, eIA, ?_, TE2⟩⟩
    unfold f_X6_swapT
    rw [checkPair_ab ha hb, if_neg c1, if_neg c2, tb_s]
  rw [if_pos c2] at hk
  cases hk
  have hwf := exP_wf hw ha hb c2
  obtain ⟨pl', p1, p2⟩ := p_exchange hpl ha hb
  have hx9 : f_X1_allCrossings pl' fr to wd (nI (dN E)) = some (nI (xAll (exP E a b))) := p_allCrossings (D := exP E a b) p2 hf hg hd hwf
  refine ⟨hwf, Or.inr ⟨?_, ?_⟩⟩
  · obtain ⟨bp, bf, bt, bw, q1, q2⟩ := p_saveA hDc hw ho hh
    refine ⟨pl', bp, bf, bt, bw, nI (dN E), dT E, ?_, ⟨rfl, rfl, p2, hf, hg, hd⟩⟩
    unfold f_X6_swapA
    rw [p_checkPair ha hb c2 c1]
    simp only [xbs]
    rw [q1]
    simp only [bs]
    rw [p1]
    simp only [bs]
    rw [hx9]
    simp only [bs]
  · intro cp cf ct cw cn ctr
    obtain ⟨bp, bf, bt, bw, q1, q2⟩ := p_saveB (bp := cp) (bf := cf) (bt := ct) (bw := cw) (bn := cn) (btr := ctr) hDc hw ho hh
    refine ⟨pl', bp, bf, bt, bw, nI (dN E), dT E, ?_, ⟨rfl, rfl, p2, hf, hg, hd⟩⟩
    unfold f_X6_swapB
    rw [p_checkPair ha hb c2 c1]
    simp only [xbs]
    rw [q1]
    simp only [bs]
    rw [p1]
    simp only [bs]
    rw [hx9]
    simp only [bs]
theorem ks_trim (hD : DC pl fr to wd n tr E) (hw : WF E) {o h : Nat} (ho : o < 6) (hh : h ≤ 6) {x1 v : Int32} {E' : DR} (hk : f_K_trim E x1 = some (v, E')) :
    WF E' ∧ ((E' = E ∧ ∃ e, f_X6_trimT x1 = some e ∧ (v = -nI 31 ∧ e = eIO)) ∨
      ((∃ wd' tr' bp bf bt bw bn btr, f_X6_trimA pl fr to n x1 wd tr (nI o) (nI h) = some (.inr (v, wd', tr', nI (nO o h), nI (nH h), bf, bt, bw, bn, btr, bp)) ∧ DC pl fr to wd' n tr' E') ∧
       ∀ (cp cf ct cw : Nat → Int32) (cn ctr : Int32), ∃ wd' tr' bp bf bt bw bn btr, f_X6_trimB pl fr to n x1 wd tr (nI o) (nI h) cp cf ct cw cn ctr = some (.inr (v, wd', tr', nI (nO o h), nI (nH h), bp, bf, bt, bw, bn, btr)) ∧ DC pl fr to wd' n tr' E')) := by
  have hDc := hD
  obtain ⟨rfl, rfl, hpl, hf, hg, hd⟩ := hD
  have hn20 := hw.1
  unfold f_K_trim at hk
  have bad : (x1 < nI 4 ∨ nI 12 ≤ x1) → f_X6_trimT x1 = some eIO := by
    intro h1
    unfold f_X6_trimT
    rw [inner_out h1]
    simp only [bs, fa_lit]
    rw [if_pos trivial]
  rcases (arg_lt x1 16 (by omega)).symm with h1 | ⟨p, hp, rfl⟩
  · rw [ar_out h1] at hk
    cases hk
    refine ⟨hw, Or.inl ⟨rfl, eIO, bad ?_, rfl, rfl⟩⟩
    rcases h1 with h1 | h1
    · left
      rw [i_lt (by omega)] at h1 ⊢
      omega
    · right
      rw [i_ge (by omega)] at h1 ⊢
      omega
  rw [ar_in hp (by omega)] at hk
  by_cases c : 4 ≤ p ∧ p < 12
  rotate_left
  · simp only [if_neg c] at hk
    cases hk
    refine ⟨hw, Or.inl ⟨rfl, eIO, bad ?_, rfl, rfl⟩⟩
    by_cases d : p < 4
    · exact Or.inl ((lt_nI (by omega) (by omega)).mpr d)
    · exact Or.inr ((le_nI (by omega) (by omega)).mpr (by omega))
  simp only [if_pos c] at hk
  cases hk
  have h1 : f_X6_isInner (nI p) = some (nI 1) := by rw [p_isInner (by omega), decide_eq_true c]; rfl
  obtain ⟨hwf, e1, e2, e3, e4⟩ := trD_wf hw p
  obtain ⟨wd', p1, p2⟩ := p_trimPost hf hg hd hw hp
  have hDC : DC pl fr to wd' (nI (dN E)) (dT (trD E p)) (trD E p) := ⟨by rw [e1], rfl, by rw [e4]; exact hpl, by rw [e2, e1]; exact hf, by rw [e3, e1]; exact hg, by rw [e1]; exact p2⟩
  refine ⟨hwf, Or.inr ⟨?_, ?_⟩⟩
  · obtain ⟨bp, bf, bt, bw, q1, q2⟩ := p_saveA hDc hw ho hh
    refine ⟨wd', _, bp, bf, bt, bw, nI (dN E), dT E, ?_, hDC⟩
    unfold f_X6_trimA
    rw [h1]
    simp only [bs, fa_lit]
    rw [if_neg (by decide), q1]
    simp only [bs]
    rw [p1]
    simp only [bs]
  · intro cp cf ct cw cn ctr
    obtain ⟨bp, bf, bt, bw, q1, q2⟩ := p_saveB (bp := cp) (bf := cf) (bt := ct) (bw := cw) (bn := cn) (btr := ctr) hDc hw ho hh
    refine ⟨wd', _, bp, bf, bt, bw, nI (dN E), dT E, ?_, hDC⟩
    unfold f_X6_trimB
    rw [h1]
    simp only [bs, fa_lit]
    rw [if_neg (by decide), q1]
    simp only [bs]
    rw [p1]
    simp only [bs]
theorem ks_order (hD : DC pl fr to wd n tr E) (hw : WF E) {o h : Nat} (ho : o < 6) (hh : h ≤ 6) {x1 v : Int32} {E' : DR} (hk : f_K_order E x1 = some (v, E')) (g1 g2 g3 : Nat → Int32) :
    WF E' ∧ ((E' = E ∧ ∃ e, f_X6_orderT x1 = some e ∧ (v = -nI 31 ∧ e = eIO)) ∨
      ((∃ pl' g1' g2' g3' bp bf bt bw bn btr, f_X6_orderA fr to wd n tr x1 pl (nI o) (nI h) g1 g2 g3 = some (.inr (v, pl', nI (nO o h), nI (nH h), g1', g2', g3', bf, bt, bw, bn, btr, bp)) ∧ DC pl' fr to wd n tr E') ∧
       ∀ (cp cf ct cw : Nat → Int32) (cn ctr : Int32), ∃ pl' g1' g2' g3' bp bf bt bw bn btr, f_X6_orderB fr to wd n tr x1 pl (nI o) (nI h) g1 g2 g3 cp cf ct cw cn ctr = some (.inr (v, pl', nI (nO o h), nI (nH h), g1', g2', g3', bp, bf, bt, bw, bn, btr)) ∧ DC pl' fr to wd n tr E')) := by
  have hDc := hD
  obtain ⟨rfl, rfl, hpl, hf, hg, hd⟩ := hD
  have hn20 := hw.1
  unfold f_K_order at hk
  rcases (arg_lt x1 4 (by omega)).symm with h1 | ⟨c, hc, rfl⟩
  · rw [ar_out h1] at hk
    cases hk
    refine ⟨hw, Or.inl ⟨rfl, eIO, ?_, rfl, rfl⟩⟩
    unfold f_X6_orderT
    rw [checkColumn_out h1, tb_s]
  rw [ar_in hc (by omega)] at hk
  cases hk
  obtain ⟨b1, b2⟩ := bO_ok hw c
  have hwf := orD_wf (c := c) hw b1 b2
  obtain ⟨g1', g2', g3', p1, p2⟩ := p_best hpl hf hg hd hw hc g1 g2 g3
  obtain ⟨pl', p3, p4⟩ := p_putBest hc hpl b1 b2 p2
  have hx9 : f_X1_allCrossings pl' fr to wd (nI (dN E)) = some (nI (xAll (orD E c (bO E c)))) := p_allCrossings (D := orD E c (bO E c)) p4 hf hg hd hwf
  refine ⟨hwf, Or.inr ⟨?_, ?_⟩⟩
  · obtain ⟨bp, bf, bt, bw, q1, q2⟩ := p_saveA hDc hw ho hh
    refine ⟨pl', g1', g2', g3', bp, bf, bt, bw, nI (dN E), dT E, ?_, ⟨rfl, rfl, p4, hf, hg, hd⟩⟩
    unfold f_X6_orderA
    rw [p_checkColumn hc]
    simp only [xbs]
    rw [q1]
    simp only [bs]
    rw [p1]
    simp only [bs]
    rw [p3]
    simp only [bs]
    rw [hx9]
    simp only [bs]
  · intro cp cf ct cw cn ctr
    obtain ⟨bp, bf, bt, bw, q1, q2⟩ := p_saveB (bp := cp) (bf := cf) (bt := ct) (bw := cw) (bn := cn) (btr := ctr) hDc hw ho hh
    refine ⟨pl', g1', g2', g3', bp, bf, bt, bw, nI (dN E), dT E, ?_, ⟨rfl, rfl, p4, hf, hg, hd⟩⟩
    unfold f_X6_orderB
    rw [p_checkColumn hc]
    simp only [xbs]
    rw [q1]
    simp only [bs]
    rw [p1]
    simp only [bs]
    rw [p3]
    simp only [bs]
    rw [hx9]
    simp only [bs]
theorem ks_sweep (hD : DC pl fr to wd n tr E) (hw : WF E) {o h : Nat} (ho : o < 6) (hh : h ≤ 6) {v : Int32} {E' : DR} (hk : f_K_sweep E = some (v, E')) (g1 g2 g3 : Nat → Int32) :
    WF E' ∧ ((∃ pl' g1' g2' g3' bp bf bt bw bn btr, f_X6_sweepA fr to wd n tr pl (nI o) (nI h) g1 g2 g3 = some (v, pl', nI (nO o h), nI (nH h), g1', g2', g3', bf, bt, bw, bn, btr, bp) ∧ DC pl' fr to wd n tr E') ∧
       ∀ (cp cf ct cw : Nat → Int32) (cn ctr : Int32), ∃ pl' g1' g2' g3' bp bf bt bw bn btr, f_X6_sweepB fr to wd n tr pl (nI o) (nI h) g1 g2 g3 cp cf ct cw cn ctr = some (v, pl', nI (nO o h), nI (nH h), g1', g2', g3', bp, bf, bt, bw, bn, btr) ∧ DC pl' fr to wd n tr E') := by
  have hDc := hD
  obtain ⟨rfl, rfl, hpl, hf, hg, hd⟩ := hD
  unfold f_K_sweep at hk
  cases hk
  have hwf := swA_wf hw
  obtain ⟨g1', g2', g3', pl', p1, p2⟩ := p_sweepColumns (s := g1) (m := g2) (row := g3) hf hg hw hpl
  have hx9 : f_X1_allCrossings pl' fr to wd (nI (dN E)) = some (nI (xAll (swA E))) := p_allCrossings (D := swA E) p2 hf hg hd hwf
  refine ⟨hwf, ?_, ?_⟩
  · obtain ⟨bp, bf, bt, bw, q1, q2⟩ := p_saveA hDc hw ho hh
    refine ⟨pl', g1', g2', g3', bp, bf, bt, bw, nI (dN E), dT E, ?_, ⟨rfl, rfl, p2, hf, hg, hd⟩⟩
    unfold f_X6_sweepA
    rw [q1]
    simp only [bs]
    rw [p1]
    simp only [bs]
    rw [hx9]
    simp only [bs]
  · intro cp cf ct cw cn ctr
    obtain ⟨bp, bf, bt, bw, q1, q2⟩ := p_saveB (bp := cp) (bf := cf) (bt := ct) (bw := cw) (bn := cn) (btr := ctr) hDc hw ho hh
    refine ⟨pl', g1', g2', g3', bp, bf, bt, bw, nI (dN E), dT E, ?_, ⟨rfl, rfl, p2, hf, hg, hd⟩⟩
    unfold f_X6_sweepB
    rw [q1]
    simp only [bs]
    rw [p1]
    simp only [bs]
    rw [hx9]
    simp only [bs]
theorem ks_settle (hD : DC pl fr to wd n tr E) (hw : WF E) {o h : Nat} (ho : o < 6) (hh : h ≤ 6) {v : Int32} {E' : DR} (hk : f_K_settle E = some (v, E')) :
    WF E' ∧ ((∃ wd' tr' bp bf bt bw bn btr, f_X6_settleA pl fr to n wd tr (nI o) (nI h) = some (v, wd', tr', nI (nO o h), nI (nH h), bf, bt, bw, bn, btr, bp) ∧ DC pl fr to wd' n tr' E') ∧
       ∀ (cp cf ct cw : Nat → Int32) (cn ctr : Int32), ∃ wd' tr' bp bf bt bw bn btr, f_X6_settleB pl fr to n wd tr (nI o) (nI h) cp cf ct cw cn ctr = some (v, wd', tr', nI (nO o h), nI (nH h), bp, bf, bt, bw, bn, btr) ∧ DC pl fr to wd' n tr' E') := by
  have hDc := hD
  obtain ⟨rfl, rfl, hpl, hf, hg, hd⟩ := hD
  unfold f_K_settle at hk
  cases hk
  obtain ⟨hwf, e1, e2, e3, e4, -, -, -, s1, -⟩ := st_spec hw
  obtain ⟨wd', p1, p2⟩ := s1 fr to wd hf hg hd
  have hDC : DC pl fr to wd' (nI (dN E)) (dT (stE E)) (stE E) := ⟨by rw [e1], rfl, by rw [e4]; exact hpl, by rw [e2, e1]; exact hf, by rw [e3, e1]; exact hg, by rw [e1]; exact p2⟩
  refine ⟨hwf, ?_, ?_⟩
  · obtain ⟨bp, bf, bt, bw, q1, q2⟩ := p_saveA hDc hw ho hh
    refine ⟨wd', _, bp, bf, bt, bw, nI (dN E), dT E, ?_, hDC⟩
    unfold f_X6_settleA
    rw [q1]
    simp only [bs]
    rw [p1]
    simp only [bs]
  · intro cp cf ct cw cn ctr
    obtain ⟨bp, bf, bt, bw, q1, q2⟩ := p_saveB (bp := cp) (bf := cf) (bt := ct) (bw := cw) (bn := cn) (btr := ctr) hDc hw ho hh
    refine ⟨wd', _, bp, bf, bt, bw, nI (dN E), dT E, ?_, hDC⟩
    unfold f_X6_settleB
    rw [q1]
    simp only [bs]
    rw [p1]
    simp only [bs]
end
