/-! ===== the class: the costs of a column ===== -/
def k1 (D : DR) (c r q k : Nat) : Nat := if jn D q (dF D r / 4) (dG D r / 4) = true ∧ dP D (dG D q) < dP D (dG D r) ∧ dF D r = c * 4 + k / 4 ∧ dF D q = c * 4 + k % 4 then wmin D r q else 0
def k2 (D : DR) (c r q k : Nat) : Nat := if jn D q (dF D r / 4) (dG D r / 4) = true ∧ dP D (dF D q) < dP D (dF D r) ∧ dG D r = c * 4 + k / 4 ∧ dG D q = c * 4 + k % 4 then wmin D r q else 0
theorem p_addTo {x y w c : Nat} (co : Nat → Int32) (hc : c < 4) (hx : x / 4 = c) (hy : y / 4 = c) : f_X2_addTo (nI x - nI (c * 4)) (nI y - nI (c * 4)) (nI w) co = some (upd co (x % 4 * 4 + y % 4) (co (x % 4 * 4 + y % 4) + nI w)) := by
  have e1 : nI x - nI (c * 4) = nI (x % 4) := by rw [pk_sub (by omega)]; exact congrArg nI (by omega)
  have e2 : nI y - nI (c * 4) = nI (y % 4) := by rw [pk_sub (by omega)]; exact congrArg nI (by omega)
  unfold f_X2_addTo
  rw [e1, e2, isNum (by omega), isNum (by omega), decide_eq_true (by omega), decide_eq_true (by omega)]
  simp only [bs, fa_lit, bI_0, nme]
  rw [if_neg (by decide), if_neg (by decide), pk_mul, nI_step]
  simp only [if_pos (gd_nI (show x % 4 * 4 + y % 4 < 16 by omega) (show x % 4 * 4 + y % 4 < 2147483648 by omega))]
  rw [cl_nI (by omega)]
theorem ite_nI {a b : Nat} (ha : a < 1000) (hb : b < 1000) : (if nI a < nI b then nI a else nI b) = nI (if a < b then a else b) := by
  by_cases h : a < b
  · rw [if_pos h, if_pos ((lt_nI (by omega) (by omega)).mpr h)]
  · rw [if_neg h, if_neg (nlt_nI (by omega) (by omega) (by omega))]
/-- a row of sixteen, one of them more by w -/
theorem add16 {co : Nat → Int32} {C K : Nat → Nat} {i w : Nat} (h : ∀ k, k < 16 → co k = nI (C k)) (hi : i < 16) (hk : ∀ k, k < 16 → K k = if k = i then w else 0) : ∀ k, k < 16 → upd co i (co i + nI w) k = nI (C k + K k) := by
  intro k hk2
  rw [hk k hk2]
  by_cases e : k = i
  · rw [if_pos e, e, upd_q, h i hi, nI_step]
  · rw [if_neg e, upd_w e, h k hk2, Nat.add_zero]
theorem jn_cols {D : DR} {r q : Nat} (h : jn D q (dF D r / 4) (dG D r / 4) = true) : dF D r / 4 < dG D r / 4 ∧ dF D q / 4 = dF D r / 4 ∧ dG D q / 4 = dG D r / 4 := by
  unfold jn at h
  rw [Bool.and_eq_true, Bool.and_eq_true] at h
  exact ⟨of_decide_eq_true h.1.1, of_decide_eq_true h.1.2, of_decide_eq_true h.2⟩
theorem p_addCost2 {pl fr to wd : Nat → Int32} {D : DR} (hp : RR pl (dP D) 16) (hw : WF D) {c r q : Nat} (hc : c < 4) (hr : r < dN D) (hq : q < dN D) (hj : jn D q (dF D r / 4) (dG D r / 4) = true) {co : Nat → Int32} {C : Nat → Nat} (h : ∀ k, k < 16 → co k = nI (C k)) (x3 x4 : Int32) :
    ∃ co', f_X2_addCost_b108 pl fr to wd (nI c) x3 x4 (nI (dF D r)) (nI (dG D r)) (nI (dF D q)) (nI (dG D q)) (nI (wmin D r q)) co = some co' ∧ ∀ k, k < 16 → co' k = nI (C k + k2 D c r q k) := by
  obtain ⟨a1, a2, -, -⟩ := hw.2.2.2 r hr
  obtain ⟨b1, b2, -, -⟩ := hw.2.2.2 q hq
  obtain ⟨j1, j2, j3⟩ := jn_cols hj
  have p1 := hw.2.1 _ a1
  have p2 := hw.2.1 _ b1
  unfold f_X2_addCost_b108
  rw [p_columnOf a2]
  simp only [bs, fa_lit]
  have e := eq_nI (a := dG D r / 4) (b := c) (by omega) (by omega)
  simp only [e]
  by_cases g : dG D r / 4 = c
  · rw [if_pos g, p_placeOf hp a1, p_placeOf hp b1]
    simp only [bs]
    by_cases l : dP D (dF D q) < dP D (dF D r)
    · rw [if_neg (nle_nI (by omega) (by omega) l), pk_mul, p_addTo co hc g (by omega)]
      simp only [bs]
      refine ⟨_, rfl, add16 h (by omega) (fun k hk => ?_)⟩
      unfold k2
      by_cases i : k = dG D r % 4 * 4 + dG D q % 4
      · rw [if_pos i, if_pos ⟨hj, l, by omega, by omega⟩]
      · rw [if_neg i, if_neg (fun x => i (by omega))]
    · rw [if_pos ((le_nI (by omega) (by omega)).mpr (by omega))]
      refine ⟨_, rfl, fun k hk => ?_⟩
      unfold k2
      rw [if_neg (fun x => l x.2.1)]
      exact h k hk
  · rw [if_neg g]
    refine ⟨_, rfl, fun k hk => ?_⟩
    unfold k2
    rw [if_neg (fun x => g (by omega))]
    exact h k hk
theorem p_addCost {pl fr to wd : Nat → Int32} {D : DR} (hp : RR pl (dP D) 16) (hf : RR fr (dF D) (dN D)) (hg : RR to (dG D) (dN D)) (hd : RR wd (dW D) (dN D)) (hw : WF D) {c r q : Nat} (hc : c < 4) (hr : r < dN D) (hq : q < dN D) {co : Nat → Int32} {C : Nat → Nat} (h : ∀ k, k < 16 → co k = nI (C k)) :
    ∃ co', f_X2_addCost pl fr to wd (nI c) (nI r) (nI q) co = some co' ∧ ∀ k, k < 16 → co' k = nI (C k + (k1 D c r q k + k2 D c r q k)) := by
  have hn := hw.1
  obtain ⟨a1, a2, -, a4⟩ := hw.2.2.2 r hr
  obtain ⟨b1, b2, -, b4⟩ := hw.2.2.2 q hq
  have p1 := hw.2.1 _ a2
  have p2 := hw.2.1 _ b2
  unfold f_X2_addCost
  rw [p_fromOf hf hn hr, p_toOf hg hn hr]
  simp only [bs]
  rw [p_columnOf a1, p_columnOf a2]
  simp only [bs]
  rw [p_joins hf hg hw hq (by omega) (by omega)]
  simp only [bs, fa_lit, bI_0, nme]
  by_cases hj : jn D q (dF D r / 4) (dG D r / 4) = true
  · obtain ⟨j1, j2, j3⟩ := jn_cols hj
    rw [if_neg (by rw [hj]; decide), p_fromOf hf hn hq, p_toOf hg hn hq, p_widthOf hd hn hr, p_widthOf hd hn hq]
    simp only [bs]
    rw [ite_nI (by omega) (by omega), show (if dW D q < dW D r then dW D q else dW D r) = wmin D r q from rfl]
    have e := eq_nI (a := dF D r / 4) (b := c) (by omega) (by omega)
    simp only [e]
    have un : ∀ {co2 : Nat → Int32}, (∀ k, k < 16 → co2 k = nI (C k + k1 D c r q k)) → ∃ co', f_X2_addCost_b108 pl fr to wd (nI c) (nI r) (nI q) (nI (dF D r)) (nI (dG D r)) (nI (dF D q)) (nI (dG D q)) (nI (wmin D r q)) co2 = some co' ∧ ∀ k, k < 16 → co' k = nI (C k + (k1 D c r q k + k2 D c r q k)) := by
      intro co2 h2
      obtain ⟨co', e1, e2⟩ := p_addCost2 (fr := fr) (to := to) (wd := wd) hp hw hc hr hq hj h2 (nI r) (nI q)
      exact ⟨co', e1, fun k hk => by rw [e2 k hk, Nat.add_assoc]⟩
    by_cases g : dF D r / 4 = c
    · rw [if_pos g, p_placeOf hp a2, p_placeOf hp b2]
      simp only [bs]
      by_cases l : dP D (dG D q) < dP D (dG D r)
      · rw [if_neg (nle_nI (by omega) (by omega) l), pk_mul, p_addTo co hc g (by omega)]
        simp only [bs]
        refine un (add16 h (by omega) (fun k hk => ?_))
        unfold k1
        by_cases i : k = dF D r % 4 * 4 + dF D q % 4
        · rw [if_pos i, if_pos ⟨hj, l, by omega, by omega⟩]
        · rw [if_neg i, if_neg (fun x => i (by omega))]
      · rw [if_pos ((le_nI (by omega) (by omega)).mpr (by omega))]
        refine un (fun k hk => ?_)
        unfold k1
        rw [if_neg (fun x => l x.2.1)]
        exact h k hk
    · rw [if_neg g]
      refine un (fun k hk => ?_)
      unfold k1
      rw [if_neg (fun x => g (by omega))]
      exact h k hk
  · rw [if_pos (by simpa using hj)]
    refine ⟨_, rfl, fun k hk => ?_⟩
    unfold k1 k2
    rw [if_neg (fun x => hj x.1), if_neg (fun x => hj x.1)]
    exact h k hk
/-- what stands in the row of costs at k -/
def cK (D : DR) (c k : Nat) : Nat := sN (fun r => sN (fun q => k1 D c r q k + k2 D c r q k) (dN D)) (dN D)
theorem p_findCosts {pl fr to wd : Nat → Int32} {D : DR} (hp : RR pl (dP D) 16) (hf : RR fr (dF D) (dN D)) (hg : RR to (dG D) (dN D)) (hd : RR wd (dW D) (dN D)) (hw : WF D) {c : Nat} (hc : c < 4) (co : Nat → Int32) :
    ∃ co', f_X2_findCosts pl fr to wd (nI (dN D)) (nI c) co = some co' ∧ ∀ k, k < 16 → co' k = nI (cK D c k) := by
  have hn := hw.1
  obtain ⟨co0, e0, h0⟩ := p_fill 16 (nI 0) co (by omega)
  have h := loopI (fun F i x => f_X2_findCosts_b10 pl fr to wd (nI (dN D)) (nI c) F i x) some (fun i x => ∀ k, k < 16 → x k = nI (sN (fun r => sN (fun q => k1 D c r q k + k2 D c r q k) (dN D)) i)) (dN D)
    (fun F i x hi hI => ?_) (fun F x _ => ?_) (dN D) 0 FU co0 (by omega) (FU_big (by omega)) h0
  · obtain ⟨co', e1, e2⟩ := h
    refine ⟨co', ?_, e2⟩
    unfold f_X2_findCosts
    simp only [fa_lit]
    rw [e0]
    simp only [bs]
    exact e1
  · have g := loopI (fun G j y => f_X2_findCosts_b21 pl fr to wd (nI (dN D)) (nI c) (f_X2_findCosts_b10 pl fr to wd (nI (dN D)) (nI c) F) G (nI i) j y) (fun y => f_X2_findCosts_b10 pl fr to wd (nI (dN D)) (nI c) F (nI (i + 1)) y)
      (fun j y => ∀ k, k < 16 → y k = nI (sN (fun r => sN (fun q => k1 D c r q k + k2 D c r q k) (dN D)) i + sN (fun q => k1 D c i q k + k2 D c i q k) j)) (dN D) (fun G j y hj hJ => ?_) (fun G y _ => ?_) (dN D) 0 FU x (by omega) (FU_big (by omega)) hI
    · obtain ⟨x', e1, e2⟩ := g
      refine ⟨x', ?_, e2⟩
      refine Eq.trans ?_ e1
      show f_X2_findCosts_b10 pl fr to wd (nI (dN D)) (nI c) (F + 1) (nI i) x = _
      simp only [f_X2_findCosts_b10, fa_lit]
      rw [if_neg (nle_nI (by omega) (by omega) hi)]
    · obtain ⟨y', e1, e2⟩ := p_addCost hp hf hg hd hw hc hi hj hJ
      refine ⟨y', ?_, fun k hk => ?_⟩
      · show f_X2_findCosts_b21 pl fr to wd (nI (dN D)) (nI c) _ (G + 1) (nI i) (nI j) y = _
        simp only [f_X2_findCosts_b21, fa_lit, nme]
        rw [if_neg (nle_nI (by omega) (by omega) hj), e1]
        simp only [bs]
        rw [nI_step]
      · rw [e2 k hk, Nat.add_assoc]
        rfl
    · show f_X2_findCosts_b21 pl fr to wd (nI (dN D)) (nI c) _ (G + 1) (nI i) (nI (dN D)) y = _
      simp only [f_X2_findCosts_b21, fa_lit, nme]
      rw [if_pos ((le_nI (by omega) (by omega)).mpr (Nat.le_refl _)), nI_step]
  · show f_X2_findCosts_b10 pl fr to wd (nI (dN D)) (nI c) (F + 1) (nI (dN D)) x = _
    simp only [f_X2_findCosts_b10, fa_lit, nme]
    rw [if_pos ((le_nI (by omega) (by omega)).mpr (Nat.le_refl _))]
