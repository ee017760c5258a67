/-! ===== trimming a post: both sides ===== -/
def tI (D : DR) (p : Nat) (b : Bool) (i : Nat) : DR := itr (fun _ X => t1 p b X) D i
theorem tI_facts {D : DR} (hw : WF D) (p : Nat) (b : Bool) : ∀ i, i ≤ sSum D p b → WF (tI D p b i) ∧ dN (tI D p b i) = dN D ∧ dF (tI D p b i) = dF D ∧ dG (tI D p b i) = dG D ∧ dP (tI D p b i) = dP D ∧ dT (tI D p b i) = dT D ∧ sSum (tI D p b i) p b + i = sSum D p b ∧ sSum (tI D p b i) p (!b) = sSum D p (!b) := by
  intro i
  induction i with
  | zero => intro _; exact ⟨hw, rfl, rfl, rfl, rfl, rfl, rfl, rfl⟩
  | succ i ih =>
    intro hi
    obtain ⟨a1, a2, a3, a4, a5, a6, a7, a8⟩ := ih (by omega)
    obtain ⟨b1, b2, b3, b4, b5, b6, b7, b8⟩ := t1_facts a1 (p := p) (b := b) (by omega)
    have e : tI D p b (i + 1) = t1 p b (tI D p b i) := rfl
    rw [e]
    exact ⟨b1, b2.trans a2, b3.trans a3, b4.trans a4, b5.trans a5, b6.trans a6, by omega, b8.trans a8⟩
def setT (D : DR) (t : Int32) : DR := (D.1, t, D.2.2)
def trB (D : DR) (p : Nat) : Bool := decide (leav D p < comes D p)
def trK (D : DR) (p : Nat) : Nat := if leav D p < comes D p then comes D p - leav D p else leav D p - comes D p
def trD (D : DR) (p : Nat) : DR := setT (tI D p (trB D p) (trK D p)) (dT D + nI (trK D p))
theorem trK_le (D : DR) (p : Nat) : trK D p ≤ sSum D p (trB D p) := by
  unfold trK trB
  by_cases c : leav D p < comes D p
  · rw [if_pos c, decide_eq_true c, sSum_t]; omega
  · rw [if_neg c, decide_eq_false c, sSum_f]; omega
theorem trD_wf {D : DR} (hw : WF D) (p : Nat) : WF (trD D p) ∧ dN (trD D p) = dN D ∧ dF (trD D p) = dF D ∧ dG (trD D p) = dG D ∧ dP (trD D p) = dP D := by
  obtain ⟨a1, a2, a3, a4, a5, -⟩ := tI_facts hw p (trB D p) (trK D p) (trK_le D p)
  exact ⟨a1, a2, a3, a4, a5⟩
theorem trD_even {D : DR} (hw : WF D) (p : Nat) : comes (trD D p) p = leav (trD D p) p := by
  obtain ⟨-, -, -, -, -, -, a7, a8⟩ := tI_facts hw p (trB D p) (trK D p) (trK_le D p)
  have e1 : comes (trD D p) p = sSum (tI D p (trB D p) (trK D p)) p true := (sSum_t _ p).symm
  have e2 : leav (trD D p) p = sSum (tI D p (trB D p) (trK D p)) p false := (sSum_f _ p).symm
  rw [e1, e2]
  unfold trB trK at *
  by_cases c : leav D p < comes D p
  · simp only [decide_eq_true c, if_pos c, Bool.not_true] at a7 a8 ⊢
    rw [sSum_t D p] at a7; rw [sSum_f D p] at a8; omega
  · simp only [decide_eq_false c, if_neg c, Bool.not_false] at a7 a8 ⊢
    rw [sSum_f D p] at a7; rw [sSum_t D p] at a8; omega
theorem sub_leG {a b : Nat} (ha : a < 1000000) (hb : b < 1000000) : (nI a - nI b ≤ nI 0) ↔ a ≤ b := by
  rw [Int32.le_iff_toInt_le, pk_sub_toInt (by omega) (by omega), nI_toInt (by omega)]; omega
theorem sub_geG {a b : Nat} (ha : a < 1000000) (hb : b < 1000000) : (nI 0 ≤ nI a - nI b) ↔ b ≤ a := by
  rw [Int32.le_iff_toInt_le, pk_sub_toInt (by omega) (by omega), nI_toInt (by omega)]; omega
theorem RR_upd {f : Nat → Int32} {g g' : Nat → Nat} {n r : Nat} {v : Int32} (h : RR f g n) (hv : v = nI (g' r)) (ho : ∀ k, k < n → k ≠ r → g' k = g k) : RR (upd f r v) g' n := by
  intro k hk
  unfold upd
  by_cases c : k = r
  · rw [if_pos c, c, hv]
  · rw [if_neg c, h k hk, ho k hk c]
theorem p_setWidth {wd : Nat → Int32} {g : Nat → Nat} {n r w : Nat} (hn : n ≤ 20) (hr : r < n) (h : RR wd g n) : ∃ wd', f_X1_setWidth (nI n) (nI r) (nI w) wd = some wd' ∧ RR wd' (fun k => if k = r then w else g k) n := by
  refine ⟨upd wd r (nI w), ?_, RR_upd h (by rw [if_pos rfl]) (fun k _ hk => if_neg hk)⟩
  unfold f_X1_setWidth
  rw [p_hasRibbon hn (by omega)]
  simp only [bs, fa_lit, bI_0]
  rw [if_neg (by rw [decide_eq_true hr]; decide), if_pos (gd_nI (by omega) (by omega)), cl_nI (by omega)]
theorem p_trimPost {fr to wd : Nat → Int32} {D : DR} (hf : RR fr (dF D) (dN D)) (hg : RR to (dG D) (dN D)) (hd : RR wd (dW D) (dN D)) (hw : WF D) {p : Nat} (hp : p < 16) : ∃ wd', f_X1_trimPost fr to (nI (dN D)) (nI p) wd (dT D) = some (nI (trK D p), wd', dT (trD D p)) ∧ RR wd' (dW (trD D p)) (dN D) := by
  have hn := hw.1
  have c1 := comes_le hw p
  have c2 := leav_le hw p
  have hK := trK_le D p
  have hK2 : trK D p ≤ 1000 := by unfold trK; split <;> omega
  have loop : ∀ k i F (w : Nat → Int32), i + k = trK D p → k < F → RR w (dW (tI D p (trB D p) i)) (dN D) → ∃ wd', f_X1_trimPost_b14 fr to (nI (dN D)) (nI p) F (nI (comes D p) - nI (leav D p)) (nI (trK D p)) (nI i) w (dT D) = some (nI (trK D p), wd', dT (trD D p)) ∧ RR wd' (dW (trD D p)) (dN D) := by
    intro k
    induction k with
    | zero =>
      intro i F w hi hF hr
      cases F with
      | zero => omega
      | succ F =>
        have e : i = trK D p := by omega
        subst e
        refine ⟨w, ?_, hr⟩
        simp only [f_X1_trimPost_b14, nme]
        rw [if_pos ((le_nI (by omega) (by omega)).mpr (Nat.le_refl _))]
        rfl
    | succ k ih =>
      intro i F w hi hF hr
      cases F with
      | zero => omega
      | succ F =>
        obtain ⟨a1, a2, a3, a4, a5, a6, a7, a8⟩ := tI_facts hw p (trB D p) i (by omega)
        obtain ⟨r, e, hr1, hs, hpos⟩ := wid_some (D := tI D p (trB D p) i) (p := p) (b := trB D p) (by omega)
        have w1 := (a1.2.2.2 r hr1).2.2.2
        have hwd : f_X1_widestAt fr to w (nI (dN D)) (nI p) (bI (trB D p)) = some (nI r) := by
          have h := p_widestAt (D := tI D p (trB D p) i) (fr := fr) (to := to) (wd := w) (by rw [a3, a2]; exact hf) (by rw [a4, a2]; exact hg) (by rw [a2]; exact hr) a1 hp (trB D p)
          rw [a2, e] at h
          exact h
        obtain ⟨w', e1, e2⟩ := p_setWidth (wd := w) (w := dW (tI D p (trB D p) i) r - 1) hn (by rw [← a2]; exact hr1) hr
        have e3 : dW (tI D p (trB D p) (i + 1)) = fun k => if k = r then dW (tI D p (trB D p) i) r - 1 else dW (tI D p (trB D p) i) k := by
          show dW (t1 p (trB D p) (tI D p (trB D p) i)) = _
          unfold t1
          rw [e]
          rfl
        obtain ⟨wd', f1, f2⟩ := ih (i + 1) F w' (by omega) (by omega) (by rw [e3]; exact e2)
        refine ⟨wd', ?_, f2⟩
        rw [← f1]
        simp only [f_X1_trimPost_b14, f_X1_trimPost_b31, nme, fa_lit]
        rw [if_neg (nle_nI (by omega) (by omega) (by omega))]
        have body : ∀ s0 : Int32, s0 = bI (trB D p) → (f_X1_widestAt fr to w (nI (dN D)) (nI p) s0).bind (fun q31 => (f_X1_widthOf w q31).bind fun q42 => (f_X1_setWidth (nI (dN D)) q31 (q42 - nI 1) w).bind fun q47 => f_X1_trimPost_b14 fr to (nI (dN D)) (nI p) F (nI (comes D p) - nI (leav D p)) (nI (trK D p)) (nI i + nI 1) q47 (dT D)) = f_X1_trimPost_b14 fr to (nI (dN D)) (nI p) F (nI (comes D p) - nI (leav D p)) (nI (trK D p)) (nI (i + 1)) w' (dT D) := by
          intro s0 hs0
          rw [hs0, hwd]
          simp only [bs]
          rw [p_widthOf hr hn (by rw [← a2]; exact hr1)]
          simp only [bs]
          rw [pk_sub (by omega), e1]
          simp only [bs]
          rw [nI_step]
        by_cases c : leav D p < comes D p
        · rw [if_neg (by rw [sub_leG (by omega) (by omega)]; omega)]
          exact body _ (by unfold trB; rw [decide_eq_true c]; rfl)
        · rw [if_pos (by rw [sub_leG (by omega) (by omega)]; omega)]
          exact body _ (by unfold trB; rw [decide_eq_false c]; rfl)
  obtain ⟨wd', e1, e2⟩ := loop (trK D p) 0 FU wd (by omega) (FU_big (by omega)) hd
  refine ⟨wd', ?_, e2⟩
  rw [← e1]
  unfold f_X1_trimPost
  rw [p_surplusOf hf hg hd hw hp]
  simp only [bs, nme, fa_lit]
  have ia : iabs (nI (comes D p) - nI (leav D p)) = nI (trK D p) := by
    unfold iabs trK
    simp only [fa_lit]
    by_cases c : leav D p < comes D p
    · rw [if_pos (by rw [sub_geG (by omega) (by omega)]; omega), if_pos c, pk_sub (by omega)]
    · rw [if_neg c]
      by_cases c2 : leav D p = comes D p
      · rw [if_pos (by rw [sub_geG (by omega) (by omega)]; omega), c2, pk_sub (Nat.le_refl _)]
      · rw [if_neg (by rw [sub_geG (by omega) (by omega)]; omega), show (nI 0 : Int32) = 0 from rfl, Int32.zero_sub, Int32.neg_sub, pk_sub (by omega)]
  rw [ia]
theorem r_widest {z : Nat → Int32} {D : DR} (hz : DZ z D) (hw : WF D) {p : Nat} (hp : p < 16) (b : Bool) : f_X7_widest z (nI p) (bI b) = some (oI (wid D p b)) := by
  have hn := hw.1
  unfold f_X7_widest wid
  simp only [fa_lit]
  refine loopA (fun F (s : Option Nat) i => f_X7_widest_b5 z (nI p) (bI b) F (oI s) i) (wS D p b) none (dN D) (fun _ _ => True) (some (oI (itr (wS D p b) none (dN D)))) trivial ?_ ?_ FU (FU_big (by omega))
  · intro F i hi _
    refine ⟨?_, trivial⟩
    obtain ⟨h1, h2, -, w1⟩ := hw.2.2.2 i hi
    have hlt := fun r h => (wid_lt D p b i r h).1
    generalize itr (wS D p b) none i = o at hlt ⊢
    simp only [f_X7_widest_b5, f_X7_widest_b40, f_X7_widest_b41, f_X7_widest_b68, f_X7_widest_b73, f_X7_widest_b74, nme, fa_lit]
    have hof : f_X7_of z (nI i) (bI b) = some (nI (if b = true then dG D i else dF D i)) := by
      cases b with
      | true => exact r_of1 hz hw hi
      | false => exact r_of0 hz hw hi
    rw [z0, hz.1, if_neg (nle_nI (by omega) (by omega) hi), r_goesOn hz hw hi, hof, r_of2 hz hw hi]
    have eb : (if b = true then dG D i else dF D i) < 16 := by split <;> omega
    simp only [bs, bI_0, nI_step, eq_nI (a := if b = true then dG D i else dF D i) (b := p) (by omega) (by omega)]
    rw [if_pos trivial, if_neg (show ¬ nI 1 = nI 0 by decide)]
    by_cases g : on D i = false
    · rw [if_pos g, wS_n (by unfold sP; rw [g, Bool.false_and]; decide)]
    · have g' : on D i = true := by simpa using g
      rw [if_neg g]
      by_cases c : (if b = true then dG D i else dF D i) = p
      · have hs : sP D p b i = true := by unfold sP; rw [g', decide_eq_true c]; rfl
        rw [if_pos c]
        cases o with
        | none => rw [if_pos (show oI none < nI 0 from by decide), wS_0 hs]; rfl
        | some j =>
          have hj := hlt j rfl
          have w2 := (hw.2.2.2 j (by omega)).2.2.2
          rw [if_neg (show ¬ oI (some j) < nI 0 from nlt_nI (by omega) (by omega) (by omega)), wS_1 hs]
          show (f_X7_of z (nI j) (nI 2)).bind _ = _
          rw [r_of2 hz hw (by omega)]
          simp only [bs]
          by_cases k : dW D j < dW D i
          · rw [if_neg (nle_nI (by omega) (by omega) k), if_pos k]; rfl
          · rw [if_pos ((le_nI (by omega) (by omega)).mpr (by omega)), if_neg k]
      · rw [if_neg c, wS_n (by unfold sP; rw [decide_eq_false c, Bool.and_false]; decide)]
  · intro F _
    simp only [f_X7_widest_b5, fa_lit]
    rw [z0, hz.1, if_pos ((le_nI (by omega) (by omega)).mpr (Nat.le_refl _))]
theorem p2_of {z : Nat → Int32} {r : Nat} (h : r < 20) : nI 18 + nI 3 * nI r + nI 2 = nI (18 + 3 * r + 2) := r_idx r 2
theorem DZ_setW {z : Nat → Int32} {D : DR} (hz : DZ z D) (hw : WF D) {r w : Nat} (hr : r < dN D) : DZ (upd z (18 + 3 * r + 2) (nI w)) (setW D r w) := by
  have hn := hw.1
  obtain ⟨a, b, c, d⟩ := hz
  have ne : ∀ k, k ≠ 18 + 3 * r + 2 → upd z (18 + 3 * r + 2) (nI w) k = z k := fun k hk => by unfold upd; rw [if_neg hk]
  refine ⟨(ne 0 (by omega)).trans a, (ne 1 (by omega)).trans b, fun p hp => (ne _ (by omega)).trans (c p hp), fun k hk => ?_⟩
  obtain ⟨d1, d2, d3⟩ := d k hk
  refine ⟨(ne _ (by omega)).trans d1, (ne _ (by omega)).trans d2, ?_⟩
  rw [setW_w]
  by_cases e : k = r
  · subst e
    rw [if_pos rfl]
    unfold upd
    rw [if_pos rfl]
  · rw [if_neg e, ne _ (by omega), d3]
theorem DZ_setT {z : Nat → Int32} {D : DR} (hz : DZ z D) (t : Int32) : DZ (upd z 1 t) (setT D t) := by
  obtain ⟨a, b, c, d⟩ := hz
  have ne : ∀ k, k ≠ 1 → upd z 1 t k = z k := fun k hk => by unfold upd; rw [if_neg hk]
  refine ⟨(ne 0 (by omega)).trans a, by unfold upd; rw [if_pos rfl]; rfl, fun p hp => (ne _ (by omega)).trans (c p hp), fun k hk => ?_⟩
  obtain ⟨d1, d2, d3⟩ := d k hk
  exact ⟨(ne _ (by omega)).trans d1, (ne _ (by omega)).trans d2, (ne _ (by omega)).trans d3⟩
theorem r_doTrim {z : Nat → Int32} {D : DR} (hz : DZ z D) (hw : WF D) {p : Nat} (hp : p < 16) : ∃ z', f_X7_doTrim (nI p) z = some (nI (trK D p), z') ∧ DZ z' (trD D p) := by
  have hn := hw.1
  have c1 := comes_le hw p
  have c2 := leav_le hw p
  have hK := trK_le D p
  have hK2 : trK D p ≤ 1000 := by unfold trK; split <;> omega
  have loop : ∀ k i F (z : Nat → Int32), i + k = trK D p → k < F → DZ z (tI D p (trB D p) i) → ∃ z', f_X7_doTrim_b14 (nI p) F (nI i) (nI (comes (tI D p (trB D p) i) p) - nI (leav (tI D p (trB D p) i) p)) z = some (nI (trK D p), z') ∧ DZ z' (trD D p) := by
    intro k
    induction k with
    | zero =>
      intro i F z hi hF hr
      cases F with
      | zero => omega
      | succ F =>
        have e : i = trK D p := by omega
        subst e
        have ev : comes (tI D p (trB D p) (trK D p)) p = leav (tI D p (trB D p) (trK D p)) p := trD_even hw p
        have c3 := leav_le (tI_facts hw p (trB D p) (trK D p) hK).1 p
        have t6 := (tI_facts hw p (trB D p) (trK D p) hK).2.2.2.2.2.1
        refine ⟨upd z 1 (dT D + nI (trK D p)), ?_, DZ_setT hr _⟩
        simp only [f_X7_doTrim_b14, nme, fa_lit]
        rw [if_pos ((sub_eq0 (by omega) (by omega)).mpr ev), show (nI 1).toNatClampNeg = 1 from by decide, hr.2.1, t6]
    | succ k ih =>
      intro i F z hi hF hr
      cases F with
      | zero => omega
      | succ F =>
        obtain ⟨a1, a2, a3, a4, a5, a6, a7, a8⟩ := tI_facts hw p (trB D p) i (by omega)
        obtain ⟨r, e, hr1, hs, hpos⟩ := wid_some (D := tI D p (trB D p) i) (p := p) (b := trB D p) (by omega)
        have w1 := (a1.2.2.2 r hr1).2.2.2
        have hn2 := a1.1
        have c3 := comes_le a1 p
        have c4 := leav_le a1 p
        have hne : (trB D p = true ∧ leav (tI D p (trB D p) i) p < comes (tI D p (trB D p) i) p) ∨ (trB D p = false ∧ comes (tI D p (trB D p) i) p < leav (tI D p (trB D p) i) p) := by
          rw [← sSum_t (tI D p (trB D p) i) p, ← sSum_f (tI D p (trB D p) i) p]
          by_cases c : leav D p < comes D p
          · have eb : trB D p = true := decide_eq_true c
            left
            refine ⟨eb, ?_⟩
            rw [eb] at a7 a8 ⊢
            rw [sSum_t D p] at a7; rw [Bool.not_true, sSum_f D p] at a8
            have : trK D p = comes D p - leav D p := if_pos c
            omega
          · have eb : trB D p = false := decide_eq_false c
            right
            refine ⟨eb, ?_⟩
            rw [eb] at a7 a8 ⊢
            rw [sSum_f D p] at a7; rw [Bool.not_false, sSum_t D p] at a8
            have : trK D p = leav D p - comes D p := if_neg c
            omega
        have e3 : tI D p (trB D p) (i + 1) = setW (tI D p (trB D p) i) r (dW (tI D p (trB D p) i) r - 1) := by
          show t1 p (trB D p) (tI D p (trB D p) i) = _
          unfold t1
          rw [e]
        have hz2 : DZ (upd z (18 + 3 * r + 2) (nI (dW (tI D p (trB D p) i) r - 1))) (tI D p (trB D p) (i + 1)) := by rw [e3]; exact DZ_setW hr a1 hr1
        obtain ⟨b1, -⟩ := tI_facts hw p (trB D p) (i + 1) (by omega)
        obtain ⟨z', f1, f2⟩ := ih (i + 1) F _ (by omega) (by omega) hz2
        refine ⟨z', ?_, f2⟩
        rw [← f1]
        simp only [f_X7_doTrim_b14, f_X7_doTrim_b29, nme, fa_lit]
        rw [if_neg (by rw [sub_eq0 (by omega) (by omega)]; omega)]
        have wd := r_widest hr a1 hp (trB D p)
        rw [e] at wd
        have wd' : f_X7_widest z (nI p) (bI (trB D p)) = some (nI r) := wd
        have body : ∀ s0 : Int32, s0 = bI (trB D p) → (f_X7_widest z (nI p) s0).bind (fun q29 => if gd (nI 18 + nI 3 * q29 + nI 2) 78 = true then (if gd (nI 18 + nI 3 * q29 + nI 2) 78 = true then ((f_X7_comesIn (upd z (nI 18 + nI 3 * q29 + nI 2).toNatClampNeg (z (nI 18 + nI 3 * q29 + nI 2).toNatClampNeg - nI 1)) (nI p)).bind fun q57 => (f_X7_leaves (upd z (nI 18 + nI 3 * q29 + nI 2).toNatClampNeg (z (nI 18 + nI 3 * q29 + nI 2).toNatClampNeg - nI 1)) (nI p)).bind fun q62 => f_X7_doTrim_b14 (nI p) F (nI i + nI 1) (q57 - q62) (upd z (nI 18 + nI 3 * q29 + nI 2).toNatClampNeg (z (nI 18 + nI 3 * q29 + nI 2).toNatClampNeg - nI 1))) else none) else none) = f_X7_doTrim_b14 (nI p) F (nI (i + 1)) (nI (comes (tI D p (trB D p) (i + 1)) p) - nI (leav (tI D p (trB D p) (i + 1)) p)) (upd z (18 + 3 * r + 2) (nI (dW (tI D p (trB D p) i) r - 1))) := by
          intro s0 hs0
          rw [hs0, wd']
          simp only [bs]
          rw [r_idx, if_pos (gd_nI (by omega) (by omega)), if_pos (gd_nI (by omega) (by omega)), cl_nI (by omega), (hr.2.2.2 r hr1).2.2, pk_sub (by omega), r_comesIn hz2 b1 hp, r_leaves hz2 b1 hp]
          simp only [bs]
          rw [nI_step]
        rcases hne with ⟨eb, hlt⟩ | ⟨eb, hlt⟩
        · rw [if_neg (by rw [sub_leG (by omega) (by omega)]; omega)]
          exact body _ (by rw [eb]; rfl)
        · rw [if_pos (by rw [sub_leG (by omega) (by omega)]; omega)]
          exact body _ (by rw [eb]; rfl)
  obtain ⟨z', e1, e2⟩ := loop (trK D p) 0 FU z (by omega) (FU_big (by omega)) hz
  refine ⟨z', ?_, e2⟩
  rw [← e1]
  unfold f_X7_doTrim
  rw [r_comesIn hz hw hp, r_leaves hz hw hp]
  simp only [bs, nme, fa_lit]
  rfl
