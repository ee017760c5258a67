/-! ===== both sides: the other methods that save ===== -/
section
variable {pl fr to wd : Nat → Int32} {n tr po ph tl : Int32} {tc : Nat → Int32} {o : Nat} {S : ST} {z sv sl kp tx : Nat → Int32} {sa ln th : Int32}
theorem sm_widen (hC : CI pl fr to wd n tr po ph tc tl o S) (hR : RI z sv sl kp tx sa ln S) (hS : WS S) (x1 : Int32) (x2 : Int32) :
    ∃ (k : Nat) (v : Int32) (S' : ST), WS S' ∧ (∃ r z' sv' sa', f_X7_widen x1 x2 th z sv sa = some (r, nI k, z', sv', sa') ∧ (k = 0 → r = v) ∧ RI z' sv' sl kp tx sa' ln S') ∧
      ((∃ E, f_X6_widenT n x1 x2 = some E ∧ KE (some eIO) (some eIA) none k E ∧ S' = S) ∨ (k = 0 ∧ sK S' = sK S ∧ sH S' = nH (sH S) ∧ sL S' = sv1 (sH S) (sL S) (sD S) ∧
        (∃ wd' bp bf bt bw bn btr, f_X6_widenA pl fr to n tr x1 x2 wd po ph = some (.inr (v, wd', nI (nO o (sH S)), nI (nH (sH S)), bf, bt, bw, bn, btr, bp)) ∧ CI pl fr to wd' n tr (nI (nO o (sH S))) (nI (nH (sH S))) tc tl (nO o (sH S)) S' ∧ DC bp bf bt bw bn btr (sD S)) ∧
        ∀ (cp cf ct cw : Nat → Int32) (cn ctr : Int32), ∃ wd' bp bf bt bw bn btr, f_X6_widenB pl fr to n tr x1 x2 wd po ph cp cf ct cw cn ctr = some (.inr (v, wd', nI (nO o (sH S)), nI (nH (sH S)), bp, bf, bt, bw, bn, btr)) ∧ CI pl fr to wd' n tr (nI (nO o (sH S))) (nI (nH (sH S))) tc tl (nO o (sH S)) S' ∧ DC bp bf bt bw bn btr (sD S))) := by
  obtain ⟨hD, ho, rfl, rfl, ht, rfl⟩ := id hC
  obtain ⟨hz, hv, rfl, hk, hx, rfl⟩ := id hR
  obtain ⟨w1, w2, w3, w4, w5, w6⟩ := id hS
  have hDc := hD
  obtain ⟨rfl, rfl, hpl, hf, hg, hd⟩ := hD
  have hn20 := w1.1
  rcases (arg_lt x1 (dN (sD S)) (by omega)).symm with h1 | ⟨r, hr, rfl⟩
  · refine ⟨1, nI 0, S, hS, ⟨nI 0, z, sv, _, ?_, fun h => by omega, hR⟩, Or.inl ⟨eIO, ?_, KE1 rfl, rfl⟩⟩
    · unfold f_X7_widen f_X7_widen_b28
      simp only [fa_lit]
      rw [r_isRibbon_out hz w1 h1]
      simp only [bs]
      rw [if_pos trivial, if_neg (nle_nI (by omega) (by omega) (by omega))]
    · unfold f_X6_widenT
      rw [checkRibbon_out hn20 h1, tb_s]
  have hisr : f_X7_isRibbon z (nI r) = some (bI true) := by rw [r_isRibbon hz w1 (by omega), decide_eq_true hr]
  have hT : f_X6_widenT (nI (dN (sD S))) (nI r) x2 = if x2 < nI 0 then some eIA else if x2 ≤ nI 50 then none else some eIA := by
    unfold f_X6_widenT
    rw [(checkRibbon_in hn20 hr).1, (checkRibbon_in hn20 hr).2.1, tb_n]
    simp only [bs, fa_lit]
  rcases (width0_arg x2).symm with ⟨h2, h2'⟩ | ⟨w, hw, rfl, hin⟩
  · refine ⟨2, nI 0, S, hS, ⟨nI 0, z, sv, _, ?_, fun h => by omega, hR⟩, Or.inl ⟨eIA, ?_, KE2 rfl, rfl⟩⟩
    · unfold f_X7_widen f_X7_widen_b28
      simp only [fa_lit]
      rw [hisr, h2']
      simp only [bs]
      rw [if_neg (by decide), if_pos trivial, if_neg (nle_nI (by omega) (by omega) (by omega))]
    · rw [hT]
      by_cases d : x2 < nI 0
      · rw [if_pos d]
      · rw [if_neg d, if_neg (h2.resolve_left d)]
  · obtain ⟨sv', r1, r2⟩ := r_save w2 hv hz w1
    have hwf := setW_wf (r := r) w1 hw
    obtain ⟨wd', p1, p2⟩ := p_setWidth (w := w) hn20 hr hd
    have hCI : CI pl fr to wd' (nI (dN (sD S))) (dT (sD S)) (nI (nO o (sH S))) (nI (nH (sH S))) tc (nI (sN' S)) (nO o (sH S)) (svS S (setW (sD S) r w)) := ⟨⟨rfl, rfl, hpl, hf, hg, p2⟩, nO_lt ho, rfl, rfl, ht, rfl⟩
    refine ⟨0, nI (dW (sD S) r), svS S (setW (sD S) r w), svS_ws hS hwf, ⟨nI (dW (sD S) r), upd z (18 + 3 * r + 2) (nI w), sv', _, ?_, fun _ => rfl, DZ_setW hz w1 hr, r2, rfl, hk, hx, rfl⟩, Or.inr ⟨rfl, rfl, rfl, rfl, ?_, ?_⟩⟩
    · unfold f_X7_widen f_X7_widen_b28
      simp only [fa_lit]
      rw [hisr, hin]
      simp only [bs]
      rw [if_neg (by decide), if_neg (by decide), if_pos (show nI 0 ≤ nI 0 from Int32.le_refl _), r1]
      simp only [bs]
      rw [r_of2 hz w1 hr]
      simp only [bs]
      rw [r_idx, if_pos (gd_nI (by omega) (by omega)), cl_nI (by omega)]
      rfl
    · obtain ⟨bp, bf, bt, bw, q1, q2⟩ := p_saveA hDc w1 ho w2
      refine ⟨wd', bp, bf, bt, bw, _, _, ?_, hCI, q2⟩
      unfold f_X6_widenA f_X6_widenA_b15
      simp only [fa_lit]
      rw [(checkRibbon_in hn20 hr).2.2]
      simp only [xbs]
      rw [if_neg (nlt_nI (by omega) (by omega) (by omega)), if_pos ((le_nI (by omega) (by omega)).mpr hw), q1]
      simp only [bs]
      rw [p_widthOf hd hn20 hr, p1]
      simp only [bs]
    · intro cp cf ct cw cn ctr
      obtain ⟨bp, bf, bt, bw, q1, q2⟩ := p_saveB (bp := cp) (bf := cf) (bt := ct) (bw := cw) (bn := cn) (btr := ctr) hDc w1 ho w2
      refine ⟨wd', bp, bf, bt, bw, _, _, ?_, hCI, q2⟩
      unfold f_X6_widenB f_X6_widenB_b15
      simp only [fa_lit]
      rw [(checkRibbon_in hn20 hr).2.2]
      simp only [xbs]
      rw [if_neg (nlt_nI (by omega) (by omega) (by omega)), if_pos ((le_nI (by omega) (by omega)).mpr hw), q1]
      simp only [bs]
      rw [p_widthOf hd hn20 hr, p1]
      simp only [bs]

theorem sm_remove (hC : CI pl fr to wd n tr po ph tc tl o S) (hR : RI z sv sl kp tx sa ln S) (hS : WS S) (x1 : Int32) :
    ∃ (k : Nat) (v : Int32) (S' : ST), WS S' ∧ (∃ r z' sv' sa', f_X7_remove x1 th z sv sa = some (r, nI k, z', sv', sa') ∧ (k = 0 → r = v) ∧ RI z' sv' sl kp tx sa' ln S') ∧
      ((∃ E, f_X6_removeT n x1 = some E ∧ KE (some eIO) none none k E ∧ S' = S) ∨ (k = 0 ∧ sK S' = sK S ∧ sH S' = nH (sH S) ∧ sL S' = sv1 (sH S) (sL S) (sD S) ∧
        (∃ fr' to' wd' n' bp bf bt bw bn btr, f_X6_removeA pl tr x1 fr to wd n po ph = some (.inr (v, fr', to', wd', n', nI (nO o (sH S)), nI (nH (sH S)), bf, bt, bw, bn, btr, bp)) ∧ CI pl fr' to' wd' n' tr (nI (nO o (sH S))) (nI (nH (sH S))) tc tl (nO o (sH S)) S' ∧ DC bp bf bt bw bn btr (sD S)) ∧
        ∀ (cp cf ct cw : Nat → Int32) (cn ctr : Int32), ∃ fr' to' wd' n' bp bf bt bw bn btr, f_X6_removeB pl tr x1 fr to wd n po ph cp cf ct cw cn ctr = some (.inr (v, fr', to', wd', n', nI (nO o (sH S)), nI (nH (sH S)), bp, bf, bt, bw, bn, btr)) ∧ CI pl fr' to' wd' n' tr (nI (nO o (sH S))) (nI (nH (sH S))) tc tl (nO o (sH S)) S' ∧ DC bp bf bt bw bn btr (sD S))) := by
  obtain ⟨hD, ho, rfl, rfl, ht, rfl⟩ := id hC
  obtain ⟨hz, hv, rfl, hk, hx, rfl⟩ := id hR
  obtain ⟨w1, w2, w3, w4, w5, w6⟩ := id hS
  have hDc := hD
  obtain ⟨rfl, rfl, hpl, hf, hg, hd⟩ := hD
  have hn20 := w1.1
  rcases (arg_lt x1 (dN (sD S)) (by omega)).symm with h1 | ⟨r, hr, rfl⟩
  · refine ⟨1, nI 0, S, hS, ⟨nI 0, z, sv, _, ?_, fun h => by omega, hR⟩, Or.inl ⟨eIO, ?_, KE1 rfl, rfl⟩⟩
    · unfold f_X7_remove f_X7_remove_b14
      simp only [fa_lit]
      rw [r_isRibbon_out hz w1 h1]
      simp only [bs]
      rw [if_pos trivial, if_neg (nle_nI (by omega) (by omega) (by omega))]
    · unfold f_X6_removeT
      rw [checkRibbon_out hn20 h1, tb_s]
  · have hisr : f_X7_isRibbon z (nI r) = some (bI true) := by rw [r_isRibbon hz w1 (by omega), decide_eq_true hr]
    obtain ⟨sv', r1, r2⟩ := r_save w2 hv hz w1
    have hwf := rmD_wf w1 hr
    obtain ⟨fr', to', wd', p1, p2, p3, p4⟩ := p_dropRibbon hf hg hd w1 hr
    obtain ⟨z', r3, r4⟩ := r_drop (sv := sv') hz w1 hr (nI (dW (sD S) r)) (nI 0) (nI (nH (sH S)))
    have hCI : CI pl fr' to' wd' (nI (dN (sD S) - 1)) (dT (sD S)) (nI (nO o (sH S))) (nI (nH (sH S))) tc (nI (sN' S)) (nO o (sH S)) (svS S (rmD (sD S) r)) := ⟨⟨rfl, rfl, hpl, p2, p3, p4⟩, nO_lt ho, rfl, rfl, ht, rfl⟩
    refine ⟨0, nI (dW (sD S) r), svS S (rmD (sD S) r), svS_ws hS hwf, ⟨nI (dW (sD S) r), z', sv', _, ?_, fun _ => rfl, r4, r2, rfl, hk, hx, rfl⟩, Or.inr ⟨rfl, rfl, rfl, rfl, ?_, ?_⟩⟩
    · unfold f_X7_remove f_X7_remove_b14
      simp only [fa_lit, nme]
      rw [hisr]
      simp only [bs]
      rw [if_neg (by decide), if_pos (show nI 0 ≤ nI 0 from Int32.le_refl _), r1]
      simp only [bs]
      rw [r_of2 hz w1 hr]
      simp only [bs]
      rw [z0, hz.1, pk_sub (by omega), pk_mul, nI_step]
      exact r3
    · obtain ⟨bp, bf, bt, bw, q1, q2⟩ := p_saveA hDc w1 ho w2
      refine ⟨fr', to', wd', _, bp, bf, bt, bw, _, _, ?_, hCI, q2⟩
      unfold f_X6_removeA
      rw [(checkRibbon_in hn20 hr).2.2]
      simp only [xbs]
      rw [q1]
      simp only [bs]
      rw [p_widthOf hd hn20 hr]
      simp only [bs]
      rw [p1]
      simp only [bs]
    · intro cp cf ct cw cn ctr
      obtain ⟨bp, bf, bt, bw, q1, q2⟩ := p_saveB (bp := cp) (bf := cf) (bt := ct) (bw := cw) (bn := cn) (btr := ctr) hDc w1 ho w2
      refine ⟨fr', to', wd', _, bp, bf, bt, bw, _, _, ?_, hCI, q2⟩
      unfold f_X6_removeB
      rw [(checkRibbon_in hn20 hr).2.2]
      simp only [xbs]
      rw [q1]
      simp only [bs]
      rw [p_widthOf hd hn20 hr]
      simp only [bs]
      rw [p1]
      simp only [bs]

theorem sm_swap (hC : CI pl fr to wd n tr po ph tc tl o S) (hR : RI z sv sl kp tx sa ln S) (hS : WS S) (x1 : Int32) (x2 : Int32) :
    ∃ (k : Nat) (v : Int32) (S' : ST), WS S' ∧ (∃ r z' sv' sa', f_X7_swap x1 x2 th z sv sa = some (r, nI k, z', sv', sa') ∧ (k = 0 → r = v) ∧ RI z' sv' sl kp tx sa' ln S') ∧
      ((∃ E, f_X6_swapT x1 x2 = some E ∧ KE (some eIO) (some eIA) none k E ∧ S' = S) ∨ (k = 0 ∧ sK S' = sK S ∧ sH S' = nH (sH S) ∧ sL S' = sv1 (sH S) (sL S) (sD S) ∧
        (∃ pl' bp bf bt bw bn btr, f_X6_swapA fr to wd n tr x1 x2 pl po ph = some (.inr (v, pl', nI (nO o (sH S)), nI (nH (sH S)), bf, bt, bw, bn, btr, bp)) ∧ CI pl' fr to wd n tr (nI (nO o (sH S))) (nI (nH (sH S))) tc tl (nO o (sH S)) S' ∧ DC bp bf bt bw bn btr (sD S)) ∧
        ∀ (cp cf ct cw : Nat → Int32) (cn ctr : Int32), ∃ pl' bp bf bt bw bn btr, f_X6_swapB fr to wd n tr x1 x2 pl po ph cp cf ct cw cn ctr = some (.inr (v, pl', nI (nO o (sH S)), nI (nH (sH S)), bp, bf, bt, bw, bn, btr)) ∧ CI pl' fr to wd n tr (nI (nO o (sH S))) (nI (nH (sH S))) tc tl (nO o (sH S)) S' ∧ DC bp bf bt bw bn btr (sD S))) := by
  obtain ⟨hD, ho, rfl, rfl, ht, rfl⟩ := id hC
  obtain ⟨hz, hv, rfl, hk, hx, rfl⟩ := id hR
  obtain ⟨w1, w2, w3, w4, w5, w6⟩ := id hS
  have hDc := hD
  obtain ⟨rfl, rfl, hpl, hf, hg, hd⟩ := hD
  have hn20 := w1.1
  rcases pair_arg x1 x2 with ⟨a, b, ha, hb, hc, hne, rfl, rfl⟩ | ⟨h1, h2⟩ | ⟨h1, h2⟩
  rotate_left
  · refine ⟨1, nI 0, S, hS, ⟨nI 0, z, sv, _, ?_, fun h => by omega, hR⟩, Or.inl ⟨eIO, ?_, KE1 rfl, rfl⟩⟩
    · unfold f_X7_swap
      simp only [fa_lit]
      rw [h2]
      simp only [bs]
      rw [if_neg (nle_nI (by omega) (by omega) (by omega))]
    · unfold f_X6_swapT
      rw [h1, tb_s]
  · refine ⟨2, nI 0, S, hS, ⟨nI 0, z, sv, _, ?_, fun h => by omega, hR⟩, Or.inl ⟨eIA, ?_, KE2 rfl, rfl⟩⟩
    · unfold f_X7_swap
      simp only [fa_lit]
      rw [h2]
      simp only [bs]
      rw [if_neg (nle_nI (by omega) (by omega) (by omega))]
    · unfold f_X6_swapT
      rw [h1, tb_s]
  · obtain ⟨sv', r1, r2⟩ := r_save w2 hv hz w1
    have hwf := exP_wf w1 ha hb hc
    obtain ⟨pl', p1, p2⟩ := p_exchange hpl ha hb
    obtain ⟨z', r3, r4⟩ := r_exchange hz ha hb
    have hx9 := p_allCrossings (D := exP (sD S) a b) p2 hf hg hd hwf
    rw [xAll_exP] at hx9
    have hCI : CI pl' fr to wd (nI (dN (sD S))) (dT (sD S)) (nI (nO o (sH S))) (nI (nH (sH S))) tc (nI (sN' S)) (nO o (sH S)) (svS S (exP (sD S) a b)) := ⟨⟨rfl, rfl, p2, hf, hg, hd⟩, nO_lt ho, rfl, rfl, ht, rfl⟩
    refine ⟨0, nI (xAll (exP (sD S) a b)), svS S (exP (sD S) a b), svS_ws hS hwf, ⟨nI (xAll (exP (sD S) a b)), z', sv', _, ?_, fun _ => rfl, r4, r2, rfl, hk, hx, rfl⟩, Or.inr ⟨rfl, rfl, rfl, rfl, ?_, ?_⟩⟩
    · unfold f_X7_swap
      simp only [fa_lit]
      rw [whyNoPair_ok ha hb hc hne]
      simp only [bs]
      rw [if_pos (show nI 0 ≤ nI 0 from Int32.le_refl _), r1]
      simp only [bs]
      rw [r3]
      simp only [bs]
      rw [r_crossings r4 hwf]
      rfl
    · obtain ⟨bp, bf, bt, bw, q1, q2⟩ := p_saveA hDc w1 ho w2
      refine ⟨pl', bp, bf, bt, bw, _, _, ?_, hCI, q2⟩
      unfold f_X6_swapA
      rw [p_checkPair ha hb hc hne]
      simp only [xbs]
      rw [q1]
      simp only [bs]
      rw [p1]
      simp only [bs]
      rw [hx9]
      simp only [bs]
    · intro cp cf ct cw cn ctr
      obtain ⟨bp, bf, bt, bw, q1, q2⟩ := p_saveB (bp := cp) (bf := cf) (bt := ct) (bw := cw) (bn := cn) (btr := ctr) hDc w1 ho w2
      refine ⟨pl', bp, bf, bt, bw, _, _, ?_, hCI, q2⟩
      unfold f_X6_swapB
      rw [p_checkPair ha hb hc hne]
      simp only [xbs]
      rw [q1]
      simp only [bs]
      rw [p1]
      simp only [bs]
      rw [hx9]
      simp only [bs]

theorem sm_trim (hC : CI pl fr to wd n tr po ph tc tl o S) (hR : RI z sv sl kp tx sa ln S) (hS : WS S) (x1 : Int32) :
    ∃ (k : Nat) (v : Int32) (S' : ST), WS S' ∧ (∃ r z' sv' sa', f_X7_trim x1 th z sv sa = some (r, nI k, z', sv', sa') ∧ (k = 0 → r = v) ∧ RI z' sv' sl kp tx sa' ln S') ∧
      ((∃ E, f_X6_trimT x1 = some E ∧ KE (some eIO) none none k E ∧ S' = S) ∨ (k = 0 ∧ sK S' = sK S ∧ sH S' = nH (sH S) ∧ sL S' = sv1 (sH S) (sL S) (sD S) ∧
        (∃ wd' tr' bp bf bt bw bn btr, f_X6_trimA pl fr to n x1 wd tr po ph = some (.inr (v, wd', tr', nI (nO o (sH S)), nI (nH (sH S)), bf, bt, bw, bn, btr, bp)) ∧ CI pl fr to wd' n tr' (nI (nO o (sH S))) (nI (nH (sH S))) tc tl (nO o (sH S)) S' ∧ DC bp bf bt bw bn btr (sD S)) ∧
        ∀ (cp cf ct cw : Nat → Int32) (cn ctr : Int32), ∃ wd' tr' bp bf bt bw bn btr, f_X6_trimB pl fr to n x1 wd tr po ph cp cf ct cw cn ctr = some (.inr (v, wd', tr', nI (nO o (sH S)), nI (nH (sH S)), bp, bf, bt, bw, bn, btr)) ∧ CI pl fr to wd' n tr' (nI (nO o (sH S))) (nI (nH (sH S))) tc tl (nO o (sH S)) S' ∧ DC bp bf bt bw bn btr (sD S))) := by
  obtain ⟨hD, ho, rfl, rfl, ht, rfl⟩ := id hC
  obtain ⟨hz, hv, rfl, hk, hx, rfl⟩ := id hR
  obtain ⟨w1, w2, w3, w4, w5, w6⟩ := id hS
  have hDc := hD
  obtain ⟨rfl, rfl, hpl, hf, hg, hd⟩ := hD
  have hn20 := w1.1
  rcases (inner_arg x1).symm with ⟨h1, h2⟩ | ⟨p, hp4, hp12, rfl, h1, h2⟩
  · refine ⟨1, nI 0, S, hS, ⟨nI 0, z, sv, _, ?_, fun h => by omega, hR⟩, Or.inl ⟨eIO, ?_, KE1 rfl, rfl⟩⟩
    · unfold f_X7_trim f_X7_trim_b13
      simp only [fa_lit]
      rw [h2]
      simp only [bs]
      rw [if_pos trivial, if_neg (nle_nI (by omega) (by omega) (by omega))]
    · unfold f_X6_trimT
      rw [h1]
      simp only [bs, fa_lit]
      rw [if_pos trivial]
  · obtain ⟨sv', r1, r2⟩ := r_save w2 hv hz w1
    obtain ⟨hwf, e1, e2, e3, e4⟩ := trD_wf w1 p
    obtain ⟨wd', p1, p2⟩ := p_trimPost hf hg hd w1 (show p < 16 by omega)
    obtain ⟨z', r3, r4⟩ := r_doTrim hz w1 (show p < 16 by omega)
    have hCI : CI pl fr to wd' (nI (dN (sD S))) (dT (trD (sD S) p)) (nI (nO o (sH S))) (nI (nH (sH S))) tc (nI (sN' S)) (nO o (sH S)) (svS S (trD (sD S) p)) := ⟨⟨by rw [show dN (sD (svS S (trD (sD S) p))) = dN (sD S) from e1], rfl, by rw [show dP (sD (svS S (trD (sD S) p))) = dP (sD S) from e4]; exact hpl, by rw [show dF (sD (svS S (trD (sD S) p))) = dF (sD S) from e2, show dN (sD (svS S (trD (sD S) p))) = dN (sD S) from e1]; exact hf, by rw [show dG (sD (svS S (trD (sD S) p))) = dG (sD S) from e3, show dN (sD (svS S (trD (sD S) p))) = dN (sD S) from e1]; exact hg, by rw [show dN (sD (svS S (trD (sD S) p))) = dN (sD S) from e1]; exact p2⟩, nO_lt ho, rfl, rfl, ht, rfl⟩
    refine ⟨0, nI (trK (sD S) p), svS S (trD (sD S) p), svS_ws hS hwf, ⟨nI (trK (sD S) p), z', sv', _, ?_, fun _ => rfl, r4, r2, rfl, hk, hx, rfl⟩, Or.inr ⟨rfl, rfl, rfl, rfl, ?_, ?_⟩⟩
    · unfold f_X7_trim f_X7_trim_b13
      simp only [fa_lit]
      rw [h2]
      simp only [bs]
      rw [if_neg (by decide), if_pos (show nI 0 ≤ nI 0 from Int32.le_refl _), r1]
      simp only [bs]
      rw [r3]
      rfl
    · obtain ⟨bp, bf, bt, bw, q1, q2⟩ := p_saveA hDc w1 ho w2
      refine ⟨wd', _, bp, bf, bt, bw, _, _, ?_, hCI, q2⟩
      unfold f_X6_trimA
      rw [h1]
      simp only [bs, fa_lit]
      rw [if_neg (by decide), q1]
      simp only [bs]
      rw [p1]
      simp only [bs]
    · intro cp cf ct cw cn ctr
      obtain ⟨bp, bf, bt, bw, q1, q2⟩ := p_saveB (bp := cp) (bf := cf) (bt := ct) (bw := cw) (bn := cn) (btr := ctr) hDc w1 ho w2
      refine ⟨wd', _, bp, bf, bt, bw, _, _, ?_, hCI, q2⟩
      unfold f_X6_trimB
      rw [h1]
      simp only [bs, fa_lit]
      rw [if_neg (by decide), q1]
      simp only [bs]
      rw [p1]
      simp only [bs]

theorem sm_order (hC : CI pl fr to wd n tr po ph tc tl o S) (hR : RI z sv sl kp tx sa ln S) (hS : WS S) (x1 : Int32) (asd g1 g2 g3 : Nat → Int32) :
    ∃ (k : Nat) (v : Int32) (S' : ST), WS S' ∧ (∃ r z' a' sv' sa', f_X7_order x1 th z asd sv sa = some (r, nI k, z', a', sv', sa') ∧ (k = 0 → r = v) ∧ RI z' sv' sl kp tx sa' ln S') ∧
      ((∃ E, f_X6_orderT x1 = some E ∧ KE (some eIO) none none k E ∧ S' = S) ∨ (k = 0 ∧ sK S' = sK S ∧ sH S' = nH (sH S) ∧ sL S' = sv1 (sH S) (sL S) (sD S) ∧
        (∃ pl' g1' g2' g3' bp bf bt bw bn btr, f_X6_orderA fr to wd n tr x1 pl po ph g1 g2 g3 = some (.inr (v, pl', nI (nO o (sH S)), nI (nH (sH S)), g1', g2', g3', bf, bt, bw, bn, btr, bp)) ∧ CI pl' fr to wd n tr (nI (nO o (sH S))) (nI (nH (sH S))) tc tl (nO o (sH S)) S' ∧ DC bp bf bt bw bn btr (sD S)) ∧
        ∀ (cp cf ct cw : Nat → Int32) (cn ctr : Int32), ∃ pl' g1' g2' g3' bp bf bt bw bn btr, f_X6_orderB fr to wd n tr x1 pl po ph g1 g2 g3 cp cf ct cw cn ctr = some (.inr (v, pl', nI (nO o (sH S)), nI (nH (sH S)), g1', g2', g3', bp, bf, bt, bw, bn, btr)) ∧ CI pl' fr to wd n tr (nI (nO o (sH S))) (nI (nH (sH S))) tc tl (nO o (sH S)) S' ∧ DC bp bf bt bw bn btr (sD S))) := by
  obtain ⟨hD, ho, rfl, rfl, ht, rfl⟩ := id hC
  obtain ⟨hz, hv, rfl, hk, hx, rfl⟩ := id hR
  obtain ⟨w1, w2, w3, w4, w5, w6⟩ := id hS
  have hDc := hD
  obtain ⟨rfl, rfl, hpl, hf, hg, hd⟩ := hD
  have hn20 := w1.1
  rcases (column_arg x1).symm with ⟨h1, h2⟩ | ⟨c, hc, rfl, h2⟩
  · refine ⟨1, nI 0, S, hS, ⟨nI 0, z, asd, sv, _, ?_, fun h => by omega, hR⟩, Or.inl ⟨eIO, ?_, KE1 rfl, rfl⟩⟩
    · unfold f_X7_order f_X7_order_b13
      simp only [fa_lit]
      rw [h2]
      simp only [bs]
      rw [if_pos trivial, if_neg (nle_nI (by omega) (by omega) (by omega))]
    · unfold f_X6_orderT
      rw [h1, tb_s]
  · obtain ⟨sv', r1, r2⟩ := r_save w2 hv hz w1
    obtain ⟨b1, b2⟩ := bO_ok w1 c
    have hwf := orD_wf (c := c) w1 b1 b2
    obtain ⟨g1', g2', g3', p1, p2⟩ := p_best hpl hf hg hd w1 hc g1 g2 g3
    obtain ⟨pl', p3, p4⟩ := p_putBest hc hpl b1 b2 p2
    obtain ⟨z1, a', r3, r4⟩ := r_best (a := asd) hc hz w1
    obtain ⟨z', r5, r6⟩ := r_putOrder r4 hc b1 b2
    have hx9 := p_allCrossings (D := orD (sD S) c (bO (sD S) c)) p4 hf hg hd hwf
    have hCI : CI pl' fr to wd (nI (dN (sD S))) (dT (sD S)) (nI (nO o (sH S))) (nI (nH (sH S))) tc (nI (sN' S)) (nO o (sH S)) (svS S (orD (sD S) c (bO (sD S) c))) := ⟨⟨rfl, rfl, p4, hf, hg, hd⟩, nO_lt ho, rfl, rfl, ht, rfl⟩
    refine ⟨0, nI (xAll (orD (sD S) c (bO (sD S) c))), svS S (orD (sD S) c (bO (sD S) c)), svS_ws hS hwf, ⟨nI (xAll (orD (sD S) c (bO (sD S) c))), z', a', sv', _, ?_, fun _ => rfl, r6, r2, rfl, hk, hx, rfl⟩, Or.inr ⟨rfl, rfl, rfl, rfl, ?_, ?_⟩⟩
    · unfold f_X7_order f_X7_order_b13
      simp only [fa_lit]
      rw [h2]
      simp only [bs]
      rw [if_neg (by decide), if_pos (show nI 0 ≤ nI 0 from Int32.le_refl _), r1]
      simp only [bs]
      rw [r3]
      simp only [bs]
      rw [r5]
      simp only [bs]
      rw [r_crossings r6 hwf]
      rfl
    · obtain ⟨bp, bf, bt, bw, q1, q2⟩ := p_saveA hDc w1 ho w2
      refine ⟨pl', g1', g2', g3', bp, bf, bt, bw, _, _, ?_, hCI, q2⟩
      unfold f_X6_orderA
      rw [p_checkColumn hc]
      simp only [xbs]
      rw [q1]
      simp only [bs]
      rw [p1]
      simp only [bs]
      rw [p3]
      simp only [bs]
      rw [show f_X1_allCrossings pl' fr to wd (nI (dN (sD S))) = _ from hx9]
      simp only [bs]
    · intro cp cf ct cw cn ctr
      obtain ⟨bp, bf, bt, bw, q1, q2⟩ := p_saveB (bp := cp) (bf := cf) (bt := ct) (bw := cw) (bn := cn) (btr := ctr) hDc w1 ho w2
      refine ⟨pl', g1', g2', g3', bp, bf, bt, bw, _, _, ?_, hCI, q2⟩
      unfold f_X6_orderB
      rw [p_checkColumn hc]
      simp only [xbs]
      rw [q1]
      simp only [bs]
      rw [p1]
      simp only [bs]
      rw [p3]
      simp only [bs]
      rw [show f_X1_allCrossings pl' fr to wd (nI (dN (sD S))) = _ from hx9]
      simp only [bs]

theorem sm_sweep (hC : CI pl fr to wd n tr po ph tc tl o S) (hR : RI z sv sl kp tx sa ln S) (hS : WS S) (m1 m2 g1 g2 g3 : Nat → Int32) :
    ∃ (k : Nat) (v : Int32) (S' : ST), WS S' ∧ (∃ r z' sv' sa' m1' m2', f_X7_sweep th z sv sa m1 m2 = some (r, nI k, z', sv', sa', m1', m2') ∧ (k = 0 → r = v) ∧ RI z' sv' sl kp tx sa' ln S') ∧
      (k = 0 ∧ sK S' = sK S ∧ sH S' = nH (sH S) ∧ sL S' = sv1 (sH S) (sL S) (sD S) ∧
        (∃ pl' g1' g2' g3' bp bf bt bw bn btr, f_X6_sweepA fr to wd n tr pl po ph g1 g2 g3 = some (v, pl', nI (nO o (sH S)), nI (nH (sH S)), g1', g2', g3', bf, bt, bw, bn, btr, bp) ∧ CI pl' fr to wd n tr (nI (nO o (sH S))) (nI (nH (sH S))) tc tl (nO o (sH S)) S' ∧ DC bp bf bt bw bn btr (sD S)) ∧
        ∀ (cp cf ct cw : Nat → Int32) (cn ctr : Int32), ∃ pl' g1' g2' g3' bp bf bt bw bn btr, f_X6_sweepB fr to wd n tr pl po ph g1 g2 g3 cp cf ct cw cn ctr = some (v, pl', nI (nO o (sH S)), nI (nH (sH S)), g1', g2', g3', bp, bf, bt, bw, bn, btr) ∧ CI pl' fr to wd n tr (nI (nO o (sH S))) (nI (nH (sH S))) tc tl (nO o (sH S)) S' ∧ DC bp bf bt bw bn btr (sD S)) := by
  obtain ⟨hD, ho, rfl, rfl, ht, rfl⟩ := id hC
  obtain ⟨hz, hv, rfl, hk, hx, rfl⟩ := id hR
  obtain ⟨w1, w2, w3, w4, w5, w6⟩ := id hS
  have hDc := hD
  obtain ⟨rfl, rfl, hpl, hf, hg, hd⟩ := hD
  have hn20 := w1.1
  obtain ⟨sv', r1, r2⟩ := r_save w2 hv hz w1
  have hwf := swA_wf w1
  obtain ⟨g1', g2', g3', pl', p1, p2⟩ := p_sweepColumns (s := g1) (m := g2) (row := g3) hf hg w1 hpl
  obtain ⟨z', m1', m2', r3, r4⟩ := r_sweep (s := m1) (m := m2) (sv := sv') (th := nI 0) (sa := nI (nH (sH S))) hz w1
  have hx9 := p_allCrossings (D := swA (sD S)) p2 hf hg hd hwf
  have hCI : CI pl' fr to wd (nI (dN (sD S))) (dT (sD S)) (nI (nO o (sH S))) (nI (nH (sH S))) tc (nI (sN' S)) (nO o (sH S)) (svS S (swA (sD S))) := ⟨⟨rfl, rfl, p2, hf, hg, hd⟩, nO_lt ho, rfl, rfl, ht, rfl⟩
  refine ⟨0, nI (xAll (swA (sD S))), svS S (swA (sD S)), svS_ws hS hwf, ⟨nI (xAll (swA (sD S))), z', sv', _, m1', m2', ?_, fun _ => rfl, r4, r2, rfl, hk, hx, rfl⟩, ⟨rfl, rfl, rfl, rfl, ?_, ?_⟩⟩
  · unfold f_X7_sweep
    simp only [fa_lit]
    rw [r1]
    simp only [bs]
    exact r3
  · obtain ⟨bp, bf, bt, bw, q1, q2⟩ := p_saveA hDc w1 ho w2
    refine ⟨pl', g1', g2', g3', bp, bf, bt, bw, _, _, ?_, hCI, q2⟩
    unfold f_X6_sweepA
    rw [q1]
    simp only [bs]
    rw [p1]
    simp only [bs]
    rw [show f_X1_allCrossings pl' fr to wd (nI (dN (sD S))) = _ from hx9]
    simp only [bs]
  · intro cp cf ct cw cn ctr
    obtain ⟨bp, bf, bt, bw, q1, q2⟩ := p_saveB (bp := cp) (bf := cf) (bt := ct) (bw := cw) (bn := cn) (btr := ctr) hDc w1 ho w2
    refine ⟨pl', g1', g2', g3', bp, bf, bt, bw, _, _, ?_, hCI, q2⟩
    unfold f_X6_sweepB
    rw [q1]
    simp only [bs]
    rw [p1]
    simp only [bs]
    rw [show f_X1_allCrossings pl' fr to wd (nI (dN (sD S))) = _ from hx9]
    simp only [bs]

theorem sm_settle (hC : CI pl fr to wd n tr po ph tc tl o S) (hR : RI z sv sl kp tx sa ln S) (hS : WS S) :
    ∃ (k : Nat) (v : Int32) (S' : ST), WS S' ∧ (∃ r z' sv' sa', f_X7_settle th z sv sa = some (r, nI k, z', sv', sa') ∧ (k = 0 → r = v) ∧ RI z' sv' sl kp tx sa' ln S') ∧
      (k = 0 ∧ sK S' = sK S ∧ sH S' = nH (sH S) ∧ sL S' = sv1 (sH S) (sL S) (sD S) ∧
        (∃ wd' tr' bp bf bt bw bn btr, f_X6_settleA pl fr to n wd tr po ph = some (v, wd', tr', nI (nO o (sH S)), nI (nH (sH S)), bf, bt, bw, bn, btr, bp) ∧ CI pl fr to wd' n tr' (nI (nO o (sH S))) (nI (nH (sH S))) tc tl (nO o (sH S)) S' ∧ DC bp bf bt bw bn btr (sD S)) ∧
        ∀ (cp cf ct cw : Nat → Int32) (cn ctr : Int32), ∃ wd' tr' bp bf bt bw bn btr, f_X6_settleB pl fr to n wd tr po ph cp cf ct cw cn ctr = some (v, wd', tr', nI (nO o (sH S)), nI (nH (sH S)), bp, bf, bt, bw, bn, btr) ∧ CI pl fr to wd' n tr' (nI (nO o (sH S))) (nI (nH (sH S))) tc tl (nO o (sH S)) S' ∧ DC bp bf bt bw bn btr (sD S)) := by
  obtain ⟨hD, ho, rfl, rfl, ht, rfl⟩ := id hC
  obtain ⟨hz, hv, rfl, hk, hx, rfl⟩ := id hR
  obtain ⟨w1, w2, w3, w4, w5, w6⟩ := id hS
  have hDc := hD
  obtain ⟨rfl, rfl, hpl, hf, hg, hd⟩ := hD
  have hn20 := w1.1
  obtain ⟨sv', r1, r2⟩ := r_save w2 hv hz w1
  obtain ⟨Q, E, hwf, e1, e2, e3, e4, -, s1, s2⟩ := settle_all w1
  obtain ⟨wd', p1, p2⟩ := s1 fr to wd hf hg hd
  obtain ⟨z', r3, r4⟩ := s2 z hz
  have hCI : CI pl fr to wd' (nI (dN (sD S))) (dT E) (nI (nO o (sH S))) (nI (nH (sH S))) tc (nI (sN' S)) (nO o (sH S)) (svS S E) := ⟨⟨by rw [show dN (sD (svS S E)) = dN (sD S) from e1], rfl, by rw [show dP (sD (svS S E)) = dP (sD S) from e4]; exact hpl, by rw [show dF (sD (svS S E)) = dF (sD S) from e2, show dN (sD (svS S E)) = dN (sD S) from e1]; exact hf, by rw [show dG (sD (svS S E)) = dG (sD S) from e3, show dN (sD (svS S E)) = dN (sD S) from e1]; exact hg, by rw [show dN (sD (svS S E)) = dN (sD S) from e1]; exact p2⟩, nO_lt ho, rfl, rfl, ht, rfl⟩
  refine ⟨0, nI Q, svS S E, svS_ws hS hwf, ⟨nI Q, z', sv', _, ?_, fun _ => rfl, r4, r2, rfl, hk, hx, rfl⟩, ⟨rfl, rfl, rfl, rfl, ?_, ?_⟩⟩
  · unfold f_X7_settle
    simp only [fa_lit]
    rw [r1]
    simp only [bs]
    rw [r3]
    rfl
  · obtain ⟨bp, bf, bt, bw, q1, q2⟩ := p_saveA hDc w1 ho w2
    refine ⟨wd', _, bp, bf, bt, bw, _, _, ?_, hCI, q2⟩
    unfold f_X6_settleA
    rw [q1]
    simp only [bs]
    rw [p1]
    simp only [bs]
  · intro cp cf ct cw cn ctr
    obtain ⟨bp, bf, bt, bw, q1, q2⟩ := p_saveB (bp := cp) (bf := cf) (bt := ct) (bw := cw) (bn := cn) (btr := ctr) hDc w1 ho w2
    refine ⟨wd', _, bp, bf, bt, bw, _, _, ?_, hCI, q2⟩
    unfold f_X6_settleB
    rw [q1]
    simp only [bs]
    rw [p1]
    simp only [bs]

end
