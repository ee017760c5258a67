/-! ===== both sides: keep, the text, what is asked of posts and ribbons ===== -/
def kpS (S : ST) (c : Nat) : ST := (sD S, sH S, sL S, (fun i => if i = c then some (sD S) else sK S i), sN' S, sT S)
theorem kpS_ws {S : ST} (h : WS S) (c : Nat) : WS (kpS S c) := by
  obtain ⟨h1, h2, h3, h4, h5, h6⟩ := h
  refine ⟨h1, h2, h3, fun i E hi he => ?_, h5, h6⟩
  have he : (if i = c then some (sD S) else sK S i) = some E := he
  by_cases d : i = c
  · rw [if_pos d] at he
    rw [← Option.some.inj he]
    exact h1
  · rw [if_neg d] at he
    exact h4 i E hi he
theorem vb1 : vp_nar .boolean (nI 1) = bI true := by decide
section
variable {pl fr to wd : Nat → Int32} {n tr po ph tl : Int32} {tc : Nat → Int32} {o : Nat} {S : ST} {z sv sl kp tx : Nat → Int32} {sa ln th : Int32}
theorem sm_keep (hC : CI pl fr to wd n tr po ph tc tl o S) (hR : RI z sv sl kp tx sa ln S) (hS : WS S) (x1 : Int32) :
    ∃ (k : Nat) (v : Int32) (S' : ST), WS S' ∧ (∃ r sl' kp', f_X7_keep z x1 th sl kp = some (r, nI k, sl', kp') ∧ (k = 0 → r = v) ∧ RI z sv sl' kp' tx sa ln S') ∧
      ((∃ E, f_X6_keepT x1 = some E ∧ KE (some eIA) none none k E ∧ S' = S) ∨
       (k = 0 ∧ ∃ c, c < 2 ∧ x1 = nI c ∧ S' = kpS S c ∧
        (∃ bp bf bt bw bn btr, f_X6_keepA pl fr to wd n tr x1 = some (.inr (v, bf, bn, btr, bt, bw, bp)) ∧ DC bp bf bt bw bn btr (sD S)) ∧
        ∀ (cp cf ct cw : Nat → Int32) (cn ctr : Int32), ∃ bp bf bt bw bn btr, f_X6_keepB pl fr to wd n tr x1 cp cf ct cw cn ctr = some (.inr (v, bp, bf, bt, bw, bn, btr)) ∧ DC bp bf bt bw bn btr (sD S))) := by
  obtain ⟨hD, ho, rfl, rfl, ht, rfl⟩ := id hC
  obtain ⟨hz, hv, rfl, hk, hx, rfl⟩ := id hR
  obtain ⟨w1, w2, w3, w4, w5, w6⟩ := id hS
  rcases slot_arg x1 with ⟨c, hc, rfl, h1, h2, h3⟩ | ⟨h1, h3⟩
  · have hlp := loopI (fun F i (x : Nat → Int32) => f_X7_keep_b29 z (nI c) F i (nI 0) x kp) (fun x => some (z 0, nI 0, x, upd kp c (bI true))) (fun i x => (∀ k, k < i → x (78 * c + k) = z k) ∧ ∀ j, (j < 78 * c ∨ 78 * c + 78 ≤ j) → x j = sl j) 78 ?_ ?_ 78 0 FU sl (by omega) (FU_big (by omega)) ⟨fun k hk => by omega, fun _ _ => rfl⟩
    · obtain ⟨sl', q1, q2, q3⟩ := hlp
      refine ⟨0, n, kpS S c, kpS_ws hS c, ⟨z 0, sl', upd kp c (bI true), ?_, fun _ => by rw [hz.1, hD.1], hz, hv, rfl, fun i hi => ?_, hx, rfl⟩, Or.inr ⟨rfl, c, hc, rfl, rfl, ?_, fun cp cf ct cw cn ctr => ?_⟩⟩
      · unfold f_X7_keep f_X7_keep_b15
        simp only [fa_lit]
        rw [h3]
        simp only [bs]
        rw [if_neg (by decide), if_pos (show nI 0 ≤ nI 0 from Int32.le_refl _)]
        exact q1
      · obtain ⟨hk1, hk2⟩ := hk i hi
        show upd kp c (bI true) i = bI (if i = c then some (sD S) else sK S i).isSome ∧ ∀ E, (if i = c then some (sD S) else sK S i) = some E → DZ (fun k => sl' (78 * i + k)) E
        by_cases d : i = c
        · subst d
          rw [if_pos rfl, upd_q]
          refine ⟨rfl, fun E he => ?_⟩
          rw [← Option.some.inj he]
          exact DZ_cong w1 q2 hz
        · rw [if_neg d, upd_w (by omega)]
          exact ⟨hk1, fun E he => DZ_cong (w4 i E hi he) (fun k hk => q3 _ (by omega)) (hk2 E he)⟩
      · obtain ⟨pl0, i1, -⟩ := p_init
        obtain ⟨p, f, t, w, p1, p2⟩ := p_copyFrom (dp := pl0) (df := fun _ => nI 0) (dt := fun _ => nI 0) (dw := fun _ => nI 0) (dn := nI 0) (dtr := nI 0) hD w1
        refine ⟨p, f, t, w, n, tr, ?_, p2⟩
        unfold f_X6_keepA f_X6_keepA_b30
        rw [h2]
        simp only [xbs]
        rw [if_pos (gd_nI hc (by omega)), i1]
        simp only [bs, fa_lit]
        rw [if_pos (gd_nI hc (by omega)), p1]
        simp only [bs]
      · obtain ⟨p, f, t, w, p1, p2⟩ := p_copyFrom (dp := cp) (df := cf) (dt := ct) (dw := cw) (dn := cn) (dtr := ctr) hD w1
        refine ⟨p, f, t, w, n, tr, ?_, p2⟩
        unfold f_X6_keepB f_X6_keepB_b30
        rw [h2]
        simp only [xbs]
        rw [if_pos (gd_nI hc (by omega)), p1]
        simp only [bs]
    · intro F i x hi hI
      refine ⟨upd x (78 * c + i) (z i), ?_, fun k hk => ?_, fun j hj => ?_⟩
      · simp only [f_X7_keep_b29, fa_lit, nme]
        rw [if_neg (nle_nI (by omega) (by omega) hi), if_pos (gd_nI hi (by omega)), pk_mul, nI_step, if_pos (gd_nI (by omega) (by omega)), cl_nI (by omega), cl_nI (by omega), nI_step]
      · by_cases q : k = i
        · rw [q, upd_q]
        · rw [upd_w (by omega)]; exact hI.1 k (by omega)
      · rw [upd_w (by omega)]; exact hI.2 j hj
    · intro F x _
      simp only [f_X7_keep_b29, fa_lit]
      rw [if_pos ((le_nI (by omega) (by omega)).mpr (Nat.le_refl _)), if_pos (gd_nI hc (by omega)), vb1, z0, cl_nI (show c < 2147483648 by omega)]
  · refine ⟨1, nI 0, S, hS, ⟨nI 0, sl, kp, ?_, fun h => by omega, hR⟩, Or.inl ⟨eIA, ?_, KE1 rfl, rfl⟩⟩
    · unfold f_X7_keep f_X7_keep_b15
      simp only [fa_lit]
      rw [h3]
      simp only [bs]
      rw [if_pos trivial, if_neg (nle_nI (by omega) (by omega) (by omega))]
    · unfold f_X6_keepT
      rw [h1, tb_s]
/-- a code of a text, or not -/
theorem code_arg (x : Int32) : (∃ c, 33 ≤ c ∧ c ≤ 126 ∧ x = nI c ∧ f_X7_in x (nI 33) (nI 126) = some (nI 1)) ∨ ((x < nI 33 ∨ ¬ x ≤ nI 126) ∧ f_X7_in x (nI 33) (nI 126) = some (nI 0)) := by
  by_cases h1 : x < nI 33
  · refine Or.inr ⟨Or.inl h1, ?_⟩
    rw [r_inX, decide_eq_true h1]
    rfl
  · by_cases h2 : x ≤ nI 126
    · rw [i_lt (by omega)] at h1
      rw [i_le (by omega)] at h2
      have e : x = nI x.toInt.toNat := by
        refine Int32.toInt_inj.mp ?_
        rw [nI_toInt (by omega)]
        omega
      refine Or.inl ⟨x.toInt.toNat, by omega, by omega, e, ?_⟩
      rw [e, r_in (by omega) (by omega) (by omega), decide_eq_true ⟨by omega, by omega⟩]
      rfl
    · refine Or.inr ⟨Or.inr h2, ?_⟩
      rw [r_inX, decide_eq_false h1]
      have h3 : nI 126 < x := by rw [i_gt (by omega)]; rw [i_le (by omega)] at h2; omega
      rw [decide_eq_true h3]
      simp [bI]
def apS (S : ST) (c : Nat) : ST := (sD S, sH S, sL S, sK S, sN' S + 1, fun k => if k = sN' S then c else sT S k)
theorem sm_append (hC : CI pl fr to wd n tr po ph tc tl o S) (hR : RI z sv sl kp tx sa ln S) (hS : WS S) (x1 : Int32) :
    ∃ (k : Nat) (v : Int32) (S' : ST), WS S' ∧ (∃ r tx' ln', f_X7_append x1 th tx ln = some (r, nI k, tx', ln') ∧ (k = 0 → r = v) ∧ RI z sv sl kp tx' sa ln' S') ∧
      ((∃ E, f_X6_appendT tl x1 = some E ∧ KE (some eIA) (some eIS) none k E ∧ S' = S) ∨
       (k = 0 ∧ sK S' = sK S ∧ sH S' = sH S ∧ sL S' = sL S ∧ ∃ tc' tl', f_X6_append x1 tc tl = some (.inr (v, tc', tl')) ∧ CI pl fr to wd n tr po ph tc' tl' o S')) := by
  obtain ⟨hD, ho, rfl, rfl, ht, rfl⟩ := id hC
  obtain ⟨hz, hv, rfl, hk, hx, rfl⟩ := id hR
  obtain ⟨w1, w2, w3, w4, w5, w6⟩ := id hS
  have hb30 : ∀ k, 1 ≤ k → k ≤ 3 → f_X7_append_b30 x1 (nI k) th tx (nI (sN' S)) = some (nI 0, nI k, tx, nI (sN' S)) := by
    intro k h1 h2
    unfold f_X7_append_b30
    simp only [fa_lit]
    rw [if_neg (nle_nI (by omega) (by omega) (by omega))]
  rcases code_arg x1 with ⟨c, h1, h2, rfl, h3⟩ | ⟨h1, h3⟩
  · by_cases q : sN' S = 60
    · refine ⟨2, nI 0, S, hS, ⟨nI 0, tx, _, ?_, fun h => by omega, hR⟩, Or.inl ⟨eIS, ?_, KE2 rfl, rfl⟩⟩
      · unfold f_X7_append
        simp only [fa_lit]
        rw [h3]
        simp only [bs]
        rw [if_neg (by decide), if_pos (by rw [q])]
        exact hb30 2 (by omega) (by omega)
      · unfold f_X6_appendT
        simp only [fa_lit]
        rw [if_neg (nlt_nI (by omega) (by omega) (by omega)), if_pos ((le_nI (by omega) (by omega)).mpr (by omega)), if_neg (nlt_nI (by omega) (by omega) (by omega))]
    · refine ⟨0, nI (sN' S + 1), apS S c, ⟨w1, w2, w3, w4, show sN' S + 1 ≤ 60 by omega, fun k hk => ?_⟩, ⟨nI (sN' S + 1), upd tx (sN' S) (nI c), nI (sN' S + 1), ?_, fun _ => rfl, hz, hv, rfl, hk, RR_add hx, rfl⟩, Or.inr ⟨rfl, rfl, rfl, rfl, upd tc (sN' S) (nI c), nI (sN' S + 1), ?_, hD, ho, rfl, rfl, RR_add ht, rfl⟩⟩
      · have hk : k < sN' S + 1 := hk
        show 33 ≤ (if k = sN' S then c else sT S k) ∧ (if k = sN' S then c else sT S k) ≤ 126
        by_cases d : k = sN' S
        · rw [if_pos d]; omega
        · rw [if_neg d]; exact w6 k (by omega)
      · unfold f_X7_append f_X7_append_b30
        simp only [fa_lit, nme]
        rw [h3]
        simp only [bs]
        rw [if_neg (by decide), if_neg (by rw [eq_nI (by omega) (by omega)]; exact q), if_pos (show nI 0 ≤ nI 0 from Int32.le_refl _), if_pos (gd_nI (by omega) (by omega)), nI_step, cl_nI (by omega)]
      · unfold f_X6_append f_X4_addCode
        simp only [fa_lit, nme]
        rw [if_neg (nlt_nI (by omega) (by omega) (by omega)), if_pos ((le_nI (by omega) (by omega)).mpr (by omega)), if_pos ((lt_nI (by omega) (by omega)).mpr (by omega)), if_pos (gd_nI (by omega) (by omega)), nI_step, cl_nI (by omega), if_neg (nlt_nI (by omega) (by omega) (by omega)), if_neg (nle_nI (by omega) (by omega) (by omega))]
        rfl
  · refine ⟨1, nI 0, S, hS, ⟨nI 0, tx, _, ?_, fun h => by omega, hR⟩, Or.inl ⟨eIA, ?_, KE1 rfl, rfl⟩⟩
    · unfold f_X7_append
      simp only [fa_lit]
      rw [h3]
      simp only [bs]
      rw [if_pos trivial]
      exact hb30 1 (by omega) (by omega)
    · unfold f_X6_appendT
      simp only [fa_lit]
      by_cases d : x1 < nI 33
      · rw [if_pos d]
      · rw [if_neg d, if_neg (h1.resolve_left d)]
def cbS (S : ST) : ST := (sD S, sH S, sL S, sK S, 0, sT S)
theorem sm_clearBuffer (hC : CI pl fr to wd n tr po ph tc tl o S) (hR : RI z sv sl kp tx sa ln S) (hS : WS S) :
    ∃ (v : Int32) (S' : ST), WS S' ∧ (∃ ln', f_X7_clearBuffer th ln = some (v, nI 0, ln') ∧ RI z sv sl kp tx sa ln' S') ∧
      (sK S' = sK S ∧ sH S' = sH S ∧ sL S' = sL S ∧ ∃ tl', f_X6_clearBuffer tl = some (v, tl') ∧ CI pl fr to wd n tr po ph tc tl' o S') := by
  obtain ⟨hD, ho, rfl, rfl, ht, rfl⟩ := id hC
  obtain ⟨hz, hv, rfl, hk, hx, rfl⟩ := id hR
  obtain ⟨w1, w2, w3, w4, w5, w6⟩ := id hS
  refine ⟨nI (sN' S), cbS S, ⟨w1, w2, w3, w4, Nat.zero_le _, fun k hk => absurd hk (Nat.not_lt_zero k)⟩, ⟨nI 0, ?_, hz, hv, rfl, hk, fun k hk => absurd hk (Nat.not_lt_zero k), rfl⟩, rfl, rfl, rfl, nI 0, ?_, hD, ho, rfl, rfl, fun k hk => absurd hk (Nat.not_lt_zero k), rfl⟩
  · unfold f_X7_clearBuffer
    simp only [fa_lit]
  · unfold f_X6_clearBuffer f_X4_empty
    simp only [bs, fa_lit]
theorem sm_firstError (hC : CI pl fr to wd n tr po ph tc tl o S) (hR : RI z sv sl kp tx sa ln S) (hS : WS S) (rd : Nat → Int32) (rds : Int32) :
    ∃ (v : Int32), (∃ rd' rds', f_X7_firstError tx ln th rd rds = some (v, nI 0, rd', rds')) ∧ f_X6_firstError tc tl = some v := by
  obtain ⟨hD, ho, rfl, rfl, ht, rfl⟩ := id hC
  obtain ⟨hz, hv, rfl, hk, hx, rfl⟩ := id hR
  obtain ⟨w1, w2, w3, w4, w5, w6⟩ := id hS
  obtain ⟨e, rd', R, m, g1, g2, g3, g4, g5, g6, g7⟩ := tx_all ht hx w5 (fun k hk => (w6 k hk).2) rd rds
  refine ⟨nI (e.getD (sN' S)), ⟨rd', nI m, ?_⟩, ?_⟩
  · unfold f_X7_firstError
    rw [g1]
    simp only [bs, fa_lit]
    cases e with
    | none =>
      rw [oI_n, if_neg (show ¬ nI 0 ≤ -nI 1 by decide)]
      rfl
    | some x =>
      have hxn : x ≤ sN' S := g4
      rw [oI_s, if_pos ((le_nI (by omega) (by omega)).mpr (Nat.zero_le _))]
      rfl
  · unfold f_X6_firstError
    rw [g5]
    simp only [bs]
/-- a number below n, or none of the first n numbers -/
theorem arg_ne {x : Int32} {n : Nat} (h : x < nI 0 ∨ nI n ≤ x) (hn : n < 2147483648) {k : Nat} (hk : k < n) : ¬ x = nI k := by
  intro e
  rcases h with h | h
  · rw [e, i_lt (by omega), nI_toInt (by omega)] at h; omega
  · rw [e, i_ge hn, nI_toInt (by omega)] at h; omega
theorem sm_postOf (hC : CI pl fr to wd n tr po ph tc tl o S) (hR : RI z sv sl kp tx sa ln S) (hS : WS S) (x1 x2 : Int32) :
    ∃ (k : Nat) (v : Int32), (∃ r, f_X7_postOf z x1 x2 th = some (r, nI k) ∧ (k = 0 → r = v)) ∧
      ((∃ E, f_X6_postOfT pl fr to wd n x1 x2 = some E ∧ KE (some eIO) (some eIA) none k E) ∨ (k = 0 ∧ f_X6_postOf pl fr to wd n x1 x2 = some (.inr v))) := by
  obtain ⟨hD, ho, rfl, rfl, ht, rfl⟩ := id hC
  obtain ⟨hz, hv, rfl, hk, hx, rfl⟩ := id hR
  obtain ⟨w1, w2, w3, w4, w5, w6⟩ := id hS
  obtain ⟨rfl, rfl, hpl, hf, hg, hd⟩ := hD
  have hb : ∀ k, 1 ≤ k → k ≤ 3 → f_X7_postOf_b27 z x1 x2 (nI k) th = some (nI 0, nI k) := by
    intro k h1 h2
    unfold f_X7_postOf_b27
    simp only [fa_lit]
    rw [if_neg (nle_nI (by omega) (by omega) (by omega))]
  rcases (arg_lt x1 16 (by omega)).symm with h1 | ⟨p, hp, rfl⟩
  · refine ⟨1, nI 0, ⟨nI 0, ?_, fun h => by omega⟩, Or.inl ⟨eIO, ?_, KE1 rfl⟩⟩
    · unfold f_X7_postOf
      simp only [fa_lit]
      rw [r_isPost_out h1]
      simp only [bs]
      rw [if_pos trivial]
      exact hb 1 (by omega) (by omega)
    · unfold f_X6_postOfT
      rw [checkPost_out h1, tb_s]
  rcases (arg_lt x2 8 (by omega)).symm with h2 | ⟨k, hk8, rfl⟩
  · refine ⟨2, nI 0, ⟨nI 0, ?_, fun h => by omega⟩, Or.inl ⟨eIA, ?_, KE2 rfl⟩⟩
    · unfold f_X7_postOf
      simp only [fa_lit]
      rw [r_isPost (by omega), r_in_out (by omega) h2]
      simp only [bs, bI_0]
      rw [if_neg (by rw [decide_eq_true hp]; decide), if_pos trivial]
      exact hb 2 (by omega) (by omega)
    · unfold f_X6_postOfT
      rw [(checkPost_in hp).1, (checkPost_in hp).2, tb_n]
      simp only [bs, fa_lit]
      rw [if_neg (arg_ne h2 (by omega) (by omega)), if_neg (arg_ne h2 (by omega) (by omega)), if_neg (arg_ne h2 (by omega) (by omega)), if_neg (arg_ne h2 (by omega) (by omega)), if_neg (arg_ne h2 (by omega) (by omega)), if_neg (arg_ne h2 (by omega) (by omega)), if_neg (arg_ne h2 (by omega) (by omega)), if_neg (arg_ne h2 (by omega) (by omega))]
  · refine ⟨0, nI (pV (sD S) p k), ⟨_, ?_, fun _ => rfl⟩, Or.inr ⟨rfl, p_postOf hpl hf hg hd w1 hp hk8⟩⟩
    unfold f_X7_postOf f_X7_postOf_b27
    simp only [fa_lit]
    rw [r_isPost (by omega), r_in (by omega) (by omega) (by omega), r_postNow hz w1 hp hk8]
    simp only [bs, bI_0]
    rw [if_neg (by rw [decide_eq_true hp]; decide), if_neg (by rw [decide_eq_true ⟨Nat.zero_le _, by omega⟩]; decide), if_pos (show nI 0 ≤ nI 0 from Int32.le_refl _)]
theorem sm_ribbonOf (hC : CI pl fr to wd n tr po ph tc tl o S) (hR : RI z sv sl kp tx sa ln S) (hS : WS S) (x1 x2 : Int32) :
    ∃ (k : Nat) (v : Int32), (∃ r, f_X7_ribbonOf z x1 x2 th = some (r, nI k) ∧ (k = 0 → r = v)) ∧
      ((∃ E, f_X6_ribbonOfT pl fr to wd n x1 x2 = some E ∧ KE (some eIO) (some eIA) none k E) ∨ (k = 0 ∧ f_X6_ribbonOf pl fr to wd n x1 x2 = some (.inr v))) := by
  obtain ⟨hD, ho, rfl, rfl, ht, rfl⟩ := id hC
  obtain ⟨hz, hv, rfl, hk, hx, rfl⟩ := id hR
  obtain ⟨w1, w2, w3, w4, w5, w6⟩ := id hS
  obtain ⟨rfl, rfl, hpl, hf, hg, hd⟩ := hD
  have hn20 := w1.1
  have hb : ∀ k, 1 ≤ k → k ≤ 3 → f_X7_ribbonOf_b27 z x1 x2 (nI k) th = some (nI 0, nI k) := by
    intro k h1 h2
    unfold f_X7_ribbonOf_b27
    simp only [fa_lit]
    rw [if_neg (nle_nI (by omega) (by omega) (by omega))]
  rcases (arg_lt x1 (dN (sD S)) (by omega)).symm with h1 | ⟨p, hp, rfl⟩
  · refine ⟨1, nI 0, ⟨nI 0, ?_, fun h => by omega⟩, Or.inl ⟨eIO, ?_, KE1 rfl⟩⟩
    · unfold f_X7_ribbonOf
      simp only [fa_lit]
      rw [r_isRibbon_out hz w1 h1]
      simp only [bs]
      rw [if_pos trivial]
      exact hb 1 (by omega) (by omega)
    · unfold f_X6_ribbonOfT
      rw [checkRibbon_out hn20 h1, tb_s]
  rcases (arg_lt x2 5 (by omega)).symm with h2 | ⟨k, hk8, rfl⟩
  · refine ⟨2, nI 0, ⟨nI 0, ?_, fun h => by omega⟩, Or.inl ⟨eIA, ?_, KE2 rfl⟩⟩
    · unfold f_X7_ribbonOf
      simp only [fa_lit]
      rw [r_isRibbon hz w1 (by omega), r_in_out (by omega) h2]
      simp only [bs, bI_0]
      rw [if_neg (by rw [decide_eq_true hp]; decide), if_pos trivial]
      exact hb 2 (by omega) (by omega)
    · unfold f_X6_ribbonOfT
      rw [(checkRibbon_in hn20 hp).1, (checkRibbon_in hn20 hp).2.1, tb_n]
      simp only [bs, fa_lit]
      rw [if_neg (arg_ne h2 (by omega) (by omega)), if_neg (arg_ne h2 (by omega) (by omega)), if_neg (arg_ne h2 (by omega) (by omega)), if_neg (arg_ne h2 (by omega) (by omega)), if_neg (arg_ne h2 (by omega) (by omega))]
  · refine ⟨0, nI (rV (sD S) p k), ⟨_, ?_, fun _ => rfl⟩, Or.inr ⟨rfl, p_ribbonOf hpl hf hg hd w1 hp hk8⟩⟩
    unfold f_X7_ribbonOf f_X7_ribbonOf_b27
    simp only [fa_lit]
    rw [r_isRibbon hz w1 (by omega), r_in (by omega) (by omega) (by omega), r_ribbonNow hz w1 hp hk8]
    simp only [bs, bI_0]
    rw [if_neg (by rw [decide_eq_true hp]; decide), if_neg (by rw [decide_eq_true ⟨Nat.zero_le _, by omega⟩]; decide), if_pos (show nI 0 ≤ nI 0 from Int32.le_refl _)]
end
