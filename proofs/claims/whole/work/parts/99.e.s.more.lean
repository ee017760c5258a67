/-! ===== both sides: texts, snapshots, undo ===== -/
def tx0 (S : ST) (E : DR) : ST := (E, nH (sH S), sv1 (sH S) (sL S) (sD S), sK S, 0, sT S)
theorem tx0_ws {S : ST} (h : WS S) {E : DR} (hE : WF E) : WS (tx0 S E) := by
  obtain ⟨h1, h2, h3, h4, h5, h6⟩ := svS_ws h hE
  exact ⟨h1, h2, h3, h4, Nat.zero_le _, fun k hk => absurd hk (Nat.not_lt_zero k)⟩
section
variable {pl fr to wd : Nat → Int32} {n tr po ph tl : Int32} {tc : Nat → Int32} {o : Nat} {S : ST} {z sv sl kp tx : Nat → Int32} {sa ln th : Int32}
theorem sm_load (hC : CI pl fr to wd n tr po ph tc tl o S) (hR : RI z sv sl kp tx sa ln S) (hS : WS S) (rd : Nat → Int32) (rds : Int32) :
    ∃ (k : Nat) (v : Int32) (S' : ST), WS S' ∧ (∃ r z' sv' sa' ln' rd' rds', f_X7_load tx th z sv sa ln rd rds = some (r, nI k, z', sv', sa', ln', rd', rds') ∧ (k = 0 → r = v) ∧ RI z' sv' sl kp tx sa' ln' S') ∧
      ((∃ E, f_X6_loadT tc tl = some E ∧ KE (some eIA) none none k E ∧ S' = S) ∨
       (k = 0 ∧ sK S' = sK S ∧ sH S' = nH (sH S) ∧ sL S' = sv1 (sH S) (sL S) (sD S) ∧
        (∃ fr' to' wd' n' bp bf bt bw bn btr, f_X6_loadA pl tr tc fr to wd n po ph tl = some (.inr (v, fr', to', wd', n', nI (nO o (sH S)), nI (nH (sH S)), nI 0, bf, bt, bw, bn, btr, bp)) ∧ CI pl fr' to' wd' n' tr (nI (nO o (sH S))) (nI (nH (sH S))) tc (nI 0) (nO o (sH S)) S' ∧ DC bp bf bt bw bn btr (sD S)) ∧
        ∀ (cp cf ct cw : Nat → Int32) (cn ctr : Int32), ∃ fr' to' wd' n' bp bf bt bw bn btr, f_X6_loadB pl tr tc fr to wd n po ph tl cp cf ct cw cn ctr = some (.inr (v, fr', to', wd', n', nI (nO o (sH S)), nI (nH (sH S)), nI 0, bp, bf, bt, bw, bn, btr)) ∧ CI pl fr' to' wd' n' tr (nI (nO o (sH S))) (nI (nH (sH S))) tc (nI 0) (nO o (sH S)) S' ∧ DC bp bf bt bw bn btr (sD S))) := by
  obtain ⟨hD, ho, rfl, rfl, ht, rfl⟩ := id hC
  obtain ⟨hz, hv, rfl, hk, hx, rfl⟩ := id hR
  obtain ⟨w1, w2, w3, w4, w5, w6⟩ := id hS
  have hDc := hD
  obtain ⟨rfl, rfl, hpl, hf, hg, hd⟩ := hD
  have hn20 := w1.1
  obtain ⟨e, rd', R, m, g1, g2, g3, g4, g5, g6, g7⟩ := tx_all ht hx w5 (fun k hk => (w6 k hk).2) rd rds
  cases e with
  | some x =>
    have hxn : x ≤ sN' S := g4
    refine ⟨1, nI 0, S, hS, ⟨nI 0, z, sv, _, _, rd', nI m, ?_, fun h => by omega, hR⟩, Or.inl ⟨eIA, ?_, KE1 rfl, rfl⟩⟩
    · unfold f_X7_load f_X7_load_b13
      simp only [fa_lit]
      rw [g1]
      simp only [bs, oI_s]
      rw [if_pos ((le_nI (by omega) (by omega)).mpr (Nat.zero_le _)), if_neg (nle_nI (by omega) (by omega) (by omega))]
    · unfold f_X6_loadT
      rw [g6, decide_eq_false (show ¬ some x = none by simp)]
      simp only [bs, fa_lit]
      rw [if_pos (by decide)]
  | none =>
    obtain ⟨g8, g9⟩ := g7 rfl
    obtain ⟨l1, l2, l3, l4⟩ := loD_wf w1 g3 g8
    obtain ⟨fr', to', wd', p1, p2, p3, p4⟩ := g9 (sD S) fr to wd (nI (dN (sD S)))
    obtain ⟨sv', r1, r2⟩ := r_save w2 hv hz w1
    obtain ⟨z', r3, r4⟩ := r_load38 (u := tx) (sv := sv') (th := nI 0) (sa := nI (nH (sH S))) (len := nI (sN' S)) g3 g2 m 0 FU (upd z 0 (nI 0)) (emD (sD S)) (by omega) (FU_big (by omega)) (DZ_em hz) rfl
    have hCI : CI pl fr' to' wd' (nI m) (dT (sD S)) (nI (nO o (sH S))) (nI (nH (sH S))) tc (nI 0) (nO o (sH S)) (tx0 S (loD (sD S) R m)) := by
      refine ⟨⟨?_, ?_, ?_, ?_, ?_, ?_⟩, nO_lt ho, rfl, rfl, fun k hk => absurd hk (Nat.not_lt_zero k), rfl⟩
      · rw [show sD (tx0 S (loD (sD S) R m)) = loD (sD S) R m from rfl, l2]
      · rw [show sD (tx0 S (loD (sD S) R m)) = loD (sD S) R m from rfl, l3]
      · rw [show sD (tx0 S (loD (sD S) R m)) = loD (sD S) R m from rfl, l4]; exact hpl
      · rw [show sD (tx0 S (loD (sD S) R m)) = loD (sD S) R m from rfl, l2]; exact p2
      · rw [show sD (tx0 S (loD (sD S) R m)) = loD (sD S) R m from rfl, l2]; exact p3
      · rw [show sD (tx0 S (loD (sD S) R m)) = loD (sD S) R m from rfl, l2]; exact p4
    refine ⟨0, nI m, tx0 S (loD (sD S) R m), tx0_ws hS l1, ⟨nI m, z', sv', _, nI 0, rd', nI m, ?_, fun _ => rfl, r4, r2, rfl, hk, fun k hk => absurd hk (Nat.not_lt_zero k), rfl⟩, Or.inr ⟨rfl, rfl, rfl, rfl, ?_, ?_⟩⟩
    · unfold f_X7_load f_X7_load_b13
      simp only [fa_lit]
      rw [g1]
      simp only [bs, oI_n]
      rw [if_neg (show ¬ nI 0 ≤ -nI 1 by decide), if_pos (show nI 0 ≤ nI 0 from Int32.le_refl _), r1]
      simp only [bs]
      rw [z0, r3, show dN (adG R 0 m (emD (sD S))) = m from l2]
      rfl
    · obtain ⟨bp, bf, bt, bw, q1, q2⟩ := p_saveA hDc w1 ho w2
      refine ⟨fr', to', wd', _, bp, bf, bt, bw, _, _, ?_, hCI, q2⟩
      unfold f_X6_loadA f_X4_empty
      rw [g6]
      simp only [bs, fa_lit]
      rw [if_neg (by decide), q1]
      simp only [bs]
      rw [p1]
      simp only [bs]
    · intro cp cf ct cw cn ctr
      obtain ⟨bp, bf, bt, bw, q1, q2⟩ := p_saveB (bp := cp) (bf := cf) (bt := ct) (bw := cw) (bn := cn) (btr := ctr) hDc w1 ho w2
      refine ⟨fr', to', wd', _, bp, bf, bt, bw, _, _, ?_, hCI, q2⟩
      unfold f_X6_loadB f_X4_empty
      rw [g6]
      simp only [bs, fa_lit]
      rw [if_neg (by decide), q1]
      simp only [bs]
      rw [p1]
      simp only [bs]
/-- undo: the state before it -/
def unS (S : ST) : ST := (sL S (sH S - 1), sH S - 1, sL S, sK S, sN' S, sT S)
theorem sm_undo (hC : CI pl fr to wd n tr po ph tc tl o S) (hR : RI z sv sl kp tx sa ln S) (hS : WS S) :
    ∃ (k : Nat) (v : Int32) (S' : ST), WS S' ∧ (∃ r z' sa', f_X7_undo sv th z sa = some (r, nI k, z', sa') ∧ (k = 0 → r = v) ∧ RI z' sv sl kp tx sa' ln S') ∧
      ((∃ E, f_X6_undoT ph = some E ∧ KE (some eIS) none none k E ∧ S' = S) ∨
       (k = 0 ∧ 0 < sH S ∧ S' = unS S ∧ ∀ (cp cf ct cw : Nat → Int32) (cn ctr : Int32), DC cp cf ct cw cn ctr (sL S (sH S - 1)) →
        ∃ pl' fr' to' wd' n' tr', f_X6_undoB po cp cf ct cw cn ctr pl fr to wd n tr ph = some (.inr (v, pl', fr', to', wd', n', tr', v)) ∧ CI pl' fr' to' wd' n' tr' po v tc tl o S')) := by
  obtain ⟨hD, ho, rfl, rfl, ht, rfl⟩ := id hC
  obtain ⟨hz, hv, rfl, hk, hx, rfl⟩ := id hR
  obtain ⟨w1, w2, w3, w4, w5, w6⟩ := id hS
  by_cases c : sH S = 0
  · refine ⟨1, nI 0, S, hS, ⟨nI 0, z, _, ?_, fun h => by omega, hR⟩, Or.inl ⟨eIS, ?_, KE1 rfl, rfl⟩⟩
    · unfold f_X7_undo f_X7_undo_b13
      simp only [fa_lit, nme]
      rw [c, if_pos rfl, if_neg (nle_nI (by omega) (by omega) (by omega))]
    · unfold f_X6_undoT
      simp only [fa_lit]
      rw [c, if_pos rfl]
  · obtain ⟨h, hh⟩ : ∃ h, sH S = h + 1 := ⟨sH S - 1, by omega⟩
    have hun : unS S = (sL S h, h, sL S, sK S, sN' S, sT S) := by unfold unS; rw [hh, Nat.add_sub_cancel]
    rw [hh] at hv w2 w3
    obtain ⟨z', r1, r2, r3, r4⟩ := r_undo (z := z) (th := th) (show h < 6 by omega) hv
    rw [hun, hh]
    refine ⟨0, nI h, (sL S h, h, sL S, sK S, sN' S, sT S), ⟨r3, show h ≤ 6 by omega, fun s hs => w3 s (Nat.lt_succ_of_lt hs), w4, w5, w6⟩, ⟨nI h, z', _, r1, fun _ => rfl, r2, r4, rfl, hk, hx, rfl⟩, Or.inr ⟨rfl, by omega, rfl, fun cp cf ct cw cn ctr hc => ?_⟩⟩
    rw [Nat.add_sub_cancel] at hc
    obtain ⟨p, f, t, w, q1, q2⟩ := p_restoreB (dp := pl) (df := fr) (dt := to) (dw := wd) (dn := n) (dtr := tr) hc r3 ho (show h < 6 by omega)
    refine ⟨p, f, t, w, cn, ctr, ?_, q2, ho, rfl, rfl, ht, rfl⟩
    unfold f_X6_undoB
    simp only [fa_lit]
    rw [if_neg (by rw [eq_nI (by omega) (by omega)]; omega), q1]
    simp only [bs]
theorem sm_goBack (hC : CI pl fr to wd n tr po ph tc tl o S) (hR : RI z sv sl kp tx sa ln S) (hS : WS S) (x1 : Int32) :
    ∃ (k : Nat) (v : Int32) (S' : ST), WS S' ∧ (∃ r z' sv' sa', f_X7_goBack sl kp x1 th z sv sa = some (r, nI k, z', sv', sa') ∧ (k = 0 → r = v) ∧ RI z' sv' sl kp tx sa' ln S') ∧
      ((∃ E, f_X6_goBackS x1 = some E ∧ KE (some eIA) none none k E ∧ S' = S) ∨ (∃ c, c < 2 ∧ x1 = nI c ∧ sK S c = none ∧ f_X6_goBackT x1 = some eIS ∧ k = 2 ∧ S' = S) ∨
       (k = 0 ∧ ∃ c E, c < 2 ∧ x1 = nI c ∧ sK S c = some E ∧ sK S' = sK S ∧ sH S' = nH (sH S) ∧ sL S' = sv1 (sH S) (sL S) (sD S) ∧ ∀ (cp cf ct cw : Nat → Int32) (cn ctr : Int32), DC cp cf ct cw cn ctr E →
        (∃ pl' fr' to' wd' n' tr' bp bf bt bw bn btr, f_X6_goBackA cp cf ct cw cn ctr x1 pl fr to wd n tr po ph = some (.inr (v, pl', fr', to', wd', n', tr', nI (nO o (sH S)), nI (nH (sH S)), bf, bt, bw, bn, btr, bp)) ∧ CI pl' fr' to' wd' n' tr' (nI (nO o (sH S))) (nI (nH (sH S))) tc tl (nO o (sH S)) S' ∧ DC bp bf bt bw bn btr (sD S)) ∧
        ∀ (ep ef et ew : Nat → Int32) (en etr : Int32), ∃ pl' fr' to' wd' n' tr' bp bf bt bw bn btr, f_X6_goBackB cp cf ct cw cn ctr x1 pl fr to wd n tr po ph ep ef et ew en etr = some (.inr (v, pl', fr', to', wd', n', tr', nI (nO o (sH S)), nI (nH (sH S)), bp, bf, bt, bw, bn, btr)) ∧ CI pl' fr' to' wd' n' tr' (nI (nO o (sH S))) (nI (nH (sH S))) tc tl (nO o (sH S)) S' ∧ DC bp bf bt bw bn btr (sD S))) := by
  obtain ⟨hD, ho, rfl, rfl, ht, rfl⟩ := id hC
  obtain ⟨hz, hv, rfl, hk, hx, rfl⟩ := id hR
  obtain ⟨w1, w2, w3, w4, w5, w6⟩ := id hS
  have hb28 : ∀ k, 1 ≤ k → k ≤ 3 → f_X7_goBack_b28 sl kp x1 (nI k) th z sv (nI (sH S)) = some (nI 0, nI k, z, sv, nI (sH S)) := by
    intro k h1 h2
    unfold f_X7_goBack_b28
    simp only [fa_lit]
    rw [if_neg (nle_nI (by omega) (by omega) (by omega))]
  rcases (slot_arg x1).symm with ⟨h1, h2⟩ | ⟨c, hc, rfl, h1, h2, h3⟩
  · refine ⟨1, nI 0, S, hS, ⟨nI 0, z, sv, _, ?_, fun h => by omega, hR⟩, Or.inl ⟨eIA, ?_, KE1 rfl, rfl⟩⟩
    · unfold f_X7_goBack
      simp only [fa_lit]
      rw [h2]
      simp only [bs]
      rw [if_pos trivial]
      exact hb28 1 (by omega) (by omega)
    · unfold f_X6_goBackS
      rw [h1, tb_s]
  obtain ⟨hk1, hk2⟩ := hk c hc
  cases hK : sK S c with
  | none =>
    rw [hK] at hk1
    refine ⟨2, nI 0, S, hS, ⟨nI 0, z, sv, _, ?_, fun h => by omega, hR⟩, Or.inr (Or.inl ⟨c, hc, rfl, hK, ?_, rfl, rfl⟩)⟩
    · unfold f_X7_goBack
      simp only [fa_lit]
      rw [h3]
      simp only [bs]
      rw [if_neg (by decide), if_pos (gd_nI hc (by omega)), cl_nI (by omega), hk1, if_pos (by decide)]
      exact hb28 2 (by omega) (by omega)
    · unfold f_X6_goBackT
      rw [h1, h2, tb_n]
      unfold nr
      simp only [bs]
      rw [if_pos (gd_nI hc (by omega))]
  | some E =>
    rw [hK] at hk1
    have hE := w4 c E hc hK
    have hzE := hk2 E hK
    obtain ⟨sv', r1, r2⟩ := r_save w2 hv hz w1
    have hlp := loopI (fun F i (x : Nat → Int32) => f_X7_goBack_b46 sl kp (nI c) F i (nI 0) x sv' (nI (nH (sH S)))) (fun x => some (x 0, nI 0, x, sv', nI (nH (sH S)))) (fun i x => ∀ k, k < i → x k = sl (78 * c + k)) 78 ?_ ?_ 78 0 FU z (by omega) (FU_big (by omega)) (fun k hk => by omega)
    · obtain ⟨z', q1, q2⟩ := hlp
      have hz' : DZ z' E := DZ_cong hE (fun k hk => q2 k hk) hzE
      refine ⟨0, nI (dN E), svS S E, svS_ws hS hE, ⟨nI (dN E), z', sv', _, ?_, fun _ => rfl, hz', r2, rfl, hk, hx, rfl⟩, Or.inr (Or.inr ⟨rfl, c, E, hc, rfl, hK, rfl, rfl, rfl, fun cp cf ct cw cn ctr hcE => ?_⟩)⟩
      · unfold f_X7_goBack f_X7_goBack_b28
        simp only [fa_lit]
        rw [h3]
        simp only [bs]
        rw [if_neg (by decide), if_pos (gd_nI hc (by omega)), cl_nI (by omega), hk1, if_neg (show ¬ bI (some E).isSome = nI 0 from (by decide : ¬ bI true = nI 0)), if_pos (show nI 0 ≤ nI 0 from Int32.le_refl _), r1]
        simp only [bs]
        rw [q1, hz'.1]
        rfl
      · obtain ⟨p, f, t, w, p1, p2⟩ := p_copyFrom (dp := pl) (df := fr) (dt := to) (dw := wd) (dn := n) (dtr := tr) hcE hE
        have hcn : cn = nI (dN E) := hcE.1
        have hCI : CI p f t w cn ctr (nI (nO o (sH S))) (nI (nH (sH S))) tc (nI (sN' S)) (nO o (sH S)) (svS S E) := ⟨p2, nO_lt ho, rfl, rfl, ht, rfl⟩
        refine ⟨?_, fun ep ef et ew en etr => ?_⟩
        · obtain ⟨bp, bf, bt, bw, q3, q4⟩ := p_saveA hD w1 ho w2
          refine ⟨p, f, t, w, cn, ctr, bp, bf, bt, bw, _, _, ?_, hCI, q4⟩
          unfold f_X6_goBackA
          rw [h2]
          simp only [xbs]
          rw [if_pos (gd_nI hc (by omega)), q3]
          simp only [bs]
          rw [p1]
          simp only [bs]
          rw [hcn]
        · obtain ⟨bp, bf, bt, bw, q3, q4⟩ := p_saveB (bp := ep) (bf := ef) (bt := et) (bw := ew) (bn := en) (btr := etr) hD w1 ho w2
          refine ⟨p, f, t, w, cn, ctr, bp, bf, bt, bw, _, _, ?_, hCI, q4⟩
          unfold f_X6_goBackB
          rw [h2]
          simp only [xbs]
          rw [if_pos (gd_nI hc (by omega)), q3]
          simp only [bs]
          rw [p1]
          simp only [bs]
          rw [hcn]
    · intro F i x hi hI
      refine ⟨upd x i (sl (78 * c + i)), ?_, fun k hk => ?_⟩
      · simp only [f_X7_goBack_b46, fa_lit, nme]
        rw [if_neg (nle_nI (by omega) (by omega) hi), pk_mul, nI_step, if_pos (gd_nI (by omega) (by omega)), if_pos (gd_nI hi (by omega)), cl_nI (by omega), cl_nI (by omega), nI_step]
      · by_cases d : k = i
        · rw [d, upd_q]
        · rw [upd_w d]; exact hI k (by omega)
    · intro F x _
      simp only [f_X7_goBack_b46, fa_lit]
      rw [if_pos ((le_nI (by omega) (by omega)).mpr (Nat.le_refl _)), z0]
end
