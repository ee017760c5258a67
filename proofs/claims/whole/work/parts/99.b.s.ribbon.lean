/-! ===== both sides: ribbon ===== -/
def KE (a b c : Option String) (k : Nat) (E : String) : Prop := (k = 1 ∧ a = some E) ∨ (k = 2 ∧ b = some E) ∨ (k = 3 ∧ c = some E)
theorem KE1 {a b c : Option String} {E : String} (h : a = some E) : KE a b c 1 E := Or.inl ⟨rfl, h⟩
theorem KE2 {a b c : Option String} {E : String} (h : b = some E) : KE a b c 2 E := Or.inr (Or.inl ⟨rfl, h⟩)
theorem KE3 {a b c : Option String} {E : String} (h : c = some E) : KE a b c 3 E := Or.inr (Or.inr ⟨rfl, h⟩)
theorem isPost_out {x : Int32} (h : x < nI 0 ∨ nI 16 ≤ x) : f_X6_isPost x = some (nI 0) := by
  unfold f_X6_isPost
  simp only [fa_lit]
  by_cases c : x < nI 0
  · rw [if_pos c]
  · rw [if_neg c, if_pos (h.resolve_left c)]
theorem checkPost_in {p : Nat} (h : p < 16) : f_X6_checkPostT (nI p) = none ∧ nr (f_X6_checkPost (nI p)) = some () := by
  constructor
  · unfold f_X6_checkPostT
    rw [p_isPost (by omega)]
    simp only [bs, fa_lit, bI_0]
    rw [if_neg (by rw [decide_eq_true h]; decide)]
  · rw [p_checkPost h]
    rfl
theorem checkPost_out {x : Int32} (h : x < nI 0 ∨ nI 16 ≤ x) : f_X6_checkPostT x = some eIO := by
  unfold f_X6_checkPostT
  rw [isPost_out h]
  simp only [bs, fa_lit]
  rw [if_pos trivial]
theorem r_isPost_out {x : Int32} (h : x < nI 0 ∨ nI 16 ≤ x) : f_X7_isPost x = some (nI 0) := by
  unfold f_X7_isPost
  simp only [fa_lit]
  rw [r_in_out (by omega) h]
  simp only [bs]
  rw [if_pos (by decide)]
theorem tb_n (y : Option String) : tb none y = y := rfl
theorem tb_s (e : String) (y : Option String) : tb (some e) y = some e := rfl
theorem columnOf_any (x : Int32) : f_X6_columnOf x = some (x / nI 4) := by
  unfold f_X6_columnOf
  simp only [fa_lit]
/-- a width from 1 on to 50, or not -/
theorem width_arg (x : Int32) : (∃ w, 1 ≤ w ∧ w ≤ 50 ∧ x = nI w) ∨ (x < nI 1 ∨ ¬ x ≤ nI 50) := by
  rcases arg_lt x 51 (by omega) with ⟨w, hw, rfl⟩ | h
  · by_cases c : w = 0
    · subst c
      exact Or.inr (Or.inl ((lt_nI (by omega) (by omega)).mpr (by omega)))
    · exact Or.inl ⟨w, by omega, by omega, rfl⟩
  · refine Or.inr ?_
    rcases h with h | h
    · refine Or.inl ?_
      rw [i_lt (by omega)] at h ⊢
      omega
    · refine Or.inr ?_
      rw [i_ge (by omega)] at h
      rw [i_le (by omega)]
      omega
theorem r_in_w {x : Int32} (h : x < nI 1 ∨ ¬ x ≤ nI 50) : f_X7_in x (nI 1) (nI 50) = some (nI 0) := by
  rw [r_inX]
  rcases h with h | h
  · rw [decide_eq_true h]; rfl
  · have h2 : nI 50 < x := by
      rw [i_gt (by omega)]
      rw [i_le (by omega)] at h
      omega
    rw [decide_eq_true h2]
    simp [bI]
section
variable {pl fr to wd : Nat → Int32} {n tr po ph tl : Int32} {tc : Nat → Int32} {o : Nat} {S : ST} {z sv sl kp tx : Nat → Int32} {sa ln th : Int32}
theorem ribbon_b70 (x1 x2 x3 : Int32) {k : Nat} (hk : 1 ≤ k) (hk2 : k ≤ 3) : f_X7_ribbon_b70 x1 x2 x3 (nI k) th z sv sa = some (nI 0, nI k, z, sv, sa) := by
  unfold f_X7_ribbon_b70
  simp only [fa_lit]
  rw [if_neg (nle_nI (by omega) (by omega) (by omega))]
theorem sm_ribbon (hC : CI pl fr to wd n tr po ph tc tl o S) (hR : RI z sv sl kp tx sa ln S) (hS : WS S) (x1 x2 x3 : Int32) :
    ∃ (k : Nat) (v : Int32) (S' : ST), WS S' ∧ (∃ r z' sv' sa', f_X7_ribbon x1 x2 x3 th z sv sa = some (r, nI k, z', sv', sa') ∧ (k = 0 → r = v) ∧ RI z' sv' sl kp tx sa' ln S') ∧
      ((∃ E, f_X6_ribbonT n x1 x2 x3 = some E ∧ KE (some eIO) (some eIA) (some eIS) k E ∧ S' = S) ∨
       (k = 0 ∧ sK S' = sK S ∧ sH S' = nH (sH S) ∧ sL S' = sv1 (sH S) (sL S) (sD S) ∧
        (∃ fr' to' wd' n' bp bf bt bw bn btr, f_X6_ribbonA pl tr x1 x2 x3 fr to wd n po ph = some (.inr (v, fr', to', wd', n', nI (nO o (sH S)), nI (nH (sH S)), bf, bt, bw, bn, btr, bp)) ∧ CI pl fr' to' wd' n' tr (nI (nO o (sH S))) (nI (nH (sH S))) tc tl (nO o (sH S)) S' ∧ DC bp bf bt bw bn btr (sD S)) ∧
        ∀ (cp cf ct cw : Nat → Int32) (cn ctr : Int32), ∃ fr' to' wd' n' bp bf bt bw bn btr, f_X6_ribbonB pl tr x1 x2 x3 fr to wd n po ph cp cf ct cw cn ctr = some (.inr (v, fr', to', wd', n', nI (nO o (sH S)), nI (nH (sH S)), bp, bf, bt, bw, bn, btr)) ∧ CI pl fr' to' wd' n' tr (nI (nO o (sH S))) (nI (nH (sH S))) tc tl (nO o (sH S)) S' ∧ DC bp bf bt bw bn btr (sD S))) := by
  obtain ⟨hD, ho, rfl, rfl, ht, rfl⟩ := id hC
  obtain ⟨hz, hv, rfl, hk, hx, rfl⟩ := id hR
  obtain ⟨w1, w2, w3, w4, w5, w6⟩ := id hS
  have hDc := hD
  obtain ⟨rfl, rfl, hpl, hf, hg, hd⟩ := hD
  have hn20 := w1.1
  rcases (arg_lt x1 16 (by omega)).symm with h1 | ⟨a, ha, rfl⟩
  · refine ⟨1, nI 0, S, hS, ⟨nI 0, z, sv, _, ?_, fun h => by omega, hR⟩, Or.inl ⟨eIO, ?_, KE1 rfl, rfl⟩⟩
    · have hb : ∀ s0, f_X7_ribbon_b24 x1 x2 x3 s0 th z sv (nI (sH S)) = some (nI 0, nI 1, z, sv, nI (sH S)) := by
        intro s0
        unfold f_X7_ribbon_b24 f_X7_ribbon_b41
        simp only [fa_lit]
        rw [r_isPost_out h1]
        simp only [bs]
        rw [if_pos trivial]
        exact ribbon_b70 _ _ _ (by omega) (by omega)
      unfold f_X7_ribbon f_X7_ribbon_b23
      simp only [hb]
      rw [fa_lit 1, fa_lit 50, r_inX]
      simp only [bs]
      exact if_pp (fun _ => rfl) (fun _ => if_pp (fun _ => rfl) (fun _ => rfl))
    · unfold f_X6_ribbonT
      rw [checkPost_out h1, tb_s]
  rcases (arg_lt x2 16 (by omega)).symm with h2 | ⟨b, hb, rfl⟩
  · refine ⟨1, nI 0, S, hS, ⟨nI 0, z, sv, _, ?_, fun h => by omega, hR⟩, Or.inl ⟨eIO, ?_, KE1 rfl, rfl⟩⟩
    · have hb : ∀ s0, f_X7_ribbon_b24 (nI a) x2 x3 s0 th z sv (nI (sH S)) = some (nI 0, nI 1, z, sv, nI (sH S)) := by
        intro s0
        unfold f_X7_ribbon_b24 f_X7_ribbon_b41
        simp only [fa_lit]
        rw [r_isPost (by omega), r_isPost_out h2]
        simp only [bs, bI_0]
        rw [if_neg (by rw [decide_eq_true ha]; decide), if_pos trivial]
        exact ribbon_b70 _ _ _ (by omega) (by omega)
      unfold f_X7_ribbon f_X7_ribbon_b23
      simp only [hb]
      rw [fa_lit 1, fa_lit 50, r_inX]
      simp only [bs]
      exact if_pp (fun _ => rfl) (fun _ => if_pp (fun _ => rfl) (fun _ => rfl))
    · unfold f_X6_ribbonT
      rw [(checkPost_in ha).1, (checkPost_in ha).2, checkPost_out h2, tb_n]
      simp only [bs]
      rw [tb_s]
  have hb24 : ∀ s0, f_X7_ribbon_b24 (nI a) (nI b) x3 s0 th z sv (nI (sH S)) = (if s0 = nI 0 then f_X7_ribbon_b70 (nI a) (nI b) x3 (nI 2) th z sv (nI (sH S)) else (if z 0 = nI 20 then f_X7_ribbon_b70 (nI a) (nI b) x3 (nI 3) th z sv (nI (sH S)) else f_X7_ribbon_b70 (nI a) (nI b) x3 (nI 0) th z sv (nI (sH S)))) := by
    intro s0
    unfold f_X7_ribbon_b24
    simp only [fa_lit]
    rw [r_isPost (by omega), r_isPost (by omega)]
    simp only [bs, bI_0]
    rw [if_neg (by rw [decide_eq_true ha]; decide), if_neg (by rw [decide_eq_true hb]; decide), z0]
  have hT : f_X6_ribbonT (nI (dN (sD S))) (nI a) (nI b) x3 = (if nI (a / 4) = nI (b / 4) then some eIA else (if x3 < nI 1 then some eIA else (if x3 ≤ nI 50 then (if nI (dN (sD S)) < nI 20 then none else some eIS) else some eIA))) := by
    unfold f_X6_ribbonT
    rw [(checkPost_in ha).1, (checkPost_in ha).2, (checkPost_in hb).1, (checkPost_in hb).2, tb_n]
    simp only [bs]
    rw [tb_n, p_columnOf ha, p_columnOf hb]
    simp only [bs, fa_lit]
  by_cases c : a / 4 = b / 4
  · refine ⟨2, nI 0, S, hS, ⟨nI 0, z, sv, _, ?_, fun h => by omega, hR⟩, Or.inl ⟨eIA, ?_, KE2 rfl, rfl⟩⟩
    · unfold f_X7_ribbon f_X7_ribbon_b23
      simp only [fa_lit]
      rw [div_nI (by omega) (by omega) (by omega), div_nI (by omega) (by omega) (by omega), if_pos (by rw [c]), hb24, if_pos (show nI 0 = nI 0 from rfl)]
      exact ribbon_b70 _ _ _ (by omega) (by omega)
    · rw [hT, if_pos (by rw [c])]
  rcases (width_arg x3).symm with h3 | ⟨w, hw1, hw2, rfl⟩
  · refine ⟨2, nI 0, S, hS, ⟨nI 0, z, sv, _, ?_, fun h => by omega, hR⟩, Or.inl ⟨eIA, ?_, KE2 rfl, rfl⟩⟩
    · unfold f_X7_ribbon f_X7_ribbon_b23
      simp only [fa_lit]
      rw [div_nI (by omega) (by omega) (by omega), div_nI (by omega) (by omega) (by omega), if_neg (by rw [eq_nI (by omega) (by omega)]; exact c), r_in_w h3]
      simp only [bs]
      rw [if_pos trivial, hb24, if_pos (show nI 0 = nI 0 from rfl)]
      exact ribbon_b70 _ _ _ (by omega) (by omega)
    · rw [hT, if_neg (by rw [eq_nI (by omega) (by omega)]; exact c)]
      by_cases d : x3 < nI 1
      · rw [if_pos d]
      · rw [if_neg d, if_neg (h3.resolve_left d)]
  have hin : f_X7_in (nI w) (nI 1) (nI 50) = some (bI true) := by
    rw [r_in (by omega) (by omega) (by omega), decide_eq_true ⟨hw1, hw2⟩]
  have hrb : f_X7_ribbon (nI a) (nI b) (nI w) th z sv (nI (sH S)) = (if nI (dN (sD S)) = nI 20 then f_X7_ribbon_b70 (nI a) (nI b) (nI w) (nI 3) th z sv (nI (sH S)) else f_X7_ribbon_b70 (nI a) (nI b) (nI w) (nI 0) th z sv (nI (sH S))) := by
    unfold f_X7_ribbon
    simp only [fa_lit]
    rw [div_nI (by omega) (by omega) (by omega), div_nI (by omega) (by omega) (by omega), if_neg (by rw [eq_nI (by omega) (by omega)]; exact c), hin]
    simp only [bs]
    rw [if_neg (by decide), hb24, if_neg (by decide), hz.1]
  by_cases e : dN (sD S) = 20
  · refine ⟨3, nI 0, S, hS, ⟨nI 0, z, sv, _, ?_, fun h => by omega, hR⟩, Or.inl ⟨eIS, ?_, KE3 rfl, rfl⟩⟩
    · rw [hrb, if_pos (by rw [e])]
      exact ribbon_b70 _ _ _ (by omega) (by omega)
    · rw [hT, if_neg (by rw [eq_nI (by omega) (by omega)]; exact c), if_neg (nlt_nI (by omega) (by omega) (by omega)), if_pos ((le_nI (by omega) (by omega)).mpr hw2), if_neg (nlt_nI (by omega) (by omega) (by omega))]
  · have hn : dN (sD S) < 20 := by omega
    obtain ⟨sv', r1, r2⟩ := r_save w2 hv hz w1
    obtain ⟨z', r3, r4⟩ := r_putRibbon hz hn a b w
    have hwf := adD_wf w1 hn ha hb c hw2
    obtain ⟨fr', to', wd', p1, p2, p3, p4⟩ := p_addRibbon hf hg hd hn a b w
    have hCI : CI pl fr' to' wd' (nI (dN (sD S) + 1)) (dT (sD S)) (nI (nO o (sH S))) (nI (nH (sH S))) tc (nI (sN' S)) (nO o (sH S)) (svS S (adD (sD S) a b w)) := ⟨⟨rfl, rfl, hpl, p2, p3, p4⟩, nO_lt ho, rfl, rfl, ht, rfl⟩
    refine ⟨0, nI (dN (sD S)), svS S (adD (sD S) a b w), svS_ws hS hwf, ⟨nI (dN (sD S)), z', sv', _, ?_, fun _ => rfl, r4, r2, rfl, hk, hx, rfl⟩, Or.inr ⟨rfl, rfl, rfl, rfl, ?_, ?_⟩⟩
    · rw [hrb, if_neg (by rw [eq_nI (by omega) (by omega)]; exact e)]
      unfold f_X7_ribbon_b70
      simp only [fa_lit]
      rw [if_pos ((le_nI (by omega) (by omega)).mpr (Nat.le_refl _)), r1]
      simp only [bs]
      rw [r3]
      simp only [bs]
      rw [z0, r4.1, show dN (adD (sD S) a b w) = dN (sD S) + 1 from rfl, pk_sub (by omega), Nat.add_sub_cancel]
      rfl
    · obtain ⟨bp, bf, bt, bw, q1, q2⟩ := p_saveA hDc w1 ho w2
      refine ⟨fr', to', wd', _, bp, bf, bt, bw, _, _, ?_, hCI, q2⟩
      unfold f_X6_ribbonA f_X6_ribbonA_b40
      simp only [fa_lit]
      rw [p_checkPost ha, p_checkPost hb]
      simp only [xbs]
      rw [p_columnOf ha, p_columnOf hb]
      simp only [bs]
      rw [if_neg (by rw [eq_nI (by omega) (by omega)]; exact c), if_neg (nlt_nI (by omega) (by omega) (by omega)), if_pos ((le_nI (by omega) (by omega)).mpr hw2), if_pos ((lt_nI (by omega) (by omega)).mpr hn), q1]
      simp only [bs]
      rw [p1]
      simp only [bs]
      rw [pk_sub (by omega), Nat.add_sub_cancel]
    · intro cp cf ct cw cn ctr
      obtain ⟨bp, bf, bt, bw, q1, q2⟩ := p_saveB (bp := cp) (bf := cf) (bt := ct) (bw := cw) (bn := cn) (btr := ctr) hDc w1 ho w2
      refine ⟨fr', to', wd', _, bp, bf, bt, bw, _, _, ?_, hCI, q2⟩
      unfold f_X6_ribbonB f_X6_ribbonB_b40
      simp only [fa_lit]
      rw [p_checkPost ha, p_checkPost hb]
      simp only [xbs]
      rw [p_columnOf ha, p_columnOf hb]
      simp only [bs]
      rw [if_neg (by rw [eq_nI (by omega) (by omega)]; exact c), if_neg (nlt_nI (by omega) (by omega) (by omega)), if_pos ((le_nI (by omega) (by omega)).mpr hw2), if_pos ((lt_nI (by omega) (by omega)).mpr hn), q1]
      simp only [bs]
      rw [p1]
      simp only [bs]
      rw [pk_sub (by omega), Nat.add_sub_cancel]
end
