/-! ===== both sides: counts, what would be, what matters, digests ===== -/
section
variable {pl fr to wd : Nat → Int32} {n tr po ph tl : Int32} {tc : Nat → Int32} {o : Nat} {S : ST} {z sv sl kp tx : Nat → Int32} {sa ln th : Int32}
theorem sm_count (hC : CI pl fr to wd n tr po ph tc tl o S) (hR : RI z sv sl kp tx sa ln S) (hS : WS S) (x1 : Int32) (h1 h2 : Nat → Int32) (h3 : Int32) (h4 u1 u2 u3 u4 u5 u6 : Nat → Int32) (u7 : Int32) :
    ∃ (k : Nat) (v : Int32), (∃ r, f_X7_count z sa x1 th = some (r, nI k) ∧ (k = 0 → r = v)) ∧
      ((∃ E, f_X6_countT pl fr to wd n tr ph x1 = some E ∧ KE (some eIA) none none k E) ∨ (k = 0 ∧ ∃ q, f_X6_count pl fr to wd n tr ph x1 h1 h2 h3 h4 u1 u2 u3 u4 u5 u6 u7 = some (.inr (v, q)))) := by
  obtain ⟨hD, ho, rfl, rfl, ht, rfl⟩ := id hC
  obtain ⟨hz, hv, rfl, hk, hx, rfl⟩ := id hR
  obtain ⟨w1, w2, w3, w4, w5, w6⟩ := id hS
  rcases (arg_lt x1 10 (by omega)).symm with c | ⟨k, hk, rfl⟩
  · refine ⟨1, nI 0, ⟨nI 0, ?_, fun h => by omega⟩, Or.inl ⟨eIA, ?_, KE1 rfl⟩⟩
    · unfold f_X7_count f_X7_count_b16
      simp only [fa_lit]
      rw [r_in_out (by omega) c]
      simp only [bs]
      rw [if_pos trivial, if_neg (nle_nI (by omega) (by omega) (by omega))]
    · unfold f_X6_countT
      simp only [fa_lit]
      rw [if_neg (arg_ne c (by omega) (by omega)), if_neg (arg_ne c (by omega) (by omega)), if_neg (arg_ne c (by omega) (by omega)), if_neg (arg_ne c (by omega) (by omega)), if_neg (arg_ne c (by omega) (by omega)), if_neg (arg_ne c (by omega) (by omega)), if_neg (arg_ne c (by omega) (by omega)), if_neg (arg_ne c (by omega) (by omega)), if_neg (arg_ne c (by omega) (by omega)), if_neg (arg_ne c (by omega) (by omega))]
  · obtain ⟨q, e⟩ := p_count' hD w1 (h := sH S) hk h1 h2 h3 h4 u1 u2 u3 u4 u5 u6 u7
    refine ⟨0, cV (sD S) (sH S) k, ⟨_, ?_, fun _ => rfl⟩, Or.inr ⟨rfl, q, e⟩⟩
    unfold f_X7_count f_X7_count_b16
    simp only [fa_lit]
    rw [r_in (by omega) (by omega) (by omega), r_countNow hz w1 hk]
    simp only [bs]
    rw [if_neg (by rw [decide_eq_true ⟨Nat.zero_le _, by omega⟩]; decide), if_pos (show nI 0 ≤ nI 0 from Int32.le_refl _)]
theorem sm_ifSwapped (hC : CI pl fr to wd n tr po ph tc tl o S) (hR : RI z sv sl kp tx sa ln S) (hS : WS S) (x1 x2 : Int32) (ep ef et ew : Nat → Int32) (en etr : Int32) :
    ∃ (k : Nat) (v : Int32), (∃ r z', f_X7_ifSwapped x1 x2 th z = some (r, nI k, z') ∧ (k = 0 → r = v) ∧ RI z' sv sl kp tx sa ln S) ∧
      ((∃ E, f_X6_ifSwappedT x1 x2 = some E ∧ KE (some eIO) (some eIA) none k E) ∨ (k = 0 ∧ ∃ q, f_X6_ifSwapped pl fr to wd n tr x1 x2 ep ef et ew en etr = some (.inr (v, q)))) := by
  obtain ⟨hD, ho, rfl, rfl, ht, rfl⟩ := id hC
  obtain ⟨hz, hv, rfl, hk, hx, rfl⟩ := id hR
  obtain ⟨w1, w2, w3, w4, w5, w6⟩ := id hS
  rcases pair_arg x1 x2 with ⟨a, b, ha, hb, hc, hne, rfl, rfl⟩ | ⟨h1, h2⟩ | ⟨h1, h2⟩
  · obtain ⟨p, f, t, w, e⟩ := p_ifSwapped (ep := ep) (ef := ef) (et := et) (ew := ew) (en := en) (etr := etr) hD w1 ha hb hc hne
    obtain ⟨z', r1, r2⟩ := r_swapped hz w1 ha hb hc hne
    refine ⟨0, nI (xAll (exP (sD S) a b)), ⟨_, z', ?_, fun _ => rfl, r2, hv, rfl, hk, hx, rfl⟩, Or.inr ⟨rfl, _, e⟩⟩
    unfold f_X7_ifSwapped
    rw [whyNoPair_ok ha hb hc hne]
    simp only [bs]
    rw [if_pos (show nI 0 ≤ 0 from Int32.le_refl _), r1]
    rfl
  · refine ⟨1, nI 0, ⟨nI 0, z, ?_, fun h => by omega, hR⟩, Or.inl ⟨eIO, ?_, KE1 rfl⟩⟩
    · unfold f_X7_ifSwapped
      rw [h2]
      simp only [bs, fa_lit]
      rw [if_neg (nle_nI (by omega) (by omega) (by omega))]
    · unfold f_X6_ifSwappedT
      rw [h1, tb_s]
  · refine ⟨2, nI 0, ⟨nI 0, z, ?_, fun h => by omega, hR⟩, Or.inl ⟨eIA, ?_, KE2 rfl⟩⟩
    · unfold f_X7_ifSwapped
      rw [h2]
      simp only [bs, fa_lit]
      rw [if_neg (nle_nI (by omega) (by omega) (by omega))]
    · unfold f_X6_ifSwappedT
      rw [h1, tb_s]
theorem sm_bestOrder (hC : CI pl fr to wd n tr po ph tc tl o S) (hR : RI z sv sl kp tx sa ln S) (hS : WS S) (x1 : Int32) (a row best co : Nat → Int32) :
    ∃ (k : Nat) (v : Int32), (∃ r z' a', f_X7_bestOrder x1 th z a = some (r, nI k, z', a') ∧ (k = 0 → r = v) ∧ RI z' sv sl kp tx sa ln S) ∧
      ((∃ E, f_X6_bestOrderT x1 = some E ∧ KE (some eIO) none none k E) ∨ (k = 0 ∧ ∃ q, f_X6_bestOrder pl fr to wd n x1 row best co = some (.inr (v, q)))) := by
  obtain ⟨hD, ho, rfl, rfl, ht, rfl⟩ := id hC
  obtain ⟨hz, hv, rfl, hk, hx, rfl⟩ := id hR
  obtain ⟨w1, w2, w3, w4, w5, w6⟩ := id hS
  obtain ⟨rfl, rfl, hpl, hf, hg, hd⟩ := hD
  rcases column_arg x1 with ⟨c, hc, rfl, h2⟩ | ⟨h1, h2⟩
  · obtain ⟨q, e⟩ := p_bestOrder hpl hf hg hd w1 hc row best co
    obtain ⟨z', a', r1, r2⟩ := r_best (a := a) hc hz w1
    refine ⟨0, nI (tell4 (bO (sD S) c)), ⟨_, z', a', ?_, fun _ => rfl, r2, hv, rfl, hk, hx, rfl⟩, Or.inr ⟨rfl, q, e⟩⟩
    unfold f_X7_bestOrder f_X7_bestOrder_b13
    rw [h2]
    simp only [bs, fa_lit]
    rw [if_neg (by decide), if_pos (show nI 0 ≤ nI 0 from Int32.le_refl _), r1]
    rfl
  · refine ⟨1, nI 0, ⟨nI 0, z, a, ?_, fun h => by omega, hR⟩, Or.inl ⟨eIO, ?_, KE1 rfl⟩⟩
    · unfold f_X7_bestOrder f_X7_bestOrder_b13
      rw [h2]
      simp only [bs, fa_lit]
      rw [if_pos trivial, if_neg (nle_nI (by omega) (by omega) (by omega))]
    · unfold f_X6_bestOrderT
      rw [h1, tb_s]
theorem sm_ifSettled (hC : CI pl fr to wd n tr po ph tc tl o S) (hR : RI z sv sl kp tx sa ln S) (hS : WS S) (a ep ef et ew : Nat → Int32) (en etr : Int32) :
    ∃ v : Int32, (∃ z' a', f_X7_ifSettled th z a = some (v, nI 0, z', a') ∧ RI z' sv sl kp tx sa ln S) ∧ ∃ q, f_X6_ifSettled pl fr to wd n tr ep ef et ew en etr = some (v, q) := by
  obtain ⟨hD, ho, rfl, rfl, ht, rfl⟩ := id hC
  obtain ⟨hz, hv, rfl, hk, hx, rfl⟩ := id hR
  obtain ⟨w1, w2, w3, w4, w5, w6⟩ := id hS
  obtain ⟨Q, E, g1, g2, g3, g4, g5, g6, g7, g8⟩ := settle_all w1
  obtain ⟨p, f, t, w, e⟩ := p_ifSettled (ep := ep) (ef := ef) (et := et) (ew := ew) (en := en) (etr := etr) hD w1 g7
  obtain ⟨z', a', r1, r2⟩ := r_settled (a := a) hz w1 g8
  refine ⟨nI Q, ⟨z', a', ?_, r2, hv, rfl, hk, hx, rfl⟩, _, e⟩
  unfold f_X7_ifSettled
  rw [r1]
  rfl
theorem sm_mainRibbon (hC : CI pl fr to wd n tr po ph tc tl o S) (hR : RI z sv sl kp tx sa ln S) (hS : WS S) (be en wi : Nat → Int32) (sz : Int32) (lw : Nat → Int32) :
    ∃ v : Int32, f_X7_mainRibbon z th = some (v, nI 0) ∧ ∃ q, f_X6_mainRibbon fr to wd n be en wi sz lw = some (v, q) := by
  obtain ⟨hD, ho, rfl, rfl, ht, rfl⟩ := id hC
  obtain ⟨hz, hv, rfl, hk, hx, rfl⟩ := id hR
  obtain ⟨w1, w2, w3, w4, w5, w6⟩ := id hS
  obtain ⟨rfl, rfl, hpl, hf, hg, hd⟩ := hD
  obtain ⟨q, e⟩ := p_mainRibbon hf hg hd w1 be en wi sz lw
  refine ⟨oI (mnO (sD S)), ?_, q, e⟩
  unfold f_X7_mainRibbon
  rw [r_findMain hz w1]
  rfl
theorem sm_height (hC : CI pl fr to wd n tr po ph tc tl o S) (hR : RI z sv sl kp tx sa ln S) (hS : WS S) (x1 : Int32) :
    ∃ (k : Nat) (v : Int32), (∃ r, f_X7_height z x1 th = some (r, nI k) ∧ (k = 0 → r = v)) ∧
      ((∃ E, f_X6_heightT x1 = some E ∧ KE (some eIO) none none k E) ∨ (k = 0 ∧ f_X6_height pl fr to wd n x1 = some (.inr v))) := by
  obtain ⟨hD, ho, rfl, rfl, ht, rfl⟩ := id hC
  obtain ⟨hz, hv, rfl, hk, hx, rfl⟩ := id hR
  obtain ⟨w1, w2, w3, w4, w5, w6⟩ := id hS
  obtain ⟨rfl, rfl, hpl, hf, hg, hd⟩ := hD
  rcases column_arg x1 with ⟨c, hc, rfl, h2⟩ | ⟨h1, h2⟩
  · refine ⟨0, nI (hgt (sD S) c), ⟨_, ?_, fun _ => rfl⟩, Or.inr ⟨rfl, p_height hpl hf hg hd w1 hc⟩⟩
    unfold f_X7_height f_X7_height_b13
    rw [h2]
    simp only [bs, fa_lit]
    rw [if_neg (by decide), if_pos (show nI 0 ≤ nI 0 from Int32.le_refl _), r_heightOf hz w1 hc]
    rfl
  · refine ⟨1, nI 0, ⟨nI 0, ?_, fun h => by omega⟩, Or.inl ⟨eIO, ?_, KE1 rfl⟩⟩
    · unfold f_X7_height f_X7_height_b13
      rw [h2]
      simp only [bs, fa_lit]
      rw [if_pos trivial, if_neg (nle_nI (by omega) (by omega) (by omega))]
    · unfold f_X6_heightT
      rw [h1, tb_s]
theorem sm_digest (hC : CI pl fr to wd n tr po ph tc tl o S) (hR : RI z sv sl kp tx sa ln S) (hS : WS S) {sc : Nat → Option Nat} (hsc : ∀ i, i < 2 → (sc i).isSome = (sK S i).isSome) (a : Nat → Int32)
    (e1 e2 e3 e4 : Nat → Int32) (e5 e6 : Int32) (h1 h2 : Nat → Int32) (h3 : Int32) (h4 : Nat → Int32) (o1 o2 o3 : Nat → Int32) (u1 u2 u3 u4 u5 u6 : Nat → Int32) (u7 : Int32) (u8 : Nat → Int32) :
    ∃ v : Int64, (∃ z' a', f_X7_digest sa kp tx ln th z a = some (v, nI 0, z', a') ∧ RI z' sv sl kp tx sa ln S) ∧
      ∃ q, f_X6_digest pl fr to wd n tr sc ph tc tl e1 e2 e3 e4 e5 e6 h1 h2 h3 h4 o1 o2 o3 u1 u2 u3 u4 u5 u6 u7 u8 = some (.inr (v, q)) := by
  obtain ⟨hD, ho, rfl, rfl, ht, rfl⟩ := id hC
  obtain ⟨hz, hv, rfl, hk, hx, rfl⟩ := id hR
  obtain ⟨w1, w2, w3, w4, w5, w6⟩ := id hS
  obtain ⟨Q, E, g1, g2, g3, g4, g5, g6, g7, g8⟩ := settle_all w1
  obtain ⟨q, e⟩ := p_digest (h := sH S) (sl := sc) hD w1 ht w5 g7 e1 e2 e3 e4 e5 e6 h1 h2 h3 h4 o1 o2 o3 u1 u2 u3 u4 u5 u6 u7 u8
  obtain ⟨z', a', r1, r2⟩ := r_digest (a := a) (h := sH S) hz w1 hx w5 (hk 0 (by omega)).1 (hk 1 (by omega)).1 g8 th
  rw [hsc 0 (by omega), hsc 1 (by omega)] at e
  exact ⟨_, ⟨z', a', r1, r2, hv, rfl, hk, hx, rfl⟩, q, e⟩
theorem sm_throughShare (hC : CI pl fr to wd n tr po ph tc tl o S) (hR : RI z sv sl kp tx sa ln S) (hS : WS S) (nu rb qu : Nat → Int32) :
    ∃ v : UInt64, f_X7_throughShare z th = some (v, nI 0) ∧ ∃ q, f_X6_throughShare fr to wd n nu rb qu = some (v, q) := by
  obtain ⟨hD, ho, rfl, rfl, ht, rfl⟩ := id hC
  obtain ⟨hz, hv, rfl, hk, hx, rfl⟩ := id hR
  obtain ⟨w1, w2, w3, w4, w5, w6⟩ := id hS
  obtain ⟨rfl, rfl, hpl, hf, hg, hd⟩ := hD
  obtain ⟨a, b, c, e⟩ := p_throughShare hf hg hd w1 nu rb qu
  refine ⟨shv (sD S), ?_, _, e⟩
  unfold f_X7_throughShare
  rw [r_share hz w1]
  rfl
end
