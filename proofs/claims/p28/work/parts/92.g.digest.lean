/-! ===== the digest: the class, whole ===== -/
theorem p_slotsPart {pl fr to wd : Nat → Int32} {n tr : Int32} {h : Nat} {sl : Nat → Option Nat} {t : Nat → Int32} {T : Nat → Nat} {m : Nat} (ht : RR t T m) (hm : m ≤ 60) (s : Int64) (e1 e2 e3 e4 : Nat → Int32) (e5 e6 : Int32) (h1 h2 : Nat → Int32) (h3 : Int32) (h4 : Nat → Int32) (o1 o2 o3 : Nat → Int32) (u1 u2 u3 u4 u5 u6 : Nat → Int32) (u7 : Int32) (u8 : Nat → Int32) :
    ∃ q, f_X6_digest_b149 pl fr to wd n tr sl (nI h) t (nI m) FU s (nI 0) e1 e2 e3 e4 e5 e6 h1 h2 h3 h4 o1 o2 o3 u1 u2 u3 u4 u5 u6 u7 u8 = some (.inr (gT T (mx (mx (mx s (kI (sl 0).isSome)) (kI (sl 1).isSome)) (nI m).toInt64) m, q)) := by
  have st : ∀ (F i : Nat) (a : Int64), i < 2 → f_X6_digest_b149 pl fr to wd n tr sl (nI h) t (nI m) (F + 1) a (nI i) e1 e2 e3 e4 e5 e6 h1 h2 h3 h4 o1 o2 o3 u1 u2 u3 u4 u5 u6 u7 u8 = f_X6_digest_b149 pl fr to wd n tr sl (nI h) t (nI m) F (mx a (kI (sl i).isSome)) (nI (i + 1)) e1 e2 e3 e4 e5 e6 h1 h2 h3 h4 o1 o2 o3 u1 u2 u3 u4 u5 u6 u7 u8 := by
    intro F i a hi
    simp only [f_X6_digest_b149, f_X6_digest_b169, fa_lit, nme]
    rw [if_neg (nle_nI (by omega) (by omega) hi), if_pos (gd_nI (by omega) (by omega)), cl_nI (by omega)]
    simp only [p_mixed, bs]
    rw [nI_step]
    cases sl i with
    | none =>
      rw [if_pos rfl]
      rfl
    | some x =>
      rw [if_neg (by simp)]
      rfl
  have fin : ∀ (F : Nat) (a : Int64), f_X6_digest_b149 pl fr to wd n tr sl (nI h) t (nI m) (F + 1) a (nI 2) e1 e2 e3 e4 e5 e6 h1 h2 h3 h4 o1 o2 o3 u1 u2 u3 u4 u5 u6 u7 u8 = some (.inr (gT T (mx a (nI m).toInt64) m, e1, e2, e3, e4, e5, e6, h1, h2, h3, h4, o1, o2, o3, u1, u2, u3, u4, u5, u6, u7, u8)) := by
    intro F a
    simp only [f_X6_digest_b149, fa_lit, nme]
    rw [if_pos ((le_nI (by omega) (by omega)).mpr (Nat.le_refl _)), p_withText ht hm]
    simp only [bs]
  obtain ⟨F, hF⟩ : ∃ F, FU = F + 3 := ⟨5997, rfl⟩
  rw [hF, show F + 3 = (F + 2) + 1 from rfl, st (F + 2) 0 _ (by omega), show F + 2 = (F + 1) + 1 from rfl, st (F + 1) 1 _ (by omega), fin F]
  exact ⟨_, rfl⟩
theorem p_columnsPart {pl fr to wd : Nat → Int32} {n tr : Int32} {D : DR} (hD : DC pl fr to wd n tr D) (hw : WF D) {h : Nat} {sl : Nat → Option Nat} {t : Nat → Int32} {T : Nat → Nat} {m : Nat} (ht : RR t T m) (hm : m ≤ 60) {S : Nat} {G : DR}
    (hS : ∀ (fr to wd : Nat → Int32), RR fr (dF D) (dN D) → RR to (dG D) (dN D) → RR wd (dW D) (dN D) → ∃ wd', f_X1_trimAll fr to (nI (dN D)) wd (dT D) = some (nI S, wd', dT G) ∧ RR wd' (dW G) (dN D)) (s : Int64) (e1 e2 e3 e4 : Nat → Int32) (e5 e6 : Int32) (h1 h2 : Nat → Int32) (h3 : Int32) (h4 : Nat → Int32) (o1 o2 o3 : Nat → Int32) (u1 u2 u3 u4 u5 u6 : Nat → Int32) (u7 : Int32) (u8 : Nat → Int32) :
    ∃ q, f_X6_digest_b43 pl fr to wd n tr sl (nI h) t (nI m) FU s (nI 0) e1 e2 e3 e4 e5 e6 h1 h2 h3 h4 o1 o2 o3 u1 u2 u3 u4 u5 u6 u7 u8 = some (.inr (gT T (mx (mx (mx (gM D S (gB D s 4)) (kI (sl 0).isSome)) (kI (sl 1).isSome)) (nI m).toInt64) m, q)) := by
  obtain ⟨rfl, rfl, hpl, hf, hg, hd⟩ := id hD
  have hn := hw.1
  have hlp := loopI (fun F i (a : Int64 × (Nat → Int32) × (Nat → Int32) × (Nat → Int32)) => f_X6_digest_b43 pl fr to wd (nI (dN D)) (dT D) sl (nI h) t (nI m) F a.1 i e1 e2 e3 e4 e5 e6 h1 h2 h3 h4 a.2.1 a.2.2.1 a.2.2.2 u1 u2 u3 u4 u5 u6 u7 u8) (fun a => f_X6_digest_b43 pl fr to wd (nI (dN D)) (dT D) sl (nI h) t (nI m) 1 a.1 (nI 4) e1 e2 e3 e4 e5 e6 h1 h2 h3 h4 a.2.1 a.2.2.1 a.2.2.2 u1 u2 u3 u4 u5 u6 u7 u8) (fun i a => a.1 = gB D s i) 4 ?_ ?_ 4 0 FU (s, o1, o2, o3) (by omega) (FU_big (by omega)) rfl
  · obtain ⟨a, k1, k2⟩ := hlp
    rw [k1, k2]
    simp only [f_X6_digest_b43, fa_lit, nme]
    rw [if_pos ((le_nI (by omega) (by omega)).mpr (Nat.le_refl _))]
    obtain ⟨a1, a2, a3, a4, x1⟩ := p_ifSwapped (ep := e1) (ef := e2) (et := e3) (ew := e4) (en := e5) (etr := e6) hD hw (show 0 < 16 by omega) (show 1 < 16 by omega) (by omega) (by omega)
    rw [x1]
    simp only [xbs, p_mixed, bs]
    obtain ⟨b1, b2, b3, b4, x2⟩ := p_ifSwapped (ep := a1) (ef := a2) (et := a3) (ew := a4) (en := nI (dN D)) (etr := dT D) hD hw (show 5 < 16 by omega) (show 6 < 16 by omega) (by omega) (by omega)
    rw [x2]
    simp only [xbs, p_mixed, bs]
    obtain ⟨c1, c2, c3, c4, x3⟩ := p_ifSwapped (ep := b1) (ef := b2) (et := b3) (ew := b4) (en := nI (dN D)) (etr := dT D) hD hw (show 8 < 16 by omega) (show 11 < 16 by omega) (by omega) (by omega)
    rw [x3]
    simp only [xbs, p_mixed, bs]
    obtain ⟨d1, d2, d3, d4, x4⟩ := p_ifSettled (ep := c1) (ef := c2) (et := c3) (ew := c4) (en := nI (dN D)) (etr := dT D) hD hw hS
    rw [x4]
    simp only [p_mixed, bs]
    obtain ⟨q, x5⟩ := p_mainRibbon hf hg hd hw u4 u5 u6 u7 u8
    rw [x5]
    simp only [p_mixed, bs]
    obtain ⟨y1, y2, y3, x6⟩ := p_throughShare hf hg hd hw u1 u2 u3
    rw [x6]
    simp only [bs]
    rw [(gS_p hw).1]
    simp only [p_mixed, bs]
    exact p_slotsPart (n := nI (dN D)) ht hm _ _ _ _ _ _ _ _ _ _ _ _ _ _ _ _ _ _ _ _ _ _
  · intro F c a hc ha
    obtain ⟨q, x1⟩ := p_bestOrder hpl hf hg hd hw hc a.2.1 a.2.2.1 a.2.2.2
    refine ⟨(mx (mx a.1 (nI (tell4 (bO D c))).toInt64) (nI (hgt D c)).toInt64, q), ?_, by rw [ha]; rfl⟩
    simp only [f_X6_digest_b43, fa_lit, nme]
    rw [if_neg (nle_nI (by omega) (by omega) hc), x1]
    simp only [xbs, p_mixed, bs]
    rw [p_height hpl hf hg hd hw hc]
    simp only [xbs, p_mixed, bs]
    rw [nI_step]
  · intro F a _
    simp only [f_X6_digest_b43, fa_lit]
    rw [if_pos ((le_nI (by omega) (by omega)).mpr (Nat.le_refl _)), if_pos ((le_nI (by omega) (by omega)).mpr (Nat.le_refl _))]
theorem p_count' {pl fr to wd : Nat → Int32} {n tr : Int32} {D : DR} (hD : DC pl fr to wd n tr D) (hw : WF D) {h k : Nat} (hk : k < 10) (h1 h2 : Nat → Int32) (h3 : Int32) (h4 u1 u2 u3 u4 u5 u6 : Nat → Int32) (u7 : Int32) :
    ∃ q, f_X6_count pl fr to wd n tr (nI h) (nI k) h1 h2 h3 h4 u1 u2 u3 u4 u5 u6 u7 = some (.inr (cV D h k, q)) := by
  obtain ⟨a1, a2, a3, a4, b1, b2, b3, b4, b5, b6, b7, e⟩ := p_count hD hw (h := h) hk h1 h2 h3 h4 u1 u2 u3 u4 u5 u6 u7
  exact ⟨_, e⟩
theorem p_digest {pl fr to wd : Nat → Int32} {n tr : Int32} {D : DR} (hD : DC pl fr to wd n tr D) (hw : WF D) {h : Nat} {sl : Nat → Option Nat} {t : Nat → Int32} {T : Nat → Nat} {m : Nat} (ht : RR t T m) (hm : m ≤ 60) {S : Nat} {G : DR}
    (hS : ∀ (fr to wd : Nat → Int32), RR fr (dF D) (dN D) → RR to (dG D) (dN D) → RR wd (dW D) (dN D) → ∃ wd', f_X1_trimAll fr to (nI (dN D)) wd (dT D) = some (nI S, wd', dT G) ∧ RR wd' (dW G) (dN D)) (e1 e2 e3 e4 : Nat → Int32) (e5 e6 : Int32) (h1 h2 : Nat → Int32) (h3 : Int32) (h4 : Nat → Int32) (o1 o2 o3 : Nat → Int32) (u1 u2 u3 u4 u5 u6 : Nat → Int32) (u7 : Int32) (u8 : Nat → Int32) :
    ∃ q, f_X6_digest pl fr to wd n tr sl (nI h) t (nI m) e1 e2 e3 e4 e5 e6 h1 h2 h3 h4 o1 o2 o3 u1 u2 u3 u4 u5 u6 u7 u8 = some (.inr (gD D S h T m (sl 0).isSome (sl 1).isSome, q)) := by
  obtain ⟨rfl, rfl, hpl, hf, hg, hd⟩ := id hD
  have hn := hw.1
  unfold f_X6_digest
  simp only [fa_lit]
  have hlp := loopI (fun F i (a : Int64 × (Nat → Int32) × (Nat → Int32) × Int32 × (Nat → Int32) × (Nat → Int32) × (Nat → Int32) × (Nat → Int32) × (Nat → Int32) × (Nat → Int32) × (Nat → Int32) × Int32) => f_X6_digest_b6 pl fr to wd (nI (dN D)) (dT D) sl (nI h) t (nI m) F a.1 i e1 e2 e3 e4 e5 e6 a.2.1 a.2.2.1 a.2.2.2.1 a.2.2.2.2.1 o1 o2 o3 a.2.2.2.2.2.1 a.2.2.2.2.2.2.1 a.2.2.2.2.2.2.2.1 a.2.2.2.2.2.2.2.2.1 a.2.2.2.2.2.2.2.2.2.1 a.2.2.2.2.2.2.2.2.2.2.1 a.2.2.2.2.2.2.2.2.2.2.2 u8) (fun a => f_X6_digest_b6 pl fr to wd (nI (dN D)) (dT D) sl (nI h) t (nI m) 1 a.1 (nI 10) e1 e2 e3 e4 e5 e6 a.2.1 a.2.2.1 a.2.2.2.1 a.2.2.2.2.1 o1 o2 o3 a.2.2.2.2.2.1 a.2.2.2.2.2.2.1 a.2.2.2.2.2.2.2.1 a.2.2.2.2.2.2.2.2.1 a.2.2.2.2.2.2.2.2.2.1 a.2.2.2.2.2.2.2.2.2.2.1 a.2.2.2.2.2.2.2.2.2.2.2 u8) (fun i a => a.1 = gC D h 3527 i) 10 ?_ ?_ 10 0 FU (3527, h1, h2, h3, h4, u1, u2, u3, u4, u5, u6, u7) (by omega) (FU_big (by omega)) rfl
  · obtain ⟨a, k1, k2⟩ := hlp
    dsimp only at k1
    rw [k1, k2]
    simp only [f_X6_digest_b6, fa_lit, nme]
    rw [if_pos ((lt_nI (by omega) (by omega)).mpr (by omega)), p_withPosts hpl hf hg hd hw]
    simp only [xbs]
    rw [p_withRibbons hpl hf hg hd hw]
    simp only [xbs]
    exact p_columnsPart hD hw ht hm hS _ _ _ _ _ _ _ _ _ _ _ _ _ _ _ _ _ _ _ _ _ _
  · intro F k a hk ha
    obtain ⟨q, x1⟩ := p_count' hD hw (h := h) hk a.2.1 a.2.2.1 a.2.2.2.1 a.2.2.2.2.1 a.2.2.2.2.2.1 a.2.2.2.2.2.2.1 a.2.2.2.2.2.2.2.1 a.2.2.2.2.2.2.2.2.1 a.2.2.2.2.2.2.2.2.2.1 a.2.2.2.2.2.2.2.2.2.2.1 a.2.2.2.2.2.2.2.2.2.2.2
    refine ⟨(mx a.1 (cV D h k).toInt64, q), ?_, by rw [ha]; rfl⟩
    simp only [f_X6_digest_b6, fa_lit, nme]
    rw [if_neg (nlt_nI (by omega) (by omega) (by omega)), x1]
    simp only [xbs, p_mixed, bs]
    rw [nI_step]
  · intro F a _
    simp only [f_X6_digest_b6, fa_lit]
    rw [if_pos ((lt_nI (by omega) (by omega)).mpr (by omega)), if_pos ((lt_nI (by omega) (by omega)).mpr (by omega))]
