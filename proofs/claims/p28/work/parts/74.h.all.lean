/-! ===== what stands ahead: all crossings ===== -/
theorem ga_sum {D : DR} {a b m : Nat} {K V : Nat → Nat} (hab : a < b) (h : ∀ G : Nat → Nat → Nat, sN (fun k => G (K k) (V k)) m = sN (fun r => if jn D r a b = true then G (4 * dP D (dF D r) + dP D (dG D r)) (dW D r) else 0) (dN D)) :
    sN (fun i => sN (fun j => gX (K i) (V i) (K j) (V j)) m) m = qAB D a b := by
  have e1 : ∀ i, i < m → sN (fun j => gX (K i) (V i) (K j) (V j)) m = sN (fun q => if jn D q a b = true then gX (K i) (V i) (rnk D q) (dW D q) else 0) (dN D) := fun i _ => h (fun y u => gX (K i) (V i) y u)
  rw [sN_cong e1]
  rw [h (fun x v => sN (fun q => if jn D q a b = true then gX x v (rnk D q) (dW D q) else 0) (dN D))]
  unfold qAB
  refine sN_cong (fun r _ => ?_)
  by_cases c : jn D r a b = true
  · rw [if_pos c]
    refine sN_cong (fun q _ => ?_)
    by_cases d : jn D q a b = true
    · rw [if_pos d, if_pos ⟨hab, c, d⟩]
      rfl
    · rw [if_neg d, if_neg (fun z => d z.2.2)]
  · rw [if_neg c]
    exact (sN_0 _ _ (fun q _ => if_neg (fun z => c z.2.1))).symm
theorem p_widthsLoop {pl fr to wd : Nat → Int32} {dn : Int32} {rk wi : Nat → Int32} {K V : Nat → Nat} {m : Nat} (hk : RR rk K m) (hv : RR wi V m) (hm : m ≤ 20) (hb : ∀ k, k < m → K k < 16 ∧ V k ≤ 50)
    (K4 : Int32 → Int32 → (Nat → Int32) → (Nat → Int32) → Int32 → (Nat → Int32) → Option (Int32 × (Nat → Int32) × (Nat → Int32) × Int32 × (Nat → Int32))) (K14 : Int32 → Int32 → Int32 → (Nat → Int32) → (Nat → Int32) → Int32 → (Nat → Int32) → Option (Int32 × (Nat → Int32) × (Nat → Int32) × Int32 × (Nat → Int32))) (s0 b : Nat) (x3 : Int32) (en : Nat → Int32) :
    ∃ en', f_X0_allCrossings_b31 pl fr to wd dn K4 K14 FU (nI s0) x3 (nI b) (nI 1) rk wi (nI m) en = K14 (nI (s0 + sN (fun w => if 1 ≤ w then cF K V w m else 0) 51)) x3 (nI (b + 1)) rk wi (nI m) en' := by
  by_cases c : m ≤ 1
  · have z : sN (fun w => if 1 ≤ w then cF K V w m else 0) 51 = 0 := by
      refine sN_0 _ 51 (fun w _ => ?_)
      have h0 : cF K V w m = 0 := by
        unfold cF
        refine sN_0 _ m (fun i hi => ?_)
        have e : i = 0 := by omega
        subst e
        by_cases d : w ≤ V 0
        · rw [if_pos d]; rfl
        · rw [if_neg d]
      rw [h0]
      split <;> rfl
    rw [z]
    refine ⟨en, ?_⟩
    obtain ⟨F, hF⟩ : ∃ F, FU = F + 1 := ⟨5999, rfl⟩
    rw [hF]
    simp only [f_X0_allCrossings_b31, f_X0_allCrossings_b61, fa_lit, nme]
    rw [if_neg (nlt_nI (by omega) (by omega) (by omega)), if_pos ((le_nI (by omega) (by omega)).mpr c), nI_step]
    rfl
  · have h := loopI (fun F i (s : Int32 × (Nat → Int32)) => f_X0_allCrossings_b31 pl fr to wd dn K4 K14 F s.1 x3 (nI b) i rk wi (nI m) s.2) (fun s => K14 s.1 x3 (nI (b + 1)) rk wi (nI m) s.2) (fun i s => 1 ≤ i ∧ s.1 = nI (s0 + sN (fun w => if 1 ≤ w then cF K V w m else 0) i)) 51 ?_ ?_ 50 1 FU (nI s0, en) (by omega) (FU_big (by omega)) ⟨Nat.le_refl _, rfl⟩
    · obtain ⟨s, h1, -, h2⟩ := h
      exact ⟨s.2, h1.trans (by rw [h2])⟩
    · intro F i s hi ⟨h1i, hI⟩
      obtain ⟨en', he⟩ := p_crossingsFrom (w := i) (en := s.2) hk hv hm hb (by omega)
      refine ⟨(nI (s0 + sN (fun w => if 1 ≤ w then cF K V w m else 0) i + cF K V i m), en'), ?_, by omega, ?_⟩
      · simp only [f_X0_allCrossings_b31, fa_lit, nme]
        rw [if_neg (nlt_nI (by omega) (by omega) (by omega)), if_neg (nle_nI (by omega) (by omega) (by omega)), he]
        simp only [bs]
        rw [hI, nI_step, nI_step]
      · show _ = nI (s0 + (sN (fun w => if 1 ≤ w then cF K V w m else 0) i + if 1 ≤ i then cF K V i m else 0))
        rw [if_pos h1i, Nat.add_assoc]
    · intro F s _
      simp only [f_X0_allCrossings_b31, f_X0_allCrossings_b61, fa_lit, nme]
      rw [if_pos ((lt_nI (by omega) (by omega)).mpr (by omega)), nI_step]
theorem p_ahead {pl fr to wd : Nat → Int32} {D : DR} (hp : RR pl (dP D) 16) (hf : RR fr (dF D) (dN D)) (hg : RR to (dG D) (dN D)) (hd : RR wd (dW D) (dN D)) (hw : WF D) (rk wi : Nat → Int32) (sz : Int32) (en : Nat → Int32) :
    ∃ rk' wi' sz' en', f_X0_allCrossings pl fr to wd (nI (dN D)) rk wi sz en = some (nI (xAll D), rk', wi', sz', en') := by
  have hn := hw.1
  unfold f_X0_allCrossings
  simp only [fa_lit]
  have h := loopI (fun F i (s : Int32 × (Nat → Int32) × (Nat → Int32) × Int32 × (Nat → Int32)) => f_X0_allCrossings_b4 pl fr to wd (nI (dN D)) F s.1 i s.2.1 s.2.2.1 s.2.2.2.1 s.2.2.2.2) some (fun i s => s.1 = nI (sN (fun a => sN (fun b => qAB D a b) 4) i)) 4 ?_ ?_ 4 0 FU (nI 0, rk, wi, sz, en) (by omega) (FU_big (by omega)) rfl
  · obtain ⟨s, h1, h2⟩ := h
    refine ⟨s.2.1, s.2.2.1, s.2.2.2.1, s.2.2.2.2, h1.trans ?_⟩
    rw [← qAB_all hw, ← h2]
  · intro F a s ha hI
    have h := loopI (fun G b (u : Int32 × (Nat → Int32) × (Nat → Int32) × Int32 × (Nat → Int32)) => f_X0_allCrossings_b14 pl fr to wd (nI (dN D)) (f_X0_allCrossings_b4 pl fr to wd (nI (dN D)) F) G u.1 (nI a) b u.2.1 u.2.2.1 u.2.2.2.1 u.2.2.2.2) (fun u => f_X0_allCrossings_b4 pl fr to wd (nI (dN D)) F u.1 (nI (a + 1)) u.2.1 u.2.2.1 u.2.2.2.1 u.2.2.2.2) (fun b u => a + 1 ≤ b ∧ u.1 = nI (sN (fun a => sN (fun b => qAB D a b) 4) a + sN (fun b => qAB D a b) b)) 4 ?_ ?_ (4 - (a + 1)) (a + 1) FU s (by omega) (FU_big (by omega)) ⟨Nat.le_refl _, ?_⟩
    · obtain ⟨u, h1, -, h2⟩ := h
      refine ⟨u, ?_, ?_⟩
      · simp only [f_X0_allCrossings_b4, fa_lit, nme]
        rw [if_neg (nle_nI (by omega) (by omega) ha), nI_step]
        exact h1
      · rw [h2]
        rfl
    · intro G b u hb ⟨hab, hu⟩
      obtain ⟨g, e1, m, K, V, g1, g2, g3, g4, g5, g6, g7⟩ := p_gather hp hf hg hd hw (show a < 16 by omega) (show b < 16 by omega) u.2.1 u.2.2.1 u.2.2.2.1
      obtain ⟨en', he⟩ := p_widthsLoop (pl := pl) (fr := fr) (to := to) (wd := wd) (dn := nI (dN D)) g3 g4 (show m ≤ 20 by omega) g6 (f_X0_allCrossings_b4 pl fr to wd (nI (dN D)) F) (f_X0_allCrossings_b14 pl fr to wd (nI (dN D)) (f_X0_allCrossings_b4 pl fr to wd (nI (dN D)) F) G) (sN (fun a => sN (fun b => qAB D a b) 4) a + sN (fun b => qAB D a b) b) b (nI a) u.2.2.2.2
      refine ⟨(_, g.1, g.2.1, nI m, en'), ?_, by omega, rfl⟩
      simp only [f_X0_allCrossings_b14, fa_lit, nme]
      rw [if_neg (nle_nI (by omega) (by omega) hb), e1]
      simp only [bs]
      rw [hu, g1, he, cF_total g5 g6, ga_sum (show a < b by omega) g7, Nat.add_assoc]
      rfl
    · intro G u _
      simp only [f_X0_allCrossings_b14, fa_lit, nme]
      rw [if_pos ((le_nI (by omega) (by omega)).mpr (Nat.le_refl _)), nI_step]
    · rw [hI]
      refine congrArg nI ?_
      rw [sN_0 (fun b => qAB D a b) (a + 1) (fun b hb => ?_)]
      · rfl
      · unfold qAB
        exact sN_0 _ _ (fun r _ => sN_0 _ _ (fun q _ => if_neg (by omega)))
  · intro F s _
    simp only [f_X0_allCrossings_b4, fa_lit]
    rw [if_pos ((le_nI (by omega) (by omega)).mpr (Nat.le_refl _))]
