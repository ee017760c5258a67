/-! ===== the digest: the reference ===== -/
theorem r_textPart {kp tx : Nat → Int32} {h m : Nat} {T : Nat → Nat} (ht : RR tx T m) (hm : m ≤ 60) (s : Int64) (z a : Nat → Int32) (th sv : Int32) : f_X7_digest_b299 sv kp tx (nI m) FU s (nI 0) th z a = some (gT T s m, th, z, a) := by
  have h := loopI (fun F i (b : Int64) => f_X7_digest_b299 sv kp tx (nI m) F b i th z a) (fun b => some (b, th, z, a)) (fun i b => b = gT T s i) m ?_ ?_ m 0 FU s (by omega) (FU_big (by omega)) rfl
  · obtain ⟨b, h1, h2⟩ := h
    rw [h1, h2]
  · intro F k b hk hb
    refine ⟨mx b (nI (T k)).toInt64, ?_, by rw [hb]; rfl⟩
    simp only [f_X7_digest_b299, fa_lit, nme]
    rw [if_neg (nle_nI (by omega) (by omega) hk), if_pos (gd_nI (by omega) (by omega)), cl_nI (by omega), ht k hk, nI_step]
    rfl
  · intro F b _
    simp only [f_X7_digest_b299, fa_lit]
    rw [if_pos ((le_nI (by omega) (by omega)).mpr (Nat.le_refl _))]
theorem bI_k0 (b : Bool) : (bI b).toInt64 = kI b := by cases b <;> decide
theorem r_keptPart {kp tx : Nat → Int32} {h m : Nat} {T : Nat → Nat} {k0 k1 : Bool} (ht : RR tx T m) (hm : m ≤ 60) (h1 : kp 1 = bI k1) (s : Int64) (z a : Nat → Int32) (th : Int32) : f_X7_digest_b265 (nI h) kp tx (nI m) (bI k0) (31 * s) 31 th z a = some (gT T (mx (mx (mx s (kI k0)) (kI k1)) (nI m).toInt64) m, th, z, a) := by
  have fin : ∀ b : Bool, f_X7_digest_b282 (nI h) kp tx (nI m) (bI b) (31 * (31 * s + (bI k0).toInt64)) th z a = some (gT T (mx (mx (mx s (kI k0)) (kI b)) (nI m).toInt64) m, th, z, a) := by
    intro b
    unfold f_X7_digest_b282
    simp only [fa_lit, nme]
    rw [bI_k0, bI_k0]
    exact r_textPart (h := h) ht hm _ _ _ _ _
  unfold f_X7_digest_b265
  simp only [fa_lit]
  rw [show (nI 1).toNatClampNeg = 1 by decide, h1]
  simp only [bI_0]
  cases k1 with
  | false =>
    rw [if_pos rfl]
    exact fin false
  | true =>
    rw [if_neg (by decide)]
    exact fin true
theorem r_columnsPart {z a kp tx : Nat → Int32} {D : DR} {h m : Nat} {T : Nat → Nat} {k0 k1 : Bool} (hz : DZ z D) (hw : WF D) (ht : RR tx T m) (hm : m ≤ 60) (h0 : kp 0 = bI k0) (h1 : kp 1 = bI k1) {S : Nat} {G : DR}
    (hS : ∀ (z : Nat → Int32), DZ z D → ∃ z', f_X7_doSettle z = some (nI S, z') ∧ DZ z' G) (s : Int64) (th : Int32) :
    ∃ z' a', f_X7_digest_b131 (nI h) kp tx (nI m) FU s (nI 0) th z a = some (gT T (mx (mx (mx (gM D S (gB D s 4)) (kI k0)) (kI k1)) (nI m).toInt64) m, th, z', a') ∧ DZ z' D := by
  have hlp := loopI (fun F i (q : Int64 × (Nat → Int32) × (Nat → Int32)) => f_X7_digest_b131 (nI h) kp tx (nI m) F q.1 i th q.2.1 q.2.2) (fun q => f_X7_digest_b131 (nI h) kp tx (nI m) 1 q.1 (nI 4) th q.2.1 q.2.2) (fun i q => q.1 = gB D s i ∧ DZ q.2.1 D) 4 ?_ ?_ 4 0 FU (s, z, a) (by omega) (FU_big (by omega)) ⟨rfl, hz⟩
  · obtain ⟨q, g1, g2, g3⟩ := hlp
    rw [g1, g2]
    simp only [f_X7_digest_b131, fa_lit, nme]
    rw [if_pos ((le_nI (by omega) (by omega)).mpr (Nat.le_refl _))]
    obtain ⟨z1, x1, y1⟩ := r_swapped g3 hw (show 0 < 16 by omega) (show 1 < 16 by omega) (by omega) (by omega)
    rw [x1]
    simp only [bs]
    obtain ⟨z2, x2, y2⟩ := r_swapped y1 hw (show 5 < 16 by omega) (show 6 < 16 by omega) (by omega) (by omega)
    rw [x2]
    simp only [bs]
    obtain ⟨z3, x3, y3⟩ := r_swapped y2 hw (show 8 < 16 by omega) (show 11 < 16 by omega) (by omega) (by omega)
    rw [x3]
    simp only [bs]
    obtain ⟨z4, a4, x4, y4⟩ := r_settled (a := q.2.2) y3 hw hS
    rw [x4]
    simp only [bs]
    rw [r_findMain y4 hw]
    simp only [bs]
    rw [r_share y4 hw]
    simp only [bs]
    rw [(gS_p hw).2]
    simp only [bs]
    rw [z0, h0]
    simp only [bI_0]
    refine ⟨z4, a4, ?_, y4⟩
    cases k0 with
    | false =>
      rw [if_pos rfl]
      exact r_keptPart (h := h) (k0 := false) ht hm h1 (gM D S (gB D s 4)) _ _ _
    | true =>
      rw [if_neg (by decide)]
      exact r_keptPart (h := h) (k0 := true) ht hm h1 (gM D S (gB D s 4)) _ _ _
  · intro F c q hc ⟨g1, g2⟩
    obtain ⟨z1, a1, x1, y1⟩ := r_best (a := q.2.2) hc g2 hw
    refine ⟨(mx (mx q.1 (nI (tell4 (bO D c))).toInt64) (nI (hgt D c)).toInt64, z1, a1), ?_, by rw [g1]; rfl, y1⟩
    simp only [f_X7_digest_b131, fa_lit, nme]
    rw [if_neg (nle_nI (by omega) (by omega) hc), x1]
    simp only [bs]
    rw [r_heightOf y1 hw hc]
    simp only [bs]
    rw [nI_step]
    rfl
  · intro F q _
    simp only [f_X7_digest_b131, fa_lit]
    rw [if_pos ((le_nI (by omega) (by omega)).mpr (Nat.le_refl _)), if_pos ((le_nI (by omega) (by omega)).mpr (Nat.le_refl _))]
theorem r_digest {z a kp tx : Nat → Int32} {D : DR} {h m : Nat} {T : Nat → Nat} {k0 k1 : Bool} (hz : DZ z D) (hw : WF D) (ht : RR tx T m) (hm : m ≤ 60) (h0 : kp 0 = bI k0) (h1 : kp 1 = bI k1) {S : Nat} {G : DR}
    (hS : ∀ (z : Nat → Int32), DZ z D → ∃ z', f_X7_doSettle z = some (nI S, z') ∧ DZ z' G) (th : Int32) :
    ∃ z' a', f_X7_digest (nI h) kp tx (nI m) th z a = some (gD D S h T m k0 k1, nI 0, z', a') ∧ DZ z' D := by
  have hn := hw.1
  unfold f_X7_digest
  simp only [fa_lit]
  have hC := loopI (fun F i (b : Int64) => f_X7_digest_b11 (nI h) kp tx (nI m) F b i (nI 0) z a) (fun b => f_X7_digest_b38 (nI h) kp tx (nI m) FU b (nI 0) (nI 0) z a) (fun i b => b = gC D h 3527 i) 10 ?_ ?_ 10 0 FU 3527 (by omega) (FU_big (by omega)) rfl
  · obtain ⟨b0, e1, e2⟩ := hC
    rw [e1]
    have hP := loopI (fun F i (b : Int64) => f_X7_digest_b38 (nI h) kp tx (nI m) F b i (nI 0) z a) (fun b => f_X7_digest_b83 (nI h) kp tx (nI m) FU b (nI 0) (nI 0) z a) (fun i b => b = gP D b0 i) 16 ?_ ?_ 16 0 FU b0 (by omega) (FU_big (by omega)) rfl
    · obtain ⟨b1, e3, e4⟩ := hP
      rw [e3]
      have hR := loopI (fun F i (b : Int64) => f_X7_digest_b83 (nI h) kp tx (nI m) F b i (nI 0) z a) (fun b => f_X7_digest_b131 (nI h) kp tx (nI m) FU b (nI 0) (nI 0) z a) (fun i b => b = gR D b1 i) (dN D) ?_ ?_ (dN D) 0 FU b1 (by omega) (FU_big (by omega)) rfl
      · obtain ⟨b2, e5, e6⟩ := hR
        rw [e5]
        obtain ⟨z', a', g1, g2⟩ := r_columnsPart (h := h) hz hw ht hm h0 h1 hS b2 (nI 0)
        refine ⟨z', a', ?_, g2⟩
        unfold gD
        rw [← e2, ← e4, ← e6]
        exact g1
      · intro F p b hp hb
        have h := loopI (fun G k (c : Int64) => f_X7_digest_b96 (nI h) kp tx (nI m) (f_X7_digest_b83 (nI h) kp tx (nI m) F) G c (nI p) k (nI 0) z a) (fun c => f_X7_digest_b83 (nI h) kp tx (nI m) F c (nI (p + 1)) (nI 0) z a) (fun k c => c = gR1 D p b k) 5 ?_ ?_ 5 0 FU b (by omega) (FU_big (by omega)) rfl
        · obtain ⟨c, h1, h2⟩ := h
          refine ⟨c, ?_, by rw [h2, hb]; rfl⟩
          simp only [f_X7_digest_b83, fa_lit]
          rw [z0, hz.1, if_neg (nle_nI (by omega) (by omega) hp)]
          exact h1
        · intro G k c hk hc
          refine ⟨mx c (nI (rV D p k)).toInt64, ?_, by rw [hc]; rfl⟩
          simp only [f_X7_digest_b96, fa_lit, nme]
          rw [if_neg (nle_nI (by omega) (by omega) hk), r_ribbonNow hz hw hp hk]
          simp only [bs]
          rw [nI_step]
          rfl
        · intro G c _
          simp only [f_X7_digest_b96, fa_lit, nme]
          rw [if_pos ((le_nI (by omega) (by omega)).mpr (Nat.le_refl _)), nI_step]
      · intro F b _
        simp only [f_X7_digest_b83, fa_lit]
        rw [z0, hz.1, if_pos ((le_nI (by omega) (by omega)).mpr (Nat.le_refl _))]
    · intro F p b hp hb
      have h := loopI (fun G k (c : Int64) => f_X7_digest_b47 (nI h) kp tx (nI m) (f_X7_digest_b38 (nI h) kp tx (nI m) F) G c (nI p) k (nI 0) z a) (fun c => f_X7_digest_b38 (nI h) kp tx (nI m) F c (nI (p + 1)) (nI 0) z a) (fun k c => c = gP1 D p b k) 8 ?_ ?_ 8 0 FU b (by omega) (FU_big (by omega)) rfl
      · obtain ⟨c, h1, h2⟩ := h
        refine ⟨c, ?_, by rw [h2, hb]; rfl⟩
        simp only [f_X7_digest_b38, fa_lit]
        rw [if_neg (nle_nI (by omega) (by omega) hp)]
        exact h1
      · intro G k c hk hc
        refine ⟨mx c (nI (pV D p k)).toInt64, ?_, by rw [hc]; rfl⟩
        simp only [f_X7_digest_b47, fa_lit, nme]
        rw [if_neg (nle_nI (by omega) (by omega) hk), r_postNow hz hw hp hk]
        simp only [bs]
        rw [nI_step]
        rfl
      · intro G c _
        simp only [f_X7_digest_b47, fa_lit, nme]
        rw [if_pos ((le_nI (by omega) (by omega)).mpr (Nat.le_refl _)), nI_step]
    · intro F b _
      simp only [f_X7_digest_b38, fa_lit]
      rw [if_pos ((le_nI (by omega) (by omega)).mpr (Nat.le_refl _))]
  · intro F k b hk hb
    refine ⟨mx b (cV D h k).toInt64, ?_, by rw [hb]; rfl⟩
    simp only [f_X7_digest_b11, fa_lit, nme]
    rw [if_neg (nle_nI (by omega) (by omega) hk), r_countNow hz hw hk]
    simp only [bs]
    rw [nI_step]
    rfl
  · intro F b _
    simp only [f_X7_digest_b11, fa_lit]
    rw [if_pos ((le_nI (by omega) (by omega)).mpr (Nat.le_refl _))]
