/-! ===== the digest: the class ===== -/
def mx (a v : Int64) : Int64 := 31 * a + v
theorem p_mixed (a v : Int64) : f_X6_mixed a v = some (mx a v) := rfl
def gC (D : DR) (h : Nat) (s : Int64) (n : Nat) : Int64 := itr (fun k a => mx a (cV D h k).toInt64) s n
def gP1 (D : DR) (p : Nat) (s : Int64) (n : Nat) : Int64 := itr (fun k a => mx a (nI (pV D p k)).toInt64) s n
def gP (D : DR) (s : Int64) (n : Nat) : Int64 := itr (fun p a => gP1 D p a 8) s n
def gR1 (D : DR) (r : Nat) (s : Int64) (n : Nat) : Int64 := itr (fun k a => mx a (nI (rV D r k)).toInt64) s n
def gR (D : DR) (s : Int64) (n : Nat) : Int64 := itr (fun r a => gR1 D r a 5) s n
def gB (D : DR) (s : Int64) (n : Nat) : Int64 := itr (fun c a => mx (mx a (nI (tell4 (bO D c))).toInt64) (nI (hgt D c)).toInt64) s n
def gT (T : Nat → Nat) (s : Int64) (n : Nat) : Int64 := itr (fun k a => mx a (nI (T k)).toInt64) s n
def gS (D : DR) : Int64 := (f_X6_bitsOfShare (shv D)).getD 0
theorem gS_p {D : DR} (hw : WF D) : f_X6_bitsOfShare (shv D) = some (gS D) ∧ f_Jxe99ae_doubleToLongBits_ccdee (shv D) = some (gS D) := by
  obtain ⟨v, h1, h2⟩ := shv_bits hw
  have e : gS D = v := by
    unfold gS
    rw [h1]
    rfl
  rw [e]
  exact ⟨h1, h2⟩
/-- behind the columns: what would be, the ribbon that matters, the share -/
def gM (D : DR) (S : Nat) (s : Int64) : Int64 := mx (mx (mx (mx (mx (mx s (nI (xAll (exP D 0 1))).toInt64) (nI (xAll (exP D 5 6))).toInt64) (nI (xAll (exP D 8 11))).toInt64) (nI S).toInt64) (oI (mnO D)).toInt64) (gS D)
def kI (b : Bool) : Int64 := if b = true then 1 else 0
def gD (D : DR) (S h : Nat) (T : Nat → Nat) (n : Nat) (k0 k1 : Bool) : Int64 :=
  gT T (mx (mx (mx (gM D S (gB D (gR D (gP D (gC D h 3527 10) 16) (dN D)) 4)) (kI k0)) (kI k1)) (nI n).toInt64) n
theorem p_withPosts {pl fr to wd : Nat → Int32} {D : DR} (hpl : RR pl (dP D) 16) (hf : RR fr (dF D) (dN D)) (hg : RR to (dG D) (dN D)) (hd : RR wd (dW D) (dN D)) (hw : WF D) (s : Int64) :
    f_X6_withPosts pl fr to wd (nI (dN D)) s = some (.inr (gP D s 16)) := by
  unfold f_X6_withPosts
  simp only [fa_lit]
  have h := loopI (fun F i (a : Int64) => f_X6_withPosts_b5 pl fr to wd (nI (dN D)) s F a i) (fun a => some (.inr a)) (fun i a => a = gP D s i) 16 ?_ ?_ 16 0 FU s (by omega) (FU_big (by omega)) rfl
  · obtain ⟨a, h1, h2⟩ := h
    rw [h1, h2]
  · intro F p a hp ha
    have h := loopI (fun G k (b : Int64) => f_X6_withPosts_b15 pl fr to wd (nI (dN D)) s (f_X6_withPosts_b5 pl fr to wd (nI (dN D)) s F) G b (nI p) k) (fun b => f_X6_withPosts_b5 pl fr to wd (nI (dN D)) s F b (nI (p + 1))) (fun k b => b = gP1 D p a k) 8 ?_ ?_ 8 0 FU a (by omega) (FU_big (by omega)) rfl
    · obtain ⟨b, h1, h2⟩ := h
      refine ⟨b, ?_, by rw [h2, ha]; rfl⟩
      simp only [f_X6_withPosts_b5, fa_lit]
      rw [if_neg (nle_nI (by omega) (by omega) hp)]
      exact h1
    · intro G k b hk hb
      refine ⟨mx b (nI (pV D p k)).toInt64, ?_, by rw [hb]; rfl⟩
      simp only [f_X6_withPosts_b15, fa_lit, nme]
      rw [if_neg (nlt_nI (by omega) (by omega) (by omega)), p_postOf hpl hf hg hd hw hp hk]
      simp only [xbs, p_mixed, bs]
      rw [nI_step]
    · intro G b _
      simp only [f_X6_withPosts_b15, fa_lit, nme]
      rw [if_pos ((lt_nI (by omega) (by omega)).mpr (by omega)), nI_step]
  · intro F a _
    simp only [f_X6_withPosts_b5, fa_lit]
    rw [if_pos ((le_nI (by omega) (by omega)).mpr (Nat.le_refl _))]
theorem p_withRibbons {pl fr to wd : Nat → Int32} {D : DR} (hpl : RR pl (dP D) 16) (hf : RR fr (dF D) (dN D)) (hg : RR to (dG D) (dN D)) (hd : RR wd (dW D) (dN D)) (hw : WF D) (s : Int64) :
    f_X6_withRibbons pl fr to wd (nI (dN D)) s = some (.inr (gR D s (dN D))) := by
  have hn := hw.1
  unfold f_X6_withRibbons
  simp only [fa_lit]
  have h := loopI (fun F i (a : Int64) => f_X6_withRibbons_b5 pl fr to wd (nI (dN D)) s F a i) (fun a => some (.inr a)) (fun i a => a = gR D s i) (dN D) ?_ ?_ (dN D) 0 FU s (by omega) (FU_big (by omega)) rfl
  · obtain ⟨a, h1, h2⟩ := h
    rw [h1, h2]
  · intro F p a hp ha
    have h := loopI (fun G k (b : Int64) => f_X6_withRibbons_b20 pl fr to wd (nI (dN D)) s (f_X6_withRibbons_b5 pl fr to wd (nI (dN D)) s F) G b (nI p) k) (fun b => f_X6_withRibbons_b5 pl fr to wd (nI (dN D)) s F b (nI (p + 1))) (fun k b => b = gR1 D p a k) 5 ?_ ?_ 5 0 FU a (by omega) (FU_big (by omega)) rfl
    · obtain ⟨b, h1, h2⟩ := h
      refine ⟨b, ?_, by rw [h2, ha]; rfl⟩
      simp only [f_X6_withRibbons_b5, fa_lit]
      rw [if_neg (nle_nI (by omega) (by omega) hp)]
      exact h1
    · intro G k b hk hb
      refine ⟨mx b (nI (rV D p k)).toInt64, ?_, by rw [hb]; rfl⟩
      simp only [f_X6_withRibbons_b20, fa_lit, nme]
      rw [if_neg (nlt_nI (by omega) (by omega) (by omega)), p_ribbonOf hpl hf hg hd hw hp hk]
      simp only [xbs, p_mixed, bs]
      rw [nI_step]
    · intro G b _
      simp only [f_X6_withRibbons_b20, fa_lit, nme]
      rw [if_pos ((lt_nI (by omega) (by omega)).mpr (by omega)), nI_step]
  · intro F a _
    simp only [f_X6_withRibbons_b5, fa_lit]
    rw [if_pos ((le_nI (by omega) (by omega)).mpr (Nat.le_refl _))]
theorem p_withText {t : Nat → Int32} {T : Nat → Nat} {n : Nat} (ht : RR t T n) (hn : n ≤ 60) (s : Int64) : f_X6_withText t (nI n) s = some (gT T (mx s (nI n).toInt64) n) := by
  unfold f_X6_withText
  simp only [fa_lit, p_mixed, bs]
  have h := loopI (fun F i (a : Int64) => f_X6_withText_b16 t (nI n) s F a i) some (fun i a => a = gT T (mx s (nI n).toInt64) i) n ?_ ?_ n 0 FU (mx s (nI n).toInt64) (by omega) (FU_big (by omega)) rfl
  · obtain ⟨a, h1, h2⟩ := h
    rw [h1, h2]
  · intro F k b hk hb
    refine ⟨mx b (nI (T k)).toInt64, ?_, by rw [hb]; rfl⟩
    simp only [f_X6_withText_b16, fa_lit, nme]
    rw [if_neg (nle_nI (by omega) (by omega) hk), p_codeAt ht hn (by omega), aT_lt hk]
    simp only [p_mixed, bs]
    rw [nI_step]
  · intro F a _
    simp only [f_X6_withText_b16, fa_lit]
    rw [if_pos ((le_nI (by omega) (by omega)).mpr (Nat.le_refl _))]
theorem p_bestOrder {pl fr to wd : Nat → Int32} {D : DR} (hpl : RR pl (dP D) 16) (hf : RR fr (dF D) (dN D)) (hg : RR to (dG D) (dN D)) (hd : RR wd (dW D) (dN D)) (hw : WF D) {c : Nat} (hc : c < 4) (row best co : Nat → Int32) :
    ∃ q, f_X6_bestOrder pl fr to wd (nI (dN D)) (nI c) row best co = some (.inr (nI (tell4 (bO D c)), q)) := by
  obtain ⟨r, b, k, e1, e2⟩ := p_best hpl hf hg hd hw hc row best co
  unfold f_X6_bestOrder
  rw [p_checkColumn hc]
  simp only [xbs]
  rw [e1]
  simp only [bs]
  rw [p_tellBest e2]
  simp only [bs]
  exact ⟨_, rfl⟩
theorem p_mainRibbon {fr to wd : Nat → Int32} {D : DR} (hf : RR fr (dF D) (dN D)) (hg : RR to (dG D) (dN D)) (hd : RR wd (dW D) (dN D)) (hw : WF D) (be en wi : Nat → Int32) (sz : Int32) (lw : Nat → Int32) :
    ∃ q, f_X6_mainRibbon fr to wd (nI (dN D)) be en wi sz lw = some (oI (mnO D), q) := by
  obtain ⟨a, b, c, d, e, h⟩ := p_ribbonThatMatters hf hg hd hw be en wi sz lw
  unfold f_X6_mainRibbon
  rw [h]
  simp only [bs]
  exact ⟨_, rfl⟩
