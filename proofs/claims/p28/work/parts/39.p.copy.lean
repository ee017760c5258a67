/-! ===== copies of rows; the drawing put aside and back ===== -/
theorem DZ_cong {z y : Nat → Int32} {D : DR} (hw : WF D) (h : ∀ k, k < 78 → y k = z k) (hz : DZ z D) : DZ y D := by
  have hn := hw.1
  obtain ⟨h0, h1, h2, h3⟩ := hz
  refine ⟨(h 0 (by omega)).trans h0, (h 1 (by omega)).trans h1, fun p hp => (h (2 + p) (by omega)).trans (h2 p hp), fun r hr => ?_⟩
  obtain ⟨k1, k2, k3⟩ := h3 r hr
  exact ⟨(h _ (by omega)).trans k1, (h _ (by omega)).trans k2, (h _ (by omega)).trans k3⟩
theorem cpy_loop {ρ : Type} (L : Nat → Int32 → (Nat → Int32) → Option ρ) (R : (Nat → Int32) → Option ρ) (z : Nat → Int32) (n : Nat)
    (hs : ∀ F i a, i < n → L (F + 1) (nI i) a = L F (nI (i + 1)) (upd a i (z i))) (he : ∀ F a, L (F + 1) (nI n) a = R a) :
    ∀ (k i F : Nat) (a : Nat → Int32), i + k = n → k < F → (∀ j, j < i → a j = z j) → ∃ a', L F (nI i) a = R a' ∧ ∀ j, j < n → a' j = z j := by
  intro k
  induction k with
  | zero =>
    intro i F a hi hF ha
    cases F with
    | zero => omega
    | succ F =>
      have e : i = n := by omega
      subst e
      exact ⟨a, he F a, ha⟩
  | succ k ih =>
    intro i F a hi hF ha
    cases F with
    | zero => omega
    | succ F =>
      obtain ⟨a', e1, e2⟩ := ih (i + 1) F (upd a i (z i)) (by omega) (by omega) (fun j hj => by
        by_cases h : j = i
        · rw [h, upd_q]
        · rw [upd_w h]; exact ha j (by omega))
      exact ⟨a', (hs F i a (by omega)).trans e1, e2⟩
theorem r_putAside (z a : Nat → Int32) : ∃ a', f_X7_putAside z a = some a' ∧ ∀ j, j < 78 → a' j = z j := by
  unfold f_X7_putAside
  rw [fa_lit]
  refine cpy_loop (fun F i a => f_X7_putAside_b2 z F i a) some z 78 (fun F i a hi => ?_) (fun F a => ?_) 78 0 FU a (by omega) (FU_big (by omega)) (fun j hj => by omega)
  · show f_X7_putAside_b2 z (F + 1) (nI i) a = _
    simp only [f_X7_putAside_b2, fa_lit, nme]
    rw [if_neg (nle_nI (by omega) (by omega) hi), if_pos (gd_nI hi (by omega)), if_pos (gd_nI hi (by omega)), cl_nI (by omega), nI_step]
  · show f_X7_putAside_b2 z (F + 1) (nI 78) a = _
    simp only [f_X7_putAside_b2, fa_lit, nme]
    rw [if_pos ((le_nI (by omega) (by omega)).mpr (Nat.le_refl _))]
theorem r_putBack (z a : Nat → Int32) : ∃ a', f_X7_putBack z a = some a' ∧ ∀ j, j < 78 → a' j = z j := by
  unfold f_X7_putBack
  rw [fa_lit]
  refine cpy_loop (fun F i a => f_X7_putBack_b2 z F i a) some z 78 (fun F i a hi => ?_) (fun F a => ?_) 78 0 FU a (by omega) (FU_big (by omega)) (fun j hj => by omega)
  · show f_X7_putBack_b2 z (F + 1) (nI i) a = _
    simp only [f_X7_putBack_b2, fa_lit, nme]
    rw [if_neg (nle_nI (by omega) (by omega) hi), if_pos (gd_nI hi (by omega)), if_pos (gd_nI hi (by omega)), cl_nI (by omega), nI_step]
  · show f_X7_putBack_b2 z (F + 1) (nI 78) a = _
    simp only [f_X7_putBack_b2, fa_lit, nme]
    rw [if_pos ((le_nI (by omega) (by omega)).mpr (Nat.le_refl _))]
theorem p_checkPair {a b : Nat} (ha : a < 16) (hb : b < 16) (hc : a / 4 = b / 4) (hn : a ≠ b) : f_X6_checkPair (nI a) (nI b) = some (.inr ()) := by
  unfold f_X6_checkPair
  rw [p_checkPost ha, p_checkPost hb, p_columnOf ha, p_columnOf hb]
  simp only [bs, xbs]
  rw [if_neg (by rw [eq_nI (by omega) (by omega)]; exact hn), if_pos (by rw [hc])]
theorem cpy_in {f g : Nat → Int32} {m r : Nat} (h : r < m) : va_cpy f g 0 0 m r = f r := by
  rw [pk_cpy_in (Nat.zero_le _) (by omega), Nat.zero_add, Nat.sub_zero]
theorem cpy_RR {f g : Nat → Int32} {h : Nat → Nat} {n m : Nat} (hf : RR f h n) (hm : n ≤ m) : RR (va_cpy f g 0 0 m) h n := by
  intro r hr
  rw [cpy_in (by omega)]
  exact hf r hr
theorem c16 : (16 : Int32).toNatClampNeg = 16 := by decide
theorem c20 : (20 : Int32).toNatClampNeg = 20 := by decide
theorem c0 : (0 : Int32).toNatClampNeg = 0 := by decide
/-- copyFrom: the copy tells the same drawing -/
theorem p_copyFrom {ep ef et ew dp df dt dw : Nat → Int32} {en etr dn dtr : Int32} {D : DR} (h : DC ep ef et ew en etr D) (hw : WF D) : ∃ p f t w, f_X1_copyFrom ep ef et ew en etr dp df dt dw dn dtr = some (p, f, t, w, en, etr) ∧ DC p f t w en etr D := by
  have hn := hw.1
  obtain ⟨h1, h2, h3, h4, h5, h6⟩ := h
  refine ⟨va_cpy ep dp 0 0 16, va_cpy ef df 0 0 20, va_cpy et dt 0 0 20, va_cpy ew dw 0 0 20, ?_, h1, h2, cpy_RR h3 (Nat.le_refl _), cpy_RR h4 hn, cpy_RR h5 hn, cpy_RR h6 hn⟩
  unfold f_X1_copyFrom
  rw [c0, c16, c20]
theorem xAll_exP (D : DR) (a b : Nat) : dN (exP D a b) = dN D := rfl
theorem p_ifSwapped {dp df dt dw ep ef et ew : Nat → Int32} {dn dtr en etr : Int32} {D : DR} (h : DC dp df dt dw dn dtr D) (hw : WF D) {a b : Nat} (ha : a < 16) (hb : b < 16) (hc : a / 4 = b / 4) (hne : a ≠ b) :
    ∃ p f t w, f_X6_ifSwapped dp df dt dw dn dtr (nI a) (nI b) ep ef et ew en etr = some (.inr (nI (xAll (exP D a b)), p, f, t, w, dn, dtr)) := by
  obtain ⟨p, f, t, w, e1, e2⟩ := p_copyFrom (dp := ep) (df := ef) (dt := et) (dw := ew) (dn := en) (dtr := etr) h hw
  obtain ⟨k1, k2, k3, k4, k5, k6⟩ := e2
  obtain ⟨p2, e3, e4⟩ := p_exchange k3 ha hb
  have x := p_allCrossings (D := exP D a b) e4 k4 k5 k6 (exP_wf hw ha hb hc)
  refine ⟨p2, f, t, w, ?_⟩
  unfold f_X6_ifSwapped
  rw [p_checkPair ha hb hc hne]
  simp only [xbs]
  rw [e1]
  simp only [bs]
  rw [e3]
  simp only [bs]
  rw [k1]
  rw [xAll_exP] at x
  rw [x]
  simp only [bs]
theorem p_ifSettled {dp df dt dw ep ef et ew : Nat → Int32} {dn dtr en etr : Int32} {D : DR} (h : DC dp df dt dw dn dtr D) (hw : WF D) {S : Nat} {E : DR}
    (hS : ∀ (fr to wd : Nat → Int32), RR fr (dF D) (dN D) → RR to (dG D) (dN D) → RR wd (dW D) (dN D) → ∃ wd', f_X1_trimAll fr to (nI (dN D)) wd (dT D) = some (nI S, wd', dT E) ∧ RR wd' (dW E) (dN D)) :
    ∃ p f t w, f_X6_ifSettled dp df dt dw dn dtr ep ef et ew en etr = some (nI S, p, f, t, w, dn, dT E) := by
  obtain ⟨p, f, t, w, e1, e2⟩ := p_copyFrom (dp := ep) (df := ef) (dt := et) (dw := ew) (dn := en) (dtr := etr) h hw
  obtain ⟨k1, k2, k3, k4, k5, k6⟩ := e2
  obtain ⟨wd', e3, -⟩ := hS f t w k4 k5 k6
  refine ⟨p, f, t, wd', ?_⟩
  unfold f_X6_ifSettled
  rw [e1]
  simp only [bs]
  rw [k1, k2, e3]
  simp only [bs]
theorem r_settled {z a : Nat → Int32} {D : DR} (hz : DZ z D) (hw : WF D) {S : Nat} {E : DR} (hS : ∀ (z : Nat → Int32), DZ z D → ∃ z', f_X7_doSettle z = some (nI S, z') ∧ DZ z' E) :
    ∃ z' a', f_X7_settled z a = some (nI S, z', a') ∧ DZ z' D := by
  obtain ⟨a1, e1, e2⟩ := r_putAside z a
  obtain ⟨z1, e3, -⟩ := hS z hz
  obtain ⟨z2, e4, e5⟩ := r_putBack a1 z1
  refine ⟨z2, a1, ?_, DZ_cong hw (fun k hk => (e5 k hk).trans (e2 k hk)) hz⟩
  unfold f_X7_settled
  rw [e1]
  simp only [bs]
  rw [e3]
  simp only [bs]
  rw [e4]
  simp only [bs]
