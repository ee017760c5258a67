/-! ===== texts: whole texts, and the drawing that they tell ===== -/
def emD (D : DR) : DR := (0, D.2)
def loD (D : DR) (R : Nat → Nat) (m : Nat) : DR := adG R 0 m (emD D)
theorem adG_facts (R : Nat → Nat) : ∀ (c j : Nat) (X : DR), dN X = j → j + c ≤ 20 → RLt R j (j + c) → WF X → WF (adG R j c X) ∧ dN (adG R j c X) = j + c ∧ dT (adG R j c X) = dT X ∧ dP (adG R j c X) = dP X
  | 0, j, X, hj, _, _, hw => ⟨hw, hj, rfl, rfl⟩
  | c + 1, j, X, hj, hc, hR, hw => by
    obtain ⟨r1, r2, r3, r4⟩ := hR j (Nat.le_refl _) (by omega)
    have h := adG_facts R c (j + 1) (adD X (R (3 * j)) (R (3 * j + 1)) (R (3 * j + 2))) (by show X.1 + 1 = j + 1; rw [← hj]; rfl) (by omega) (fun k h1 h2 => hR k (by omega) (by omega)) (adD_wf hw (by omega) r1 r2 r3 r4)
    obtain ⟨h1, h2, h3, h4⟩ := h
    unfold adG
    exact ⟨h1, by omega, h3, h4⟩
theorem emD_wf {D : DR} (hw : WF D) : WF (emD D) := ⟨Nat.zero_le _, hw.2.1, hw.2.2.1, fun r hr => absurd hr (Nat.not_lt_zero r)⟩
theorem loD_wf {D : DR} {R : Nat → Nat} {m : Nat} (hw : WF D) (hm : m ≤ 15) (hR : RLt R 0 m) : WF (loD D R m) ∧ dN (loD D R m) = m ∧ dT (loD D R m) = dT D ∧ dP (loD D R m) = dP D := by
  have h := adG_facts R m 0 (emD D) rfl (by omega) (by rw [Nat.zero_add]; exact hR) (emD_wf hw)
  rw [Nat.zero_add] at h
  exact h
theorem tx_all {t u : Nat → Int32} {T : Nat → Nat} {n : Nat} (ht : RR t T n) (hu : RR u T n) (hn : n ≤ 60) (hT : ∀ k, k < n → T k ≤ 126) (rd : Nat → Int32) (r0 : Int32) :
    ∃ (e : Option Nat) (rd' : Nat → Int32) (R : Nat → Nat) (m : Nat), f_X7_findError u (nI n) rd r0 = some (oI e, rd', nI m) ∧ RR rd' R (3 * m) ∧ m ≤ 15 ∧ e.getD n ≤ n ∧
      f_X4_firstWrong t (nI n) = some (nI (e.getD n)) ∧ f_X4_tellsDrawing t (nI n) = some (bI (decide (e = none))) ∧
      (e = none → RLt R 0 m ∧ ∀ (D : DR) (fr to wd : Nat → Int32) (dn : Int32), ∃ fr' to' wd', f_X4_drawInto t (nI n) fr to wd dn = some (fr', to', wd', nI m) ∧ RR fr' (dF (loD D R m)) m ∧ RR to' (dG (loD D R m)) m ∧ RR wd' (dW (loD D R m)) m) := by
  obtain ⟨e, rd', R, m, e1, e2, -, -, e5, e6, e7, e8⟩ := tx_both ht hu hn hT n 0 (by omega) (Or.inl rfl) FU FU (FU_big (by omega)) (FU_big (by omega)) rd (fun _ => 0) 0 (fun k hk => by omega) (by omega)
  have hfw : f_X4_firstWrong t (nI n) = some (nI (e.getD n)) := by
    unfold f_X4_firstWrong
    simp only [fa_lit]
    exact e6
  have hel : e.getD n ≤ n := by
    match e, e7 with
    | none, _ => exact Nat.le_refl _
    | some x, h => show x ≤ n; have := h x rfl; omega
  refine ⟨e, rd', R, m, ?_, e2, e5, hel, hfw, ?_, ?_⟩
  · unfold f_X7_findError
    simp only [fa_lit]
    exact e1
  · unfold f_X4_tellsDrawing
    simp only [fa_lit]
    by_cases h0 : n = 0
    · rw [if_pos ((le_nI (by omega) (by omega)).mpr (by omega)), decide_eq_false (fun z => by have := (e8 z).1; omega)]
      rfl
    · rw [if_neg (nle_nI (by omega) (by omega) (by omega)), pk_sub (by omega), p_codeAt ht hn (by omega), aT_lt (by omega)]
      simp only [bs]
      have hc := hT (n - 1) (by omega)
      rw [p_isDigit (by omega)]
      simp only [bs, bI_0]
      by_cases c : dgt (T (n - 1)) = false
      · rw [if_pos c, decide_eq_false (fun z => by have := (e8 z).2.1; rw [c] at this; cases this)]
        rfl
      · rw [if_neg c, hfw]
        simp only [bs]
        match e, e7 with
        | none, _ =>
          rw [if_pos (show nI (Option.getD none n) = nI n from rfl)]
          rfl
        | some x, h =>
          have hx : x < n := by
            rcases h x rfl with h | ⟨h, h1 | h1⟩
            · exact h
            · exact absurd h1 h0
            · exact absurd h1 c
          rw [if_neg (by rw [show Option.getD (some x) n = x from rfl, eq_nI (by omega) (by omega)]; omega)]
          rfl
  · intro hnone
    obtain ⟨g1, g2, g3, g4⟩ := e8 hnone
    refine ⟨g3, fun D fr to wd dn => ?_⟩
    obtain ⟨fr', to', wd', k1, k2, k3, k4⟩ := g4 FU (FU_big (by omega)) (emD D) (-nI 1) fr to wd rfl (fun k hk => by omega) (fun k hk => by omega) (fun k hk => by omega)
    refine ⟨fr', to', wd', ?_, k2, k3, k4⟩
    unfold f_X4_drawInto
    simp only [fa_lit]
    exact k1
/-- the reference puts the ribbons that it has read -/
theorem r_load38 {u rd sv : Nat → Int32} {R : Nat → Nat} {m : Nat} {th sa len : Int32} (hm : m ≤ 15) (hR : RR rd R (3 * m)) : ∀ (c j F : Nat) (z : Nat → Int32) (X : DR), j + c = m → c < F → DZ z X → dN X = j →
    ∃ z', f_X7_load_b38 u F (nI j) th z sv sa len rd (nI m) = some (nI (dN (adG R j c X)), th, z', sv, sa, nI 0, rd, nI m) ∧ DZ z' (adG R j c X) := by
  intro c
  induction c with
  | zero =>
    intro j F z X hj hF hz hX
    cases F with
    | zero => omega
    | succ F =>
      refine ⟨z, ?_, hz⟩
      simp only [f_X7_load_b38, fa_lit, nme]
      rw [if_pos ((le_nI (by omega) (by omega)).mpr (by omega)), z0, hz.1]
      rfl
  | succ c ih =>
    intro j F z X hj hF hz hX
    cases F with
    | zero => omega
    | succ F =>
      obtain ⟨z1, h1, h2⟩ := r_putRibbon hz (show dN X < 20 by omega) (R (3 * j)) (R (3 * j + 1)) (R (3 * j + 2))
      obtain ⟨z2, h3, h4⟩ := ih (j + 1) F z1 _ (by omega) (by omega) h2 (by show X.1 + 1 = j + 1; rw [← hX]; rfl)
      refine ⟨z2, ?_, h4⟩
      simp only [f_X7_load_b38, fa_lit, nme]
      rw [if_neg (nle_nI (by omega) (by omega) (by omega)), pk_mul, nI_step, nI_step, nI_step, if_pos (gd_nI (by omega) (by omega)), if_pos (gd_nI (by omega) (by omega)), if_pos (gd_nI (by omega) (by omega)), cl_nI (by omega), cl_nI (by omega), cl_nI (by omega), hR _ (by omega), hR _ (by omega), hR _ (by omega), h1]
      simp only [bs]
      exact h3
theorem DZ_em {z : Nat → Int32} {D : DR} (hz : DZ z D) : DZ (upd z 0 (nI 0)) (emD D) :=
  ⟨upd_q _ _ _, (upd_w (by omega)).trans hz.2.1, fun p hp => (upd_w (by omega)).trans (hz.2.2.1 p hp), fun r hr => absurd hr (Nat.not_lt_zero r)⟩
