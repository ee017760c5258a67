/-! ===== settling: both sides ===== -/
theorem wAll_t1 {D : DR} {p : Nat} {b : Bool} (h : 0 < sSum D p b) : wAll (t1 p b D) + 1 = wAll D := by
  obtain ⟨r, e, hr, hs, hp⟩ := wid_some h
  unfold t1
  rw [e]
  refine sN_one (r := r) ?_ hr (fun k hk hn => ?_)
  · show dW (setW D r (dW D r - 1)) r + 1 = dW D r
    rw [setW_w, if_pos rfl]; omega
  · show dW (setW D r (dW D r - 1)) k = dW D k
    rw [setW_w, if_neg hn]
theorem wAll_tI {D : DR} (hw : WF D) (p : Nat) (b : Bool) : ∀ i, i ≤ sSum D p b → wAll (tI D p b i) + i = wAll D := by
  intro i
  induction i with
  | zero => intro _; rfl
  | succ i ih =>
    intro hi
    have a := (tI_facts hw p b i (by omega)).2.2.2.2.2.2.1
    have h1 := wAll_t1 (D := tI D p b i) (p := p) (b := b) (by omega)
    have h2 := ih (by omega)
    have e : tI D p b (i + 1) = t1 p b (tI D p b i) := rfl
    rw [e]; omega
theorem wAll_trD {D : DR} (hw : WF D) (p : Nat) : wAll (trD D p) + trK D p = wAll D := wAll_tI hw p (trB D p) (trK D p) (trK_le D p)
/-- the posts p .. p+k-1, each trimmed once -/
def tuD : DR → Nat → Nat → DR
  | D, _, 0 => D
  | D, p, k + 1 => tuD (trD D p) (p + 1) k
def tuS : DR → Nat → Nat → Nat
  | _, _, 0 => 0
  | D, p, k + 1 => trK D p + tuS (trD D p) (p + 1) k
theorem tu_facts : ∀ (k p : Nat) (D : DR), WF D → WF (tuD D p k) ∧ dN (tuD D p k) = dN D ∧ dF (tuD D p k) = dF D ∧ dG (tuD D p k) = dG D ∧ dP (tuD D p k) = dP D ∧ wAll (tuD D p k) + tuS D p k = wAll D
  | 0, p, D, hw => ⟨hw, rfl, rfl, rfl, rfl, rfl⟩
  | k + 1, p, D, hw => by
    obtain ⟨a1, a2, a3, a4, a5⟩ := trD_wf hw p
    obtain ⟨b1, b2, b3, b4, b5, b6⟩ := tu_facts k (p + 1) (trD D p) a1
    have h := wAll_trD hw p
    refine ⟨b1, b2.trans a2, b3.trans a3, b4.trans a4, b5.trans a5, ?_⟩
    show wAll (tuD (trD D p) (p + 1) k) + (trK D p + tuS (trD D p) (p + 1) k) = wAll D
    omega
theorem p_turn {fr to : Nat → Int32} (K : Int32 → Int32 → (Nat → Int32) → Int32 → Option (Int32 × (Nat → Int32) × Int32)) (x2 x3 : Int32) : ∀ (k p : Nat) (D : DR) (s F : Nat) (wd : Nat → Int32), p + k = 12 → 4 ≤ p → k < F → WF D → RR fr (dF D) (dN D) → RR to (dG D) (dN D) → RR wd (dW D) (dN D) →
    ∃ wd', f_X1_trimAll_b15 fr to (nI (dN D)) K F (nI s) x2 x3 (nI p) wd (dT D) = (if nI (s + tuS D p k) = x3 then some (nI (s + tuS D p k), wd', dT (tuD D p k)) else K (nI (s + tuS D p k)) (x2 + nI 1) wd' (dT (tuD D p k))) ∧ RR wd' (dW (tuD D p k)) (dN D) := by
  intro k
  induction k with
  | zero =>
    intro p D s F wd hp h4 hF hw hf hg hd
    cases F with
    | zero => omega
    | succ F =>
      have e : p = 12 := by omega
      subst e
      refine ⟨wd, ?_, hd⟩
      simp only [f_X1_trimAll_b15, nme, fa_lit]
      rw [if_pos ((le_nI (by omega) (by omega)).mpr (Nat.le_refl _))]
      rfl
  | succ k ih =>
    intro p D s F wd hp h4 hF hw hf hg hd
    cases F with
    | zero => omega
    | succ F =>
      obtain ⟨w1, e1, e2⟩ := p_trimPost hf hg hd hw (p := p) (by omega)
      obtain ⟨a1, a2, a3, a4, a5⟩ := trD_wf hw p
      obtain ⟨wd', f1, f2⟩ := ih (p + 1) (trD D p) (s + trK D p) F w1 (by omega) (by omega) (by omega) a1 (by rw [a3, a2]; exact hf) (by rw [a4, a2]; exact hg) (by rw [a2]; exact e2)
      refine ⟨wd', ?_, by rw [a2] at f2; exact f2⟩
      rw [a2] at f1
      rw [Nat.add_assoc] at f1
      refine Eq.trans ?_ f1
      simp only [f_X1_trimAll_b15, nme, fa_lit]
      rw [if_neg (nle_nI (by omega) (by omega) (by omega)), e1]
      simp only [bs]
      rw [nI_step, nI_step]
theorem r_turn (K : Int32 → Int32 → (Nat → Int32) → Option (Int32 × (Nat → Int32))) (x1 : Int32) : ∀ (k p : Nat) (D : DR) (s F : Nat) (z : Nat → Int32), p + k = 12 → 4 ≤ p → k < F → WF D → DZ z D →
    ∃ z', f_X7_doSettle_b12 K F x1 (nI s) (nI p) z = K (x1 + nI (s + tuS D p k)) (nI (s + tuS D p k)) z' ∧ DZ z' (tuD D p k) := by
  intro k
  induction k with
  | zero =>
    intro p D s F z hp h4 hF hw hz
    cases F with
    | zero => omega
    | succ F =>
      have e : p = 12 := by omega
      subst e
      refine ⟨z, ?_, hz⟩
      simp only [f_X7_doSettle_b12, nme, fa_lit]
      rw [if_pos ((le_nI (by omega) (by omega)).mpr (Nat.le_refl _))]
      rfl
  | succ k ih =>
    intro p D s F z hp h4 hF hw hz
    cases F with
    | zero => omega
    | succ F =>
      obtain ⟨z1, e1, e2⟩ := r_doTrim hz hw (p := p) (by omega)
      obtain ⟨a1, -⟩ := trD_wf hw p
      obtain ⟨z', f1, f2⟩ := ih (p + 1) (trD D p) (s + trK D p) F z1 (by omega) (by omega) (by omega) a1 e2
      refine ⟨z', ?_, f2⟩
      rw [Nat.add_assoc] at f1
      refine Eq.trans ?_ f1
      simp only [f_X7_doSettle_b12, nme, fa_lit]
      rw [if_neg (nle_nI (by omega) (by omega) (by omega)), e1]
      simp only [bs]
      rw [nI_step, nI_step]
/-- all turns: the same sum and the same drawing on both sides -/
theorem settle_both : ∀ (m : Nat) (D : DR), WF D → wAll D ≤ m → m ≤ 1000 → ∃ (S : Nat) (E : DR), WF E ∧ dN E = dN D ∧ dF E = dF D ∧ dG E = dG D ∧ dP E = dP D ∧ S ≤ wAll D ∧
    (∀ (fr to wd : Nat → Int32) (F s t : Nat), m + 1 < F → t + m < 5000 → s + wAll D < 1000000 → RR fr (dF D) (dN D) → RR to (dG D) (dN D) → RR wd (dW D) (dN D) → ∃ wd', f_X1_trimAll_b4 fr to (nI (dN D)) F (nI s) (nI t) wd (dT D) = some (nI (s + S), wd', dT E) ∧ RR wd' (dW E) (dN D)) ∧
    (∀ (z : Nat → Int32) (F s l : Nat), m + 2 < F → 0 < l → l < 1000000 → DZ z D → ∃ z', f_X7_doSettle_b4 F (nI s) (nI l) z = some (nI (s + S), z') ∧ DZ z' E) := by
  intro m
  induction m with
  | zero =>
    intro D hw hm h9
    have tf := tu_facts 8 4 D hw
    have t0 : tuS D 4 8 = 0 := by omega
    refine ⟨0, tuD D 4 8, tf.1, tf.2.1, tf.2.2.1, tf.2.2.2.1, tf.2.2.2.2.1, by omega, ?_, ?_⟩
    · intro fr to wd F s t hF ht hs hf hg hd
      cases F with
      | zero => omega
      | succ F =>
        obtain ⟨wd', e1, e2⟩ := p_turn (fr := fr) (to := to) (f_X1_trimAll_b4 fr to (nI (dN D)) F) (nI t) (nI s) 8 4 D s FU wd (by omega) (by omega) (FU_big (by omega)) hw hf hg hd
        refine ⟨wd', ?_, e2⟩
        simp only [f_X1_trimAll_b4, fa_lit]
        rw [if_neg (nle_nI (by omega) (by omega) (by omega)), e1, t0, Nat.add_zero, if_pos rfl]
    · intro z F s l hF hl hl2 hz
      cases F with
      | zero => omega
      | succ F =>
        cases F with
        | zero => omega
        | succ F =>
          obtain ⟨z', e1, e2⟩ := r_turn (f_X7_doSettle_b4 (F + 1)) (nI s) 8 4 D 0 FU z (by omega) (by omega) (FU_big (by omega)) hw hz
          refine ⟨z', ?_, e2⟩
          rw [show f_X7_doSettle_b4 (F + 1 + 1) (nI s) (nI l) z = (if nI l ≤ 0 then some (nI s, z) else f_X7_doSettle_b12 (f_X7_doSettle_b4 (F + 1)) FU (nI s) (0 : Int32) (4 : Int32) z) from by simp only [f_X7_doSettle_b4]]
          simp only [fa_lit]
          rw [if_neg (nle_nI (by omega) (by omega) hl), e1, t0, nI_step]
          simp only [f_X7_doSettle_b4, fa_lit]
          rw [if_pos ((le_nI (by omega) (by omega)).mpr (Nat.le_refl _))]
  | succ m ih =>
    intro D hw hm h9
    have tf := tu_facts 8 4 D hw
    by_cases t0 : tuS D 4 8 = 0
    · refine ⟨0, tuD D 4 8, tf.1, tf.2.1, tf.2.2.1, tf.2.2.2.1, tf.2.2.2.2.1, by omega, ?_, ?_⟩
      · intro fr to wd F s t hF ht hs hf hg hd
        cases F with
        | zero => omega
        | succ F =>
          obtain ⟨wd', e1, e2⟩ := p_turn (fr := fr) (to := to) (f_X1_trimAll_b4 fr to (nI (dN D)) F) (nI t) (nI s) 8 4 D s FU wd (by omega) (by omega) (FU_big (by omega)) hw hf hg hd
          refine ⟨wd', ?_, e2⟩
          simp only [f_X1_trimAll_b4, fa_lit]
          rw [if_neg (nle_nI (by omega) (by omega) (by omega)), e1, t0, Nat.add_zero, if_pos rfl]
      · intro z F s l hF hl hl2 hz
        cases F with
        | zero => omega
        | succ F =>
          cases F with
          | zero => omega
          | succ F =>
            obtain ⟨z', e1, e2⟩ := r_turn (f_X7_doSettle_b4 (F + 1)) (nI s) 8 4 D 0 FU z (by omega) (by omega) (FU_big (by omega)) hw hz
            refine ⟨z', ?_, e2⟩
            rw [show f_X7_doSettle_b4 (F + 1 + 1) (nI s) (nI l) z = (if nI l ≤ 0 then some (nI s, z) else f_X7_doSettle_b12 (f_X7_doSettle_b4 (F + 1)) FU (nI s) (0 : Int32) (4 : Int32) z) from by simp only [f_X7_doSettle_b4]]
            simp only [fa_lit]
            rw [if_neg (nle_nI (by omega) (by omega) hl), e1, t0, nI_step]
            simp only [f_X7_doSettle_b4, fa_lit]
            rw [if_pos ((le_nI (by omega) (by omega)).mpr (Nat.le_refl _))]
    · obtain ⟨S, E, g1, g2, g3, g4, g5, g6, gp, gr⟩ := ih (tuD D 4 8) tf.1 (by omega) (by omega)
      refine ⟨tuS D 4 8 + S, E, g1, g2.trans tf.2.1, g3.trans tf.2.2.1, g4.trans tf.2.2.2.1, g5.trans tf.2.2.2.2.1, ?_, ?_, ?_⟩
      · have := tf.2.2.2.2.2
        omega
      · intro fr to wd F s t hF ht hs hf hg hd
        cases F with
        | zero => omega
        | succ F =>
          obtain ⟨wd', e1, e2⟩ := p_turn (fr := fr) (to := to) (f_X1_trimAll_b4 fr to (nI (dN D)) F) (nI t) (nI s) 8 4 D s FU wd (by omega) (by omega) (FU_big (by omega)) hw hf hg hd
          have := tf.2.2.2.2.2
          obtain ⟨wd2, e3, e4⟩ := gp fr to wd' F (s + tuS D 4 8) (t + 1) (by omega) (by omega) (by omega) (by rw [tf.2.2.1, tf.2.1]; exact hf) (by rw [tf.2.2.2.1, tf.2.1]; exact hg) (by rw [tf.2.1]; exact e2)
          rw [tf.2.1] at e3 e4
          refine ⟨wd2, ?_, e4⟩
          simp only [f_X1_trimAll_b4, fa_lit]
          rw [if_neg (nle_nI (by omega) (by omega) (by omega)), e1, if_neg (by rw [eq_nI (by omega) (by omega)]; omega), nI_step, e3, Nat.add_assoc]
      · intro z F s l hF hl hl2 hz
        cases F with
        | zero => omega
        | succ F =>
          have := tf.2.2.2.2.2
          obtain ⟨z', e1, e2⟩ := r_turn (f_X7_doSettle_b4 F) (nI s) 8 4 D 0 FU z (by omega) (by omega) (FU_big (by omega)) hw hz
          obtain ⟨z2, e3, e4⟩ := gr z' F (s + tuS D 4 8) (tuS D 4 8) (by omega) (by omega) (by omega) e2
          refine ⟨z2, ?_, e4⟩
          simp only [f_X7_doSettle_b4, fa_lit]
          rw [if_neg (nle_nI (by omega) (by omega) hl), e1, nI_step, Nat.zero_add, e3, Nat.add_assoc]
