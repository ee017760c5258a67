/-! ===== the law's rows: all is trimmed; what settling leaves ===== -/
theorem trD_0 {D : DR} {p : Nat} (h : trK D p = 0) : trD D p = setT D (dT D + nI 0) := by
  unfold trD
  rw [h]
  rfl
theorem tu_zero : ∀ (k p : Nat) (D : DR), tuS D p k = 0 → (∀ q, comes (tuD D p k) q = comes D q ∧ leav (tuD D p k) q = leav D q) ∧ ∀ q, p ≤ q → q < p + k → comes D q = leav D q
  | 0, p, D, _ => ⟨fun q => ⟨rfl, rfl⟩, fun q h1 h2 => absurd h2 (by omega)⟩
  | k + 1, p, D, h => by
    have h' : trK D p + tuS (trD D p) (p + 1) k = 0 := h
    have h0 : trK D p = 0 := by omega
    obtain ⟨a1, a2⟩ := tu_zero k (p + 1) (trD D p) (by omega)
    have e : ∀ q, comes (trD D p) q = comes D q ∧ leav (trD D p) q = leav D q := fun q => by rw [trD_0 h0]; exact ⟨rfl, rfl⟩
    refine ⟨fun q => ?_, fun q h1 h2 => ?_⟩
    · have b := a1 q
      exact ⟨b.1.trans (e q).1, b.2.trans (e q).2⟩
    · by_cases c : q = p
      · subst c
        unfold trK at h0
        by_cases d : leav D q < comes D q
        · rw [if_pos d] at h0; omega
        · rw [if_neg d] at h0; omega
      · have b := a2 q (by omega) (by omega)
        rw [(e q).1, (e q).2] at b
        exact b
theorem tu_even : ∀ (k p : Nat) (D : DR), (∀ q, p ≤ q → q < p + k → comes D q = leav D q) → tuS D p k = 0
  | 0, p, D, _ => rfl
  | k + 1, p, D, h => by
    have h0 : trK D p = 0 := by
      unfold trK
      have := h p (Nat.le_refl _) (by omega)
      rw [if_neg (by omega)]; omega
    have e := tu_even k (p + 1) (trD D p) (fun q h1 h2 => by rw [trD_0 h0]; exact h q (by omega) (by omega))
    show trK D p + tuS (trD D p) (p + 1) k = 0
    omega
theorem tu_dT : ∀ (k p : Nat) (D : DR), dT (tuD D p k) = dT D + nI (tuS D p k)
  | 0, p, D => by
    show dT D = dT D + nI 0
    rw [show (nI 0 : Int32) = 0 from rfl, Int32.add_zero]
  | k + 1, p, D => by
    show dT (tuD (trD D p) (p + 1) k) = dT D + nI (trK D p + tuS (trD D p) (p + 1) k)
    rw [tu_dT k (p + 1) (trD D p), ← nI_add, ← Int32.add_assoc]
    rfl
theorem l_turn {x1 : Nat} (K : Int32 → Int32 → (Nat → Int32) → Option (Int32 × (Nat → Int32))) (x3 : Int32) : ∀ (k p : Nat) (D : DR) (s F : Nat) (z : Nat → Int32), dN D = x1 → p + k = 12 → 4 ≤ p → k < F → WF D → LZ z D →
    ∃ z', f_L_settled_b14 (nI x1) K F (nI s) x3 (nI p) z = K (nI (s + tuS D p k)) x3 z' ∧ LZ z' (tuD D p k) := by
  intro k
  induction k with
  | zero =>
    intro p D s F z hx hp h4 hF hw hz
    cases F with
    | zero => omega
    | succ F =>
      have e : p = 12 := by omega
      subst e
      refine ⟨z, ?_, hz⟩
      simp only [f_L_settled_b14, nme, fa_lit]
      rw [if_pos ((le_nI (by omega) (by omega)).mpr (Nat.le_refl _))]
      rfl
  | succ k ih =>
    intro p D s F z hx hp h4 hF hw hz
    cases F with
    | zero => omega
    | succ F =>
      obtain ⟨z1, e1, e2⟩ := l_trimmed hz hw (p := p) (by omega)
      obtain ⟨a1, a2, -⟩ := trD_wf hw p
      obtain ⟨z', f1, f2⟩ := ih (p + 1) (trD D p) (s + trK D p) F z1 (a2.trans hx) (by omega) (by omega) (by omega) a1 e2
      refine ⟨z', ?_, f2⟩
      rw [Nat.add_assoc] at f1
      refine Eq.trans ?_ f1
      rw [hx] at e1
      simp only [f_L_settled_b14, nme, fa_lit]
      rw [if_neg (nle_nI (by omega) (by omega) (by omega)), e1]
      simp only [bs]
      rw [nI_step, nI_step]
/-- all turns: the same sum and the same drawing in the class and in the law; then all inner posts are even -/
theorem settle_cl : ∀ (m : Nat) (D : DR), WF D → wAll D ≤ m → m ≤ 1000 → ∃ (S : Nat) (E : DR), WF E ∧ dN E = dN D ∧ dF E = dF D ∧ dG E = dG D ∧ dP E = dP D ∧ S ≤ wAll D ∧ dT E = dT D + nI S ∧ (∀ q, 4 ≤ q → q < 12 → comes E q = leav E q) ∧ ((∀ q, 4 ≤ q → q < 12 → comes D q = leav D q) → S = 0) ∧
    (∀ (fr to wd : Nat → Int32) (F s t : Nat), m + 1 < F → t + m < 5000 → s + wAll D < 1000000 → RR fr (dF D) (dN D) → RR to (dG D) (dN D) → RR wd (dW D) (dN D) → ∃ wd', f_X1_trimAll_b4 fr to (nI (dN D)) F (nI s) (nI t) wd (dT D) = some (nI (s + S), wd', dT E) ∧ RR wd' (dW E) (dN D)) ∧
    (∀ (z : Nat → Int32) (F s : Nat) (x3 : Int32), m + 2 < F → nI s ≠ x3 → s + wAll D < 1000000 → LZ z D → ∃ z', f_L_settled_b4 (nI (dN D)) F (nI s) x3 z = some (nI (s + S), z') ∧ LZ z' E) := by
  have last : ∀ (m : Nat) (D : DR), WF D → wAll D ≤ m → m ≤ 1000 → tuS D 4 8 = 0 → ∃ (S : Nat) (E : DR), WF E ∧ dN E = dN D ∧ dF E = dF D ∧ dG E = dG D ∧ dP E = dP D ∧ S ≤ wAll D ∧ dT E = dT D + nI S ∧ (∀ q, 4 ≤ q → q < 12 → comes E q = leav E q) ∧ ((∀ q, 4 ≤ q → q < 12 → comes D q = leav D q) → S = 0) ∧
    (∀ (fr to wd : Nat → Int32) (F s t : Nat), m + 1 < F → t + m < 5000 → s + wAll D < 1000000 → RR fr (dF D) (dN D) → RR to (dG D) (dN D) → RR wd (dW D) (dN D) → ∃ wd', f_X1_trimAll_b4 fr to (nI (dN D)) F (nI s) (nI t) wd (dT D) = some (nI (s + S), wd', dT E) ∧ RR wd' (dW E) (dN D)) ∧
    (∀ (z : Nat → Int32) (F s : Nat) (x3 : Int32), m + 2 < F → nI s ≠ x3 → s + wAll D < 1000000 → LZ z D → ∃ z', f_L_settled_b4 (nI (dN D)) F (nI s) x3 z = some (nI (s + S), z') ∧ LZ z' E) := by
    intro m D hw hm h9 t0
    have tf := tu_facts 8 4 D hw
    obtain ⟨tz1, tz2⟩ := tu_zero 8 4 D t0
    refine ⟨0, tuD D 4 8, tf.1, tf.2.1, tf.2.2.1, tf.2.2.2.1, tf.2.2.2.2.1, by omega, by rw [tu_dT, t0], fun q h1 h2 => by rw [(tz1 q).1, (tz1 q).2]; exact tz2 q h1 (by omega), fun _ => rfl, ?_, ?_⟩
    · intro fr to wd F s t hF ht hs hf hg hd
      cases F with
      | zero => omega
      | succ F =>
        obtain ⟨wd', e1, e2⟩ := p_turn (fr := fr) (to := to) (f_X1_trimAll_b4 fr to (nI (dN D)) F) (nI t) (nI s) 8 4 D s FU wd (by omega) (by omega) (FU_big (by omega)) hw hf hg hd
        refine ⟨wd', ?_, e2⟩
        simp only [f_X1_trimAll_b4, fa_lit]
        rw [if_neg (nle_nI (by omega) (by omega) (by omega)), e1, t0, Nat.add_zero, if_pos rfl]
    · intro z F s x3 hF hx hs hz
      cases F with
      | zero => omega
      | succ F =>
        cases F with
        | zero => omega
        | succ F =>
          obtain ⟨z', e1, e2⟩ := l_turn (f_L_settled_b4 (nI (dN D)) (F + 1)) (nI s) 8 4 D s FU z rfl (by omega) (by omega) (FU_big (by omega)) hw hz
          refine ⟨z', ?_, e2⟩
          rw [show f_L_settled_b4 (nI (dN D)) (F + 1 + 1) (nI s) x3 z = (if nI s = x3 then some (nI s, z) else f_L_settled_b14 (nI (dN D)) (f_L_settled_b4 (nI (dN D)) (F + 1)) FU (nI s) (nI s) (4 : Int32) z) from by simp only [f_L_settled_b4]]
          rw [if_neg hx, fa_lit, e1, t0, Nat.add_zero]
          simp only [f_L_settled_b4]
          rw [Nat.add_zero, if_pos rfl]
  intro m
  induction m with
  | zero =>
    intro D hw hm h9
    have tf := tu_facts 8 4 D hw
    exact last 0 D hw hm h9 (by omega)
  | succ m ih =>
    intro D hw hm h9
    have tf := tu_facts 8 4 D hw
    by_cases t0 : tuS D 4 8 = 0
    · exact last (m + 1) D hw hm h9 t0
    · obtain ⟨S, E, g1, g2, g3, g4, g5, g6, gT, gE, gZ, gp, gr⟩ := ih (tuD D 4 8) tf.1 (by omega) (by omega)
      refine ⟨tuS D 4 8 + S, E, g1, g2.trans tf.2.1, g3.trans tf.2.2.1, g4.trans tf.2.2.2.1, g5.trans tf.2.2.2.2.1, ?_, ?_, gE, fun h => absurd (tu_even 8 4 D (fun q h1 h2 => h q h1 (by omega))) t0, ?_, ?_⟩
      · have := tf.2.2.2.2.2
        omega
      · rw [gT, tu_dT, ← nI_add, Int32.add_assoc]
      · intro fr to wd F s t hF ht hs hf hg hd
        cases F with
        | zero => omega
        | succ F =>
          obtain ⟨wd', e1, e2⟩ := p_turn (fr := fr) (to := to) (f_X1_trimAll_b4 fr to (nI (dN D)) F) (nI t) (nI s) 8 4 D s FU wd (by omega) (by omega) (FU_big (by omega)) hw hf hg hd
          have := tf.2.2.2.2.2
          obtain ⟨wd2, e3, e4⟩ := gp fr to wd' F (s + tuS D 4 8) (t + 1) (by omega) (by omega) (by omega) (by rw [tf.2.2.1, tf.2.1]; exact hf) (by rw [tf.2.2.2.1, tf.2.1]; exact hg) (by rw [tf.2.1]; exact e2)
          rw [tf.2.1] at e3 e4
          refine ⟨wd2, ?_, e4⟩
          simp only [f_X1_trimAll_b4, fa_lit]
          rw [if_neg (nle_nI (by omega) (by omega) (by omega)), e1, if_neg (by rw [eq_nI (by omega) (by omega)]; omega), nI_step, e3, Nat.add_assoc]
      · intro z F s x3 hF hx hs hz
        cases F with
        | zero => omega
        | succ F =>
          have := tf.2.2.2.2.2
          obtain ⟨z', e1, e2⟩ := l_turn (f_L_settled_b4 (nI (dN D)) F) (nI s) 8 4 D s FU z rfl (by omega) (by omega) (FU_big (by omega)) hw hz
          obtain ⟨z2, e3, e4⟩ := gr z' F (s + tuS D 4 8) (nI s) (by omega) (by rw [Ne, eq_nI (by omega) (by omega)]; omega) (by omega) e2
          rw [tf.2.1] at e3
          refine ⟨z2, ?_, e4⟩
          simp only [f_L_settled_b4, fa_lit]
          rw [if_neg hx, e1, e3, Nat.add_assoc]
theorem settle_law {D : DR} (hw : WF D) : ∃ (S : Nat) (E : DR), WF E ∧ dN E = dN D ∧ dF E = dF D ∧ dG E = dG D ∧ dP E = dP D ∧ dT E = dT D + nI S ∧ (∀ q, 4 ≤ q → q < 12 → comes E q = leav E q) ∧ ((∀ q, 4 ≤ q → q < 12 → comes D q = leav D q) → S = 0) ∧
    (∀ (fr to wd : Nat → Int32), RR fr (dF D) (dN D) → RR to (dG D) (dN D) → RR wd (dW D) (dN D) → ∃ wd', f_X1_trimAll fr to (nI (dN D)) wd (dT D) = some (nI S, wd', dT E) ∧ RR wd' (dW E) (dN D)) ∧
    (∀ (z : Nat → Int32), LZ z D → ∃ z', f_L_settled (nI (dN D)) z = some (nI S, z') ∧ LZ z' E) := by
  have h := wAll_le hw
  obtain ⟨S, E, g1, g2, g3, g4, g5, g6, gT, gE, gZ, gp, gr⟩ := settle_cl 1000 D hw h (Nat.le_refl _)
  refine ⟨S, E, g1, g2, g3, g4, g5, gT, gE, gZ, ?_, ?_⟩
  · intro fr to wd hf hg hd
    obtain ⟨wd', e1, e2⟩ := gp fr to wd FU 0 0 (FU_big (by omega)) (by omega) (by omega) hf hg hd
    refine ⟨wd', ?_, e2⟩
    rw [Nat.zero_add] at e1
    exact e1
  · intro z hz
    obtain ⟨z', e1, e2⟩ := gr z FU 0 (-nI 1) (FU_big (by omega)) (fun e => (m1_ne' (by omega)).mp e.symm) (by omega) hz
    refine ⟨z', ?_, e2⟩
    rw [Nat.zero_add] at e1
    unfold f_L_settled
    simp only [fa_lit]
    exact e1
