/-! ===== the law's rows: a post that is trimmed ===== -/
/-- the first of the widest: those before it are narrower -/
theorem wid_first (D : DR) (p : Nat) (b : Bool) : ∀ (m r : Nat), itr (wS D p b) none m = some r → ∀ i, i < r → sP D p b i = true → dW D i < dW D r
  | 0, r, h => by cases h
  | m + 1, r, h => by
    have h' : wS D p b m (itr (wS D p b) none m) = some r := h
    have ih := wid_first D p b m
    by_cases c : sP D p b m = true
    · cases ho : itr (wS D p b) none m with
      | none =>
        rw [ho, wS_0 c] at h'
        have e : m = r := Option.some.inj h'
        subst e
        intro i hi hs
        have z := wid_none D p b m ho i hi
        rw [hs] at z; cases z
      | some j =>
        rw [ho, wS_1 c] at h'
        by_cases w : dW D j < dW D m
        · rw [if_pos w] at h'
          have e : m = r := Option.some.inj h'
          subst e
          intro i hi hs
          have := (wid_lt D p b m j ho).2.2 i hi hs
          omega
        · rw [if_neg w] at h'
          have e : j = r := Option.some.inj h'
          subst e
          exact ih j ho
    · rw [wS_n c] at h'
      exact ih r h'
/-- what the search from the end has found so far: of the ribbons i, i+1 .. the first of the widest -/
def gQb (D : DR) (p : Nat) (b : Bool) (i : Nat) (o : Option Nat) : Prop := match o with
  | none => ∀ k, i ≤ k → k < dN D → sP D p b k = false
  | some j => i ≤ j ∧ j < dN D ∧ sP D p b j = true ∧ (∀ k, i ≤ k → k < dN D → sP D p b k = true → dW D k ≤ dW D j) ∧ ∀ k, i ≤ k → k < j → sP D p b k = true → dW D k < dW D j
theorem gQb_wid {D : DR} {p : Nat} {b : Bool} {o : Option Nat} (h : gQb D p b 0 o) : o = wid D p b := by
  cases ho : wid D p b with
  | none =>
    cases o with
    | none => rfl
    | some j =>
      obtain ⟨h1, h2, h3, -, -⟩ := h
      have z := wid_none D p b (dN D) ho j h2
      rw [h3] at z; cases z
  | some r =>
    obtain ⟨r1, r2, r3⟩ := wid_lt D p b (dN D) r ho
    have r4 := wid_first D p b (dN D) r ho
    cases o with
    | none =>
      have z := h r (Nat.zero_le _) r1
      rw [r2] at z; cases z
    | some j =>
      obtain ⟨h1, h2, h3, h4, h5⟩ := h
      have a1 := h4 r (Nat.zero_le _) r1 r2
      have a2 := r3 j h2 h3
      rcases Nat.lt_trichotomy j r with q | q | q
      · have := r4 j q h3; omega
      · rw [q]
      · have := h5 r (Nat.zero_le _) q r2; omega
theorem gQb_next {D : DR} {p : Nat} {b : Bool} {i : Nat} {o : Option Nat} (h : gQb D p b (i + 1) o) (hi : i < dN D) (o' : Option Nat) (e : o' = if sP D p b i = true then (match o with
    | none => some i
    | some j => if dW D i < dW D j then some j else some i) else o) : gQb D p b i o' := by
  subst e
  by_cases c : sP D p b i = true
  · rw [if_pos c]
    cases o with
    | none =>
      refine ⟨Nat.le_refl _, hi, c, fun k h1 h2 h3 => ?_, fun k h1 h2 => absurd h2 (by omega)⟩
      by_cases q : k = i
      · rw [q]; exact Nat.le_refl _
      · have z := h k (by omega) h2
        rw [h3] at z; cases z
    | some j =>
      obtain ⟨h1, h2, h3, h4, h5⟩ := h
      by_cases w : dW D i < dW D j
      · show gQb D p b i (if dW D i < dW D j then some j else some i)
        rw [if_pos w]
        refine ⟨by omega, h2, h3, fun k k1 k2 k3 => ?_, fun k k1 k2 k3 => ?_⟩
        · by_cases q : k = i
          · rw [q]; omega
          · exact h4 k (by omega) k2 k3
        · by_cases q : k = i
          · rw [q]; omega
          · exact h5 k (by omega) k2 k3
      · show gQb D p b i (if dW D i < dW D j then some j else some i)
        rw [if_neg w]
        refine ⟨Nat.le_refl _, hi, c, fun k k1 k2 k3 => ?_, fun k k1 k2 => absurd k2 (by omega)⟩
        by_cases q : k = i
        · rw [q]; exact Nat.le_refl _
        · have := h4 k (by omega) k2 k3; omega
  · rw [if_neg c]
    have c' : sP D p b i = false := by simpa using c
    cases o with
    | none =>
      intro k h1 h2
      by_cases q : k = i
      · rw [q]; exact c'
      · exact h k (by omega) h2
    | some j =>
      obtain ⟨h1, h2, h3, h4, h5⟩ := h
      refine ⟨by omega, h2, h3, fun k k1 k2 k3 => ?_, fun k k1 k2 k3 => ?_⟩
      · by_cases q : k = i
        · rw [q, c'] at k3; cases k3
        · exact h4 k (by omega) k2 k3
      · by_cases q : k = i
        · rw [q, c'] at k3; cases k3
        · exact h5 k (by omega) k2 k3
theorem oI_lt {o : Option Nat} (h : ∀ j, o = some j → j < 2147483648) : (oI o < nI 0) ↔ o = none := by
  cases o with
  | none => exact ⟨fun _ => rfl, fun _ => m1_lt0⟩
  | some j =>
    have hj := h j rfl
    constructor
    · intro z
      exact absurd z (nlt_nI (by omega) (by omega) (by omega))
    · intro z; cases z
theorem l_search {zr : Nat → Int32} {D : DR} (hz : LZ zr D) (hw : WF D) {p : Nat} (hp : p < 16) (b : Bool) (K19 : Int32 → Int32 → (Nat → Int32) → Option (Int32 × (Nat → Int32))) (m : Int32) : ∀ (i F : Nat) (o : Option Nat), i < F → i ≤ dN D → gQb D p b i o → ∃ o', gQb D p b 0 o' ∧ f_L_trimmed_b44 (nI (dN D)) (nI p) K19 F m (bI b) (oI o) (nI i - nI 1) zr = f_L_trimmed_b44 (nI (dN D)) (nI p) K19 1 m (bI b) (oI o') (nI 0 - nI 1) zr := by
  have hn := hw.1
  intro i
  induction i with
  | zero =>
    intro F o hF hi hg
    refine ⟨o, hg, ?_⟩
    cases F with
    | zero => omega
    | succ F =>
      simp only [f_L_trimmed_b44, fa_lit]
      rw [if_pos ((sub_lt0 (by omega) (by omega)).mpr (by omega)), if_pos ((sub_lt0 (by omega) (by omega)).mpr (by omega))]
  | succ i ih =>
    intro F o hF hi hg
    cases F with
    | zero => omega
    | succ F =>
      have hi2 : i < dN D := by omega
      obtain ⟨h1, h2, -, h4⟩ := hw.2.2.2 i hi2
      obtain ⟨z1, z2, z3⟩ := hz i hi2
      obtain ⟨o', g1, g2⟩ := ih F _ (by omega) (by omega) (gQb_next hg hi2 _ rfl)
      refine ⟨o', g1, ?_⟩
      rw [← g2]
      clear g1 g2 ih
      have lt : ∀ j, o = some j → j < dN D := by
        intro j e; subst e; exact hg.2.1
      simp only [f_L_trimmed_b44, f_L_trimmed_b95, f_L_trimmed_b100, f_L_trimmed_b102, nme, fa_lit]
      rw [pk_sub (show 1 ≤ i + 1 by omega), Nat.add_sub_cancel, if_neg (nlt_nI (by omega) (by omega) (by omega)), l_goesOn hz hw hi2]
      simp only [bs, bI_0]
      rw [← Int32.sub_eq_add_neg]
      have hof : nI 3 * nI i + bI b = nI (3 * i + if b = true then 1 else 0) := by
        cases b
        · exact l_idx i 0
        · exact l_idx i 1
      have hzi : zr (3 * i + if b = true then 1 else 0) = nI (if b = true then dG D i else dF D i) := by
        cases b
        · exact z1
        · exact z2
      have eb : (if b = true then dG D i else dF D i) < 16 := by split <;> omega
      have e3 : (if b = true then 1 else 0) ≤ 1 := by split <;> omega
      rw [hof, l_idx i 2, cl_nI (show 3 * i + (if b = true then 1 else 0) < 2147483648 by omega), cl_nI (show 3 * i + 2 < 2147483648 by omega), hzi, z3, if_pos (gd_nI (show 3 * i + (if b = true then 1 else 0) < 60 by omega) (by omega)), if_pos (gd_nI (show 3 * i + 2 < 60 by omega) (by omega))]
      simp only [eq_nI (show (if b = true then dG D i else dF D i) < 2147483648 by omega) (show p < 2147483648 by omega)]
      by_cases g : on D i = false
      · rw [if_pos g, if_neg (by unfold sP; rw [g, Bool.false_and]; decide)]
      · have g' : on D i = true := by simpa using g
        rw [if_neg g]
        by_cases c : (if b = true then dG D i else dF D i) = p
        · have hs : sP D p b i = true := by unfold sP; rw [g', decide_eq_true c]; rfl
          rw [if_pos c, if_pos hs]
          cases o with
          | none => rw [if_pos (show oI none < nI 0 from m1_lt0)]; rfl
          | some j =>
            have hj := lt j rfl
            have w2 := (hw.2.2.2 j hj).2.2.2
            rw [if_neg (show ¬ oI (some j) < nI 0 from nlt_nI (by omega) (by omega) (by omega))]
            rw [show nI 3 * oI (some j) + nI 2 = nI (3 * j + 2) from l_idx j 2, if_pos (gd_nI (show 3 * j + 2 < 60 by omega) (by omega)), cl_nI (show 3 * j + 2 < 2147483648 by omega), (hz j hj).2.2]
            by_cases k : dW D i < dW D j
            · rw [if_pos ((lt_nI (by omega) (by omega)).mpr k)]
              show _ = f_L_trimmed_b44 (nI (dN D)) (nI p) K19 F m (bI b) (oI (if dW D i < dW D j then some j else some i)) (nI i - nI 1) zr
              rw [if_pos k]
            · rw [if_neg (nlt_nI (by omega) (by omega) (by omega))]
              show _ = f_L_trimmed_b44 (nI (dN D)) (nI p) K19 F m (bI b) (oI (if dW D i < dW D j then some j else some i)) (nI i - nI 1) zr
              rw [if_neg k]
              rfl
        · rw [if_neg c, if_neg (by unfold sP; rw [decide_eq_false c, Bool.and_false]; decide)]
theorem LZ_setW {zr : Nat → Int32} {D : DR} (hz : LZ zr D) {r w : Nat} : LZ (upd zr (3 * r + 2) (nI w)) (setW D r w) := by
  intro k hk
  obtain ⟨z1, z2, z3⟩ := hz k hk
  refine ⟨(upd_w (by omega)).trans z1, (upd_w (by omega)).trans z2, ?_⟩
  rw [setW_w]
  by_cases e : k = r
  · subst e
    rw [if_pos rfl, upd_q]
  · rw [if_neg e, upd_w (by omega), z3]
theorem l_trimmed {zr : Nat → Int32} {D : DR} (hz : LZ zr D) (hw : WF D) {p : Nat} (hp : p < 16) : ∃ zr', f_L_trimmed (nI (dN D)) (nI p) zr = some (nI (trK D p), zr') ∧ LZ zr' (trD D p) := by
  have hn := hw.1
  have hK := trK_le D p
  have c1 := comes_le hw p
  have c2 := leav_le hw p
  have hK2 : trK D p ≤ 1000 := by unfold trK; split <;> omega
  have loop : ∀ k i F (z : Nat → Int32), i + k = trK D p → k < F → LZ z (tI D p (trB D p) i) → ∃ z', f_L_trimmed_b19 (nI (dN D)) (nI p) F (nI i) (nI (comes (tI D p (trB D p) i) p) - nI (leav (tI D p (trB D p) i) p)) z = some (nI (trK D p), z') ∧ LZ z' (trD D p) := by
    intro k
    induction k with
    | zero =>
      intro i F z hi hF hr
      cases F with
      | zero => omega
      | succ F =>
        have e : i = trK D p := by omega
        subst e
        have ev : comes (tI D p (trB D p) (trK D p)) p = leav (tI D p (trB D p) (trK D p)) p := trD_even hw p
        have c3 := leav_le (tI_facts hw p (trB D p) (trK D p) hK).1 p
        refine ⟨z, ?_, hr⟩
        simp only [f_L_trimmed_b19, fa_lit]
        rw [if_pos ((sub_eq0 (by omega) (by omega)).mpr ev)]
    | succ k ih =>
      intro i F z hi hF hr
      cases F with
      | zero => omega
      | succ F =>
        obtain ⟨a1, a2, a3, a4, a5, a6, a7, a8⟩ := tI_facts hw p (trB D p) i (by omega)
        obtain ⟨r, e, hr1, hs, hpos⟩ := wid_some (D := tI D p (trB D p) i) (p := p) (b := trB D p) (by omega)
        have w1 := (a1.2.2.2 r hr1).2.2.2
        have hn2 := a1.1
        have c3 := comes_le a1 p
        have c4 := leav_le a1 p
        have hne : (trB D p = true ∧ leav (tI D p (trB D p) i) p < comes (tI D p (trB D p) i) p) ∨ (trB D p = false ∧ comes (tI D p (trB D p) i) p < leav (tI D p (trB D p) i) p) := by
          rw [← sSum_t (tI D p (trB D p) i) p, ← sSum_f (tI D p (trB D p) i) p]
          by_cases c : leav D p < comes D p
          · have eb : trB D p = true := decide_eq_true c
            left
            refine ⟨eb, ?_⟩
            rw [eb] at a7 a8 ⊢
            rw [sSum_t D p] at a7; rw [Bool.not_true, sSum_f D p] at a8
            have : trK D p = comes D p - leav D p := if_pos c
            omega
          · have eb : trB D p = false := decide_eq_false c
            right
            refine ⟨eb, ?_⟩
            rw [eb] at a7 a8 ⊢
            rw [sSum_f D p] at a7; rw [Bool.not_false, sSum_t D p] at a8
            have : trK D p = leav D p - comes D p := if_neg c
            omega
        have e3 : tI D p (trB D p) (i + 1) = setW (tI D p (trB D p) i) r (dW (tI D p (trB D p) i) r - 1) := by
          show t1 p (trB D p) (tI D p (trB D p) i) = _
          unfold t1
          rw [e]
        have hz2 : LZ (upd z (3 * r + 2) (nI (dW (tI D p (trB D p) i) r - 1))) (tI D p (trB D p) (i + 1)) := by rw [e3]; exact LZ_setW hr
        obtain ⟨b1, b2, -⟩ := tI_facts hw p (trB D p) (i + 1) (by omega)
        obtain ⟨z', f1, f2⟩ := ih (i + 1) F _ (by omega) (by omega) hz2
        refine ⟨z', ?_, f2⟩
        rw [← f1]
        have sd : ∀ bb : Bool, f_L_side (upd z (3 * r + 2) (nI (dW (tI D p (trB D p) i) r - 1))) (nI (dN D)) (nI p) (bI bb) = some (nI (sSum (tI D p (trB D p) (i + 1)) p bb)) := by
          intro bb
          have h := l_side hz2 b1 hp bb
          rw [b2] at h
          exact h
        have s1 := sd true
        have s0 := sd false
        rw [sSum_t, bI_t] at s1
        rw [sSum_f, bI_f] at s0
        have body : f_L_trimmed_b34 (nI (dN D)) (nI p) (f_L_trimmed_b19 (nI (dN D)) (nI p) F) (bI (trB D p)) (nI i) z = f_L_trimmed_b19 (nI (dN D)) (nI p) F (nI (i + 1)) (nI (comes (tI D p (trB D p) (i + 1)) p) - nI (leav (tI D p (trB D p) (i + 1)) p)) (upd z (3 * r + 2) (nI (dW (tI D p (trB D p) i) r - 1))) := by
          have g0 : gQb (tI D p (trB D p) i) p (trB D p) (dN (tI D p (trB D p) i)) none := fun k h1 h2 => absurd h1 (by omega)
          obtain ⟨o', g1, g2⟩ := l_search hr a1 hp (trB D p) (f_L_trimmed_b19 (nI (dN D)) (nI p) F) (nI i) (dN (tI D p (trB D p) i)) FU none (FU_big (by omega)) (Nat.le_refl _) g0
          have ho := gQb_wid g1
          rw [e] at ho
          subst ho
          rw [a2] at g2
          unfold f_L_trimmed_b34
          simp only [nme, fa_lit]
          rw [show (-nI 1 : Int32) = oI none from rfl, g2]
          simp only [f_L_trimmed_b44, nme, fa_lit]
          rw [if_pos ((sub_lt0 (by omega) (by omega)).mpr (by omega)), show nI 3 * oI (some r) + nI 2 = nI (3 * r + 2) from l_idx r 2, if_pos (gd_nI (show 3 * r + 2 < 60 by omega) (by omega)), if_pos (gd_nI (show 3 * r + 2 < 60 by omega) (by omega)), cl_nI (show 3 * r + 2 < 2147483648 by omega), (hr r hr1).2.2, pk_sub (show 1 ≤ dW (tI D p (trB D p) i) r by omega), s1, s0]
          simp only [bs]
          rw [nI_step]
        simp only [f_L_trimmed_b19, fa_lit]
        rw [if_neg (by rw [sub_eq0 (by omega) (by omega)]; omega)]
        rcases hne with ⟨eb, hlt⟩ | ⟨eb, hlt⟩
        · rw [if_neg (by rw [sub_leG (by omega) (by omega)]; omega)]
          rw [← body, eb]
          rfl
        · rw [if_pos (by rw [sub_leG (by omega) (by omega)]; omega)]
          rw [← body, eb]
          rfl
  obtain ⟨z', e1, e2⟩ := loop (trK D p) 0 FU zr (by omega) (FU_big (by omega)) hz
  refine ⟨z', ?_, e2⟩
  rw [← e1]
  have s1 := l_side hz hw hp true
  have s0 := l_side hz hw hp false
  rw [sSum_t, bI_t] at s1
  rw [sSum_f, bI_f] at s0
  unfold f_L_trimmed
  simp only [fa_lit]
  rw [s1, s0]
  simp only [bs, nme]
  rfl
