/-! ===== what the law asks of what goes through ===== -/
theorem lvS_law {D : DR} : lvS D = sN (fun r => if on D r = true ∧ dF D r < 4 then dW D r else 0) (dN D) := by
  unfold lvS leav
  rw [sN_swap]
  refine sN_cong (fun r hr => ?_)
  by_cases ho : on D r = true
  · by_cases c : dF D r < 4
    · rw [sN_at (t := dF D r) c (fun p _ hp => if_neg (fun z => hp z.1.symm)), if_pos ⟨rfl, ho⟩, if_pos ⟨ho, c⟩]
    · rw [if_neg (fun z => c z.2)]
      exact sN_0 _ 4 (fun p hp => if_neg (fun z => by omega))
  · rw [if_neg (fun z => ho z.1)]
    exact sN_0 _ 4 (fun p hp => if_neg (fun z => ho z.2))
def lI (D : DR) (o : Option Nat) : Int32 := match o with
  | none => nI 0
  | some j => nI (thr D j)
theorem cmp_shv {D : DR} (hw : WF D) : Op.cmpValue (FP.dcmp (shv D) (shv D)) CmpOp.l = nI 0 := by
  rcases shv_form hw with h | ⟨E, T, h1, h2, h3, h⟩
  · rw [h]; decide +kernel
  · rw [h, cmp_self (by omega) (by omega) h3]; rfl
theorem oI_zero {o : Option Nat} (h : ∀ j, o = some j → j < 2147483648) : (oI o < nI 0) ↔ o = none := oI_lt h
theorem l_isThrough {zr : Nat → Int32} {D : DR} (hz : LZ zr D) (hw : WF D) : f_L_isThrough zr D (nI (dN D)) = some (nI 1) := by
  have hn := hw.1
  have hT := thr_le hw 100
  have hL := lvS_le hw
  unfold f_L_isThrough
  simp only [fa_lit]
  rw [l_throughAll hz hw]
  simp only [bs]
  have h := loopI (fun F i (s : Option Nat × Nat) => f_L_isThrough_b19 zr D (nI (dN D)) F (nI (thr D 100)) (oI s.1) (lI D s.1) (nI s.2) i) (fun _ => some (nI 1)) (fun i s => s.1 = itr (mnS D) none i ∧ s.2 = sN (fun r => if on D r = true ∧ dF D r < 4 then dW D r else 0) i ∧ ∀ j, s.1 = some j → j < i) (dN D) ?_ ?_ (dN D) 0 FUI (none, 0) (by omega) (show dN D < 22 by omega) ⟨rfl, rfl, fun j h => by cases h⟩
  · obtain ⟨s, h1, -⟩ := h
    exact h1
  · rintro F i ⟨o, t⟩ hi ⟨ho, ht, hoj⟩
    dsimp only at ho ht hoj
    subst ht
    have hj9 : ∀ j, mnS D i o = some j → j < i + 1 := by
      intro j hj
      unfold mnS at hj
      by_cases q : on D i = true
      · rw [if_pos q] at hj
        rcases o with _ | k
        · have := Option.some.inj hj
          omega
        · have h9 := hoj k rfl
          dsimp only at hj
          by_cases c : thr D i < thr D k
          · rw [if_pos c] at hj
            have := Option.some.inj hj
            omega
          · rw [if_neg c] at hj
            have := Option.some.inj hj
            omega
      · rw [if_neg q] at hj
        have := hoj j hj
        omega
    refine ⟨(mnS D i o, _), ?_, by rw [ho]; rfl, rfl, hj9⟩
    obtain ⟨h1, h2, -, h4⟩ := hw.2.2.2 i hi
    obtain ⟨z1, z2, z3⟩ := hz i hi
    have hb := thr_le hw i
    have e0 : nI 3 * nI i = nI (3 * i) := pk_mul _ _
    have hl4 : (nI 4 ≤ nI (dF D i)) ↔ 4 ≤ dF D i := le_nI (by omega) (by omega)
    show _ = f_L_isThrough_b19 zr D (nI (dN D)) F (nI (thr D 100)) (oI (mnS D i o)) (lI D (mnS D i o)) (nI (sN (fun r => if on D r = true ∧ dF D r < 4 then dW D r else 0) i + if on D i = true ∧ dF D i < 4 then dW D i else 0)) (nI (i + 1))
    generalize sN (fun r => if on D r = true ∧ dF D r < 4 then dW D r else 0) i = t
    simp only [f_L_isThrough_b19, f_L_isThrough_b70, f_L_isThrough_b88, f_L_isThrough_b96, nme, fa_lit]
    rw [if_neg (nle_nI (by omega) (by omega) hi), l_goesOn hz hw hi, l_throughOne hz hw hi]
    simp only [bs, bI_0, e0, nI_step, gd_nI (show 3 * i < 60 by omega) (by omega), gd_nI (show 3 * i + 2 < 60 by omega) (by omega), cl_nI (show 3 * i < 2147483648 by omega), cl_nI (show 3 * i + 2 < 2147483648 by omega), z1, z3, if_true, hl4]
    cases q : on D i
    · rw [if_pos rfl, if_neg (fun z => by cases z.1)]
      unfold mnS
      rw [q, if_neg (by decide)]
      rfl
    · rw [if_neg (by decide)]
      have em : ∀ v : Int32, (if oI o < nI 0 then f_L_isThrough_b19 zr D (nI (dN D)) F (nI (thr D 100)) (nI i) (nI (thr D i)) v (nI (i + 1)) else (if nI (thr D i) < lI D o then f_L_isThrough_b19 zr D (nI (dN D)) F (nI (thr D 100)) (nI i) (nI (thr D i)) v (nI (i + 1)) else f_L_isThrough_b19 zr D (nI (dN D)) F (nI (thr D 100)) (oI o) (lI D o) v (nI (i + 1)))) = f_L_isThrough_b19 zr D (nI (dN D)) F (nI (thr D 100)) (oI (mnS D i o)) (lI D (mnS D i o)) v (nI (i + 1)) := by
        intro v
        unfold mnS
        rw [q, if_pos rfl]
        rcases o with _ | j
        · rw [if_pos ((oI_zero (fun j hj => by cases hj)).mpr rfl)]
          rfl
        · have hj := thr_le hw j
          have hji := hoj j rfl
          rw [if_neg (fun z => by cases (oI_zero (o := some j) (fun k hk => by cases hk; omega)).mp z)]
          show (if nI (thr D i) < nI (thr D j) then _ else _) = _
          dsimp only
          by_cases c : thr D i < thr D j
          · rw [if_pos ((lt_nI (by omega) (by omega)).mpr c), if_pos c]
            rfl
          · rw [if_neg (nlt_nI (by omega) (by omega) (by omega)), if_neg c]
      by_cases c : 4 ≤ dF D i
      · rw [if_pos c, if_neg (show ¬ (true = true ∧ dF D i < 4) from fun z => absurd z.2 (by omega)), Nat.add_zero]
        exact em _
      · rw [if_neg c, if_pos (show true = true ∧ dF D i < 4 from ⟨rfl, by omega⟩)]
        exact em _
  · rintro F ⟨o, t⟩ ⟨ho, ht, -⟩
    dsimp only at ho ht
    rw [← lvS_law] at ht
    subst ht
    subst ho
    simp only [f_L_isThrough_b19, f_L_isThrough_b150, fa_lit]
    rw [if_pos ((le_nI (by omega) (by omega)).mpr (Nat.le_refl _)), kq_count (show 6 < 9 by omega), kq_count (show 7 < 9 by omega), show f_K_mainRibbon D = some (oI (mnO D)) from rfl, show f_K_throughShare D = some (shv D) from rfl]
    simp only [bs]
    rw [show cV D 0 6 = nI (thr D 100) from rfl, show cV D 0 7 = nI (thr D 100) from rfl, if_pos rfl, if_pos rfl, if_pos (show oI (mnO D) = oI (itr (mnS D) none (dN D)) from rfl)]
    have hc := cmp_shv hw
    by_cases c : lvS D = 0
    · rw [if_pos (by rw [c]), if_pos]
      have e : shv D = FP.dconst1 := if_pos c
      rw [e] at hc ⊢
      exact hc
    · have e : shv D = FP.ddiv (FP.i2d (nI (thr D 100))) (FP.i2d (nI (lvS D))) := if_neg c
      have hnn := shv_nn hw
      rw [e] at hc hnn ⊢
      rw [if_neg (by rw [eq_nI (by omega) (by omega)]; exact c), if_pos hnn, if_pos hc]
