/-! ===== texts: both sides find the same error, and draw the same ===== -/
def adG (R : Nat → Nat) : Nat → Nat → DR → DR
  | _, 0, X => X
  | m, c + 1, X => adG R (m + 1) c (adD X (R (3 * m)) (R (3 * m + 1)) (R (3 * m + 2)))
def RLt (R : Nat → Nat) (a b : Nat) : Prop := ∀ k, a ≤ k → k < b → R (3 * k) < 16 ∧ R (3 * k + 1) < 16 ∧ R (3 * k) / 4 ≠ R (3 * k + 1) / 4 ∧ R (3 * k + 2) ≤ 50
def rdN (R : Nat → Nat) (rs a b w : Nat) : Nat → Nat := fun k => if k = 3 * rs + 2 then w else if k = 3 * rs + 1 then b else if k = 3 * rs then a else R k
theorem RR_rdU {rd : Nat → Int32} {R : Nat → Nat} {rs a b w : Nat} (h : RR rd R (3 * rs)) : RR (rdU rd rs a b w) (rdN R rs a b w) (3 * (rs + 1)) := by
  intro k hk
  unfold rdU rdN upd
  by_cases h2 : k = 3 * rs + 2
  · rw [if_pos h2, if_pos h2]
  rw [if_neg h2, if_neg h2]
  by_cases h1 : k = 3 * rs + 1
  · rw [if_pos h1, if_pos h1]
  rw [if_neg h1, if_neg h1]
  by_cases h0 : k = 3 * rs
  · rw [if_pos h0, if_pos h0]
  rw [if_neg h0, if_neg h0]
  exact h k (by omega)
theorem neg_u (e : Nat) : -nI 1 - nI e = nI 0 - nI (e + 1) := by
  have h : nI 0 - nI (e + 1) = -nI (e + 1) := Int32.zero_sub _
  rw [h, ← Int32.neg_add, nI_add, Nat.add_comm]
theorem neg_n {e : Nat} (h : e < 900) : ¬ nI 0 ≤ -nI 1 - nI e := by
  rw [neg_u, sub_ge0 (by omega) (by omega)]
  omega
theorem neg_v (e : Nat) : -nI 1 - (-nI 1 - nI e) = nI e := by
  rw [Int32.sub_eq_add_neg, Int32.neg_sub, Int32.sub_neg, nI_add, Int32.add_comm, ← Int32.sub_eq_add_neg, pk_sub (by omega)]
  exact congrArg nI (by omega)
theorem oI_s (x : Nat) : oI (some x) = nI x := rfl
theorem oI_n : oI none = -nI 1 := rfl
/-- what both sides make of the text from p on -/
def TX (t u : Nat → Int32) (T : Nat → Nat) (n p F G : Nat) (rd : Nat → Int32) (R0 : Nat → Nat) (rs : Nat) : Prop :=
  ∃ (e : Option Nat) (rd' : Nat → Int32) (R : Nat → Nat) (rs' : Nat), f_X7_findError_b7 u (nI n) F (nI p) rd (nI rs) = some (oI e, rd', nI rs') ∧ RR rd' R (3 * rs') ∧ (∀ j, j < 3 * rs → R j = R0 j) ∧ rs ≤ rs' ∧ rs' ≤ 15 ∧
    f_X4_firstWrong_b4 t (nI n) G (nI 1) (nI p) = some (nI (e.getD n)) ∧
    (∀ x, e = some x → x < n ∨ (x = n ∧ (n = 0 ∨ dgt (T (n - 1)) = false))) ∧
    (e = none → 0 < n ∧ dgt (T (n - 1)) = true ∧ RLt R rs rs' ∧ ∀ H, n < H + p → ∀ (X : DR) (x3 : Int32) (fr to wd : Nat → Int32), dN X = rs → RR fr (dF X) rs → RR to (dG X) rs → RR wd (dW X) rs →
      ∃ fr' to' wd', f_X4_drawInto_b15 t (nI n) H (-nI 1) x3 (nI 0) (nI p) fr to wd (nI rs) = some (fr', to', wd', nI rs') ∧ RR fr' (dF (adG R rs (rs' - rs) X)) rs' ∧ RR to' (dG (adG R rs (rs' - rs) X)) rs' ∧ RR wd' (dW (adG R rs (rs' - rs) X)) rs')
theorem rb_out {A : Nat → Nat} {p e : Nat} (h : rb A p = .inl e) : e = p ∨ (e = p + 1 ∧ 97 ≤ A p ∧ A p ≤ 112) ∨ (e = p + 2 ∧ 97 ≤ A (p + 1) ∧ A (p + 1) ≤ 112) := by
  unfold rb at h
  by_cases c0 : ltr (A p) = false
  · rw [if_pos c0] at h
    injection h with h
    exact Or.inl h.symm
  rw [if_neg c0] at h
  have d0 := ltr_t (show ltr (A p) = true by simpa using c0)
  by_cases c1 : oth (A (p + 1)) (A p) = false
  · rw [if_pos c1] at h
    injection h with h
    exact Or.inr (Or.inl ⟨h.symm, d0⟩)
  rw [if_neg c1] at h
  have d1 : oth (A (p + 1)) (A p) = true := by simpa using c1
  unfold oth at d1
  rw [Bool.and_eq_true] at d1
  by_cases c2 : 49 ≤ A (p + 2) ∧ A (p + 2) ≤ 57
  · rw [if_neg (fun z => z c2)] at h
    by_cases c3 : dgt (A (p + 3)) = true ∧ 10 * (A (p + 2) - 48) + A (p + 3) - 48 ≤ 50
    · rw [if_pos c3] at h; cases h
    · rw [if_neg c3] at h; cases h
  · rw [if_pos c2] at h
    injection h with h
    exact Or.inr (Or.inr ⟨h.symm, ltr_t d1.1⟩)
set_option maxRecDepth 100000 in
theorem tx_both {t u : Nat → Int32} {T : Nat → Nat} {n : Nat} (ht : RR t T n) (hu : RR u T n) (hn : n ≤ 60) (hT : ∀ k, k < n → T k ≤ 126) :
    ∀ k p, p + k = n → (p = 0 ∨ T (p - 1) = 59) → ∀ F G, n < F + p → n < G + p → ∀ (rd : Nat → Int32) (R0 : Nat → Nat) (rs : Nat), RR rd R0 (3 * rs) → 4 * rs ≤ p → TX t u T n p F G rd R0 rs := by
  intro k
  induction k using Nat.strongRecOn with
  | _ k ih =>
  intro p hp hb F G hF hG rd R0 rs hR hrs
  cases F with
  | zero => omega
  | succ F =>
  have hfw := fw_rb ht hn hT (show p ≤ n by omega) hG
  have hrd := r_readRibbon hu hn hT (show p ≤ n by omega) rd (show rs < 20 by omega)
  have hfe : f_X7_findError_b7 u (nI n) (F + 1) (nI p) rd (nI rs) = (match rb (aT T n) p with
    | .inl e => some (nI e, rd, nI rs)
    | .inr (q, w) => if q = n then some (-nI 1, rdU rd rs (aT T n p - 97) (aT T n (p + 1) - 97) w, nI (rs + 1)) else if q < n then (if T q = 59 then f_X7_findError_b7 u (nI n) F (nI (q + 1)) (rdU rd rs (aT T n p - 97) (aT T n (p + 1) - 97) w) (nI (rs + 1)) else some (nI q, rdU rd rs (aT T n p - 97) (aT T n (p + 1) - 97) w, nI (rs + 1))) else f_X7_findError_b7 u (nI n) (F + 1) (nI p) rd (nI rs)) := by
    match hv : rb (aT T n) p with
    | .inl e =>
      have he := (hfw.1 e hv).1
      simp only [f_X7_findError_b7, fa_lit, nme]
      rw [hrd, hv]
      simp only [bs, rbV]
      rw [if_neg (neg_n (by omega)), neg_v]
    | .inr (q, w) =>
      have hq := (hfw.2 q w hv).1
      by_cases c : q = n
      · simp only [f_X7_findError_b7, fa_lit, nme]
        rw [hrd, hv, if_pos c]
        simp only [bs, rbV]
        rw [if_pos ((le_nI (by omega) (by omega)).mpr (Nat.zero_le _)), if_pos (by rw [c])]
      · dsimp only
        rw [if_neg c, if_pos (show q < n by omega)]
        simp only [f_X7_findError_b7, fa_lit, nme]
        rw [hrd, hv]
        simp only [bs, rbV]
        rw [if_pos ((le_nI (by omega) (by omega)).mpr (Nat.zero_le _)), if_neg (by rw [eq_nI (by omega) (by omega)]; exact c), if_pos (gd_nI (by omega) (by omega)), cl_nI (by omega), hu q (by omega), nI_step]
        by_cases c2 : T q = 59
        · rw [if_pos (by rw [c2]), if_pos c2]
        · have := hT q (by omega)
          rw [if_neg (by rw [eq_nI (by omega) (by omega)]; exact c2), if_neg c2]
  unfold TX
  rw [hfe]
  clear hfe
  match hv : rb (aT T n) p with
  | .inl e =>
    obtain ⟨he, hw⟩ := hfw.1 e hv
    refine ⟨some e, rd, R0, rs, rfl, hR, fun _ _ => rfl, Nat.le_refl _, by omega, hw, fun x hx => ?_, fun z => by cases z⟩
    injection hx with hx
    subst hx
    by_cases c : e < n
    · exact Or.inl c
    · refine Or.inr ⟨by omega, ?_⟩
      have hen : e = n := by omega
      subst hen
      rcases rb_out hv with h | ⟨h, h1, h2⟩ | ⟨h, h1, h2⟩
      · subst h
        rcases hb with h | h
        · exact Or.inl h
        · refine Or.inr (decide_eq_false ?_)
          rw [h]
          omega
      · subst h
        have h3 := aT_lt (T := T) (show p < p + 1 by omega)
        refine Or.inr (decide_eq_false ?_)
        rw [show p + 1 - 1 = p by omega]
        omega
      · subst h
        have h3 := aT_lt (T := T) (show p + 1 < p + 2 by omega)
        refine Or.inr (decide_eq_false ?_)
        rw [show p + 2 - 1 = p + 1 by omega]
        omega
  | .inr (q, w) =>
    obtain ⟨hq, hw1, hw2⟩ := hfw.2 q w hv
    obtain ⟨a1, a2, b1, b2, ab, c2, d⟩ := rb_in hv
    have hR' : RR (rdU rd rs (aT T n p - 97) (aT T n (p + 1) - 97) w) (rdN R0 rs (aT T n p - 97) (aT T n (p + 1) - 97) w) (3 * (rs + 1)) := RR_rdU hR
    have hq3 : p + 3 ≤ q := by rcases d with d | d <;> omega
    have hlast : dgt (T (q - 1)) = true := by
      rcases d with ⟨d, -⟩ | ⟨d, -, d2, -⟩
      · subst d
        rw [show p + 3 - 1 = p + 2 by omega, ← aT_lt (T := T) (show p + 2 < n by omega)]
        exact decide_eq_true (by omega)
      · subst d
        rw [show p + 4 - 1 = p + 3 by omega, ← aT_lt (T := T) (show p + 3 < n by omega)]
        exact d2
    have hw50 : w ≤ 50 := by rcases d with d | d <;> omega
    have n0 : rdN R0 rs (aT T n p - 97) (aT T n (p + 1) - 97) w (3 * rs) = aT T n p - 97 := by
      unfold rdN
      rw [if_neg (by omega), if_neg (by omega), if_pos rfl]
    have n1 : rdN R0 rs (aT T n p - 97) (aT T n (p + 1) - 97) w (3 * rs + 1) = aT T n (p + 1) - 97 := by
      unfold rdN
      rw [if_neg (by omega), if_pos rfl]
    have n2 : rdN R0 rs (aT T n p - 97) (aT T n (p + 1) - 97) w (3 * rs + 2) = w := by
      unfold rdN
      rw [if_pos rfl]
    have nO : ∀ j, j < 3 * rs → rdN R0 rs (aT T n p - 97) (aT T n (p + 1) - 97) w j = R0 j := by
      intro j hj
      unfold rdN
      rw [if_neg (by omega), if_neg (by omega), if_neg (by omega)]
    by_cases c : q = n
    · dsimp only
      rw [if_pos c]
      refine ⟨none, _, _, rs + 1, rfl, hR', nO, by omega, by omega, ?_, fun x hx => (by cases hx), fun _ => ⟨by omega, by rw [← c]; exact hlast, ?_, ?_⟩⟩
      · rw [hw1 (Or.inl c), c]
        rfl
      · intro j h1 h2
        have : j = rs := by omega
        subst this
        rw [n0, n1, n2]
        omega
      · intro H hH X x3 fr to wd hX hf hg hd
        obtain ⟨H', hH', hdr⟩ := dr_rb (x3 := x3) (dn := nI rs) (fr := fr) (to := to) (wd := wd) ht hn (show p ≤ n by omega) hv hH
        rw [hdr]
        cases H' with
        | zero => omega
        | succ H' =>
        simp only [f_X4_drawInto_b15, fa_lit, nme]
        rw [if_pos ((le_nI (by omega) (by omega)).mpr (by omega))]
        subst hX
        obtain ⟨fr', to', wd', h1, h2, h3, h4⟩ := p_addRibbon hf hg hd (show dN X < 20 by omega) (aT T n p - 97) (aT T n (p + 1) - 97) w
        rw [h1]
        simp only [bs]
        refine ⟨fr', to', wd', rfl, ?_⟩
        rw [show dN X + 1 - dN X = 0 + 1 by omega]
        unfold adG adG
        rw [n0, n1, n2]
        exact ⟨h2, h3, h4⟩
    · have hqn : q < n := by omega
      by_cases c3 : T q = 59
      · obtain ⟨G', hG', hgw⟩ := hw2 hqn c3
        have hi := ih (n - (q + 1)) (by omega) (q + 1) (by omega) (Or.inr (by rw [Nat.add_sub_cancel]; exact c3)) F G' (by omega) hG' _ _ (rs + 1) hR' (by omega)
        obtain ⟨e, rd', R, rs', e1, e2, e3, e4, e5, e6, e7, e8⟩ := hi
        dsimp only
        rw [if_neg c, if_pos hqn, if_pos c3]
        have m0 := (e3 (3 * rs) (by omega)).trans n0
        have m1 := (e3 (3 * rs + 1) (by omega)).trans n1
        have m2 := (e3 (3 * rs + 2) (by omega)).trans n2
        refine ⟨e, rd', R, rs', e1, e2, fun j hj => (e3 j (by omega)).trans (nO j hj), by omega, e5, by rw [hgw]; exact e6, e7, fun hnone => ?_⟩
        obtain ⟨g1, g2, g3, g4⟩ := e8 hnone
        refine ⟨g1, g2, ?_, ?_⟩
        · intro j h1 h2
          by_cases hj : j = rs
          · subst hj
            rw [m0, m1, m2]
            omega
          · exact g3 j (by omega) h2
        · intro H hH X x3 fr to wd hX hf hg hd
          obtain ⟨H', hH', hdr⟩ := dr_rb (x3 := x3) (dn := nI rs) (fr := fr) (to := to) (wd := wd) ht hn (show p ≤ n by omega) hv hH
          rw [hdr]
          cases H' with
          | zero => omega
          | succ H' =>
          simp only [f_X4_drawInto_b15, f_X4_drawInto_b99, fa_lit, nme]
          rw [if_neg (nle_nI (by omega) (by omega) hqn), p_codeAt ht hn (by omega), aT_lt hqn]
          simp only [bs]
          rw [if_pos (by rw [c3])]
          subst hX
          obtain ⟨fr', to', wd', h1, h2, h3, h4⟩ := p_addRibbon hf hg hd (show dN X < 20 by omega) (aT T n p - 97) (aT T n (p + 1) - 97) w
          rw [h1]
          simp only [bs]
          rw [nI_step]
          obtain ⟨fr2, to2, wd2, k1, k2, k3, k4⟩ := g4 H' (by omega) (adD X (aT T n p - 97) (aT T n (p + 1) - 97) w) (nI (aT T n (p + 1) - 97)) fr' to' wd' rfl h2 h3 h4
          refine ⟨fr2, to2, wd2, k1, ?_⟩
          rw [show rs' - dN X = (rs' - (dN X + 1)) + 1 by omega]
          unfold adG
          rw [m0, m1, m2]
          exact ⟨k2, k3, k4⟩
      · dsimp only
        rw [if_neg c, if_pos hqn, if_neg c3]
        refine ⟨some q, _, _, rs + 1, rfl, hR', nO, by omega, by omega, hw1 (Or.inr c3), fun x hx => ?_, fun z => by cases z⟩
        injection hx with hx
        subst hx
        exact Or.inl hqn
