/-! ===== what stands ahead: the ribbons between two columns, by rank ===== -/
def inS (f : Nat → Nat) (p x : Nat) : Nat → Nat := fun k => if k < p then f k else if k = p then x else f (k - 1)
theorem sN_ins {F H : Nat → Nat} {p v : Nat} (hH : ∀ k, H k = if k < p then F k else if k = p then v else F (k - 1)) : ∀ n, p ≤ n → sN H (n + 1) = sN F n + v := by
  intro n
  induction n with
  | zero =>
    intro hp
    have e : p = 0 := by omega
    subst e
    show sN H 0 + H 0 = sN F 0 + v
    rw [hH 0, if_neg (by omega), if_pos rfl]
    rfl
  | succ n ih =>
    intro hp
    show sN H (n + 1) + H (n + 1) = sN F (n + 1) + v
    by_cases c : p = n + 1
    · have e : sN H (n + 1) = sN F (n + 1) := sN_cong (fun k hk => by rw [hH k, if_pos (by omega)])
      rw [e, hH (n + 1), if_neg (by omega), if_pos c.symm]
    · rw [ih (by omega), hH (n + 1), if_neg (by omega), if_neg (by omega)]
      show sN F n + v + F n = sN F n + F n + v
      omega
theorem sN_inS (G : Nat → Nat → Nat) (K V : Nat → Nat) {p x w m : Nat} (hp : p ≤ m) : sN (fun k => G (inS K p x k) (inS V p w k)) (m + 1) = sN (fun k => G (K k) (V k)) m + G x w := by
  refine sN_ins (fun k => ?_) m hp
  show G (inS K p x k) (inS V p w k) = _
  unfold inS
  by_cases h1 : k < p
  · rw [if_pos h1, if_pos h1, if_pos h1]
  · rw [if_neg h1, if_neg h1, if_neg h1]
    by_cases h2 : k = p
    · rw [if_pos h2, if_pos h2, if_pos h2]
    · rw [if_neg h2, if_neg h2, if_neg h2]
def ASC (K : Nat → Nat) (m : Nat) : Prop := ∀ i j, i ≤ j → j < m → K i ≤ K j
theorem inS_asc {K : Nat → Nat} {p x m : Nat} (h : ASC K m) (hp : p ≤ m) (h1 : ∀ k, k < p → K k ≤ x) (h2 : ∀ k, p ≤ k → k < m → x ≤ K k) : ASC (inS K p x) (m + 1) := by
  intro i j hij hj
  unfold inS
  by_cases a : i < p
  · rw [if_pos a]
    by_cases b : j < p
    · rw [if_pos b]; exact h i j hij (by omega)
    · rw [if_neg b]
      by_cases c : j = p
      · rw [if_pos c]; exact h1 i a
      · rw [if_neg c]; exact h i (j - 1) (by omega) (by omega)
  · rw [if_neg a, if_neg (show ¬ j < p by omega)]
    by_cases c : i = p
    · rw [if_pos c]
      by_cases d : j = p
      · rw [if_pos d]; exact Nat.le_refl _
      · rw [if_neg d]; exact h2 (j - 1) (by omega) (by omega)
    · rw [if_neg c, if_neg (show ¬ j = p by omega)]; exact h (i - 1) (j - 1) (by omega) (by omega)
theorem p_putIn_b {K V : Nat → Nat} {m x w : Nat} (hm : m < 20) (hx : x < 100) (hK : ∀ k, k < m → K k < 100) (hA : ASC K m) : ∀ (i F : Nat) (a b : Nat → Int32), i < F → i ≤ m → (∀ k, k < i → a k = nI (K k) ∧ b k = nI (V k)) → (∀ k, i < k → k ≤ m → a k = nI (K (k - 1)) ∧ b k = nI (V (k - 1))) → (∀ k, i ≤ k → k < m → x ≤ K k) →
    ∃ a' b' p, f_X0_putIn_b22 (nI x) (nI w) F (nI i) a b (nI m) = some (a', b', nI (m + 1)) ∧ p ≤ m ∧ RR a' (inS K p x) (m + 1) ∧ RR b' (inS V p w) (m + 1) ∧ (∀ k, k < p → K k ≤ x) ∧ (∀ k, p ≤ k → k < m → x ≤ K k) := by
  have fin : ∀ (i F : Nat) (a b : Nat → Int32), i ≤ m → (∀ k, k < i → a k = nI (K k) ∧ b k = nI (V k)) → (∀ k, i < k → k ≤ m → a k = nI (K (k - 1)) ∧ b k = nI (V (k - 1))) → RR (upd a i (nI x)) (inS K i x) (m + 1) ∧ RR (upd b i (nI w)) (inS V i w) (m + 1) := by
    intro i F a b hi h1 h2
    refine ⟨fun k hk => ?_, fun k hk => ?_⟩
    · unfold inS
      by_cases c : k = i
      · rw [c, upd_q, if_neg (by omega), if_pos rfl]
      · rw [upd_w c]
        by_cases d : k < i
        · rw [if_pos d]; exact (h1 k d).1
        · rw [if_neg d, if_neg c]; exact (h2 k (by omega) (by omega)).1
    · unfold inS
      by_cases c : k = i
      · rw [c, upd_q, if_neg (by omega), if_pos rfl]
      · rw [upd_w c]
        by_cases d : k < i
        · rw [if_pos d]; exact (h1 k d).2
        · rw [if_neg d, if_neg c]; exact (h2 k (by omega) (by omega)).2
  intro i
  induction i with
  | zero =>
    intro F a b hF hi h1 h2 h3
    cases F with
    | zero => omega
    | succ F =>
      obtain ⟨f1, f2⟩ := fin 0 F a b hi h1 h2
      refine ⟨_, _, 0, ?_, by omega, f1, f2, fun k hk => by omega, h3⟩
      simp only [f_X0_putIn_b22, f_X0_putIn_b72, fa_lit, nme]
      rw [if_pos ((le_nI (by omega) (by omega)).mpr (Nat.le_refl _)), if_pos (gd_nI (by omega) (by omega)), if_pos (gd_nI (by omega) (by omega)), cl_nI (by omega), nI_step]
  | succ i ih =>
    intro F a b hF hi h1 h2 h3
    cases F with
    | zero => omega
    | succ F =>
      have hk1 := h1 i (by omega)
      have hKi := hK i (by omega)
      by_cases c : K i ≤ x
      · obtain ⟨f1, f2⟩ := fin (i + 1) F a b hi h1 h2
        refine ⟨_, _, i + 1, ?_, by omega, f1, f2, fun k hk => ?_, h3⟩
        · simp only [f_X0_putIn_b22, f_X0_putIn_b72, fa_lit, nme]
          rw [if_neg (nle_nI (by omega) (by omega) (by omega)), pk_sub (by omega), Nat.add_sub_cancel, if_pos (gd_nI (by omega) (by omega)), cl_nI (show i < 2147483648 by omega), hk1.1, if_pos ((le_nI (by omega) (by omega)).mpr c), if_pos (gd_nI (by omega) (by omega)), if_pos (gd_nI (by omega) (by omega)), cl_nI (by omega), nI_step]
        · have := hA k i (by omega) (by omega)
          omega
      · obtain ⟨a', b', p, g1, g2, g3, g4, g5, g6⟩ := ih F (upd a (i + 1) (nI (K i))) (upd b (i + 1) (nI (V i))) (by omega) (by omega)
          (fun k hk => ⟨(upd_w (by omega)).trans (h1 k (by omega)).1, (upd_w (by omega)).trans (h1 k (by omega)).2⟩)
          (fun k hk hk2 => by
            by_cases d : k = i + 1
            · rw [d, upd_q, upd_q]
              exact ⟨rfl, rfl⟩
            · rw [upd_w d, upd_w d]
              exact h2 k (by omega) hk2)
          (fun k hk hk2 => by
            by_cases d : k = i
            · rw [d]; omega
            · exact h3 k (by omega) hk2)
        refine ⟨a', b', p, ?_, g2, g3, g4, g5, g6⟩
        simp only [f_X0_putIn_b22, fa_lit, nme]
        rw [if_neg (nle_nI (by omega) (by omega) (by omega)), pk_sub (by omega), Nat.add_sub_cancel, if_pos (gd_nI (by omega) (by omega)), cl_nI (show i < 2147483648 by omega), hk1.1, if_neg (nle_nI (by omega) (by omega) (by omega)), if_pos (gd_nI (by omega) (by omega)), if_pos (gd_nI (by omega) (by omega)), if_pos (gd_nI (by omega) (by omega)), if_pos (gd_nI (by omega) (by omega)), hk1.2, dn1 (show i < 1000 by omega), cl_nI (by omega)]
        exact g1
theorem p_putIn {K V : Nat → Nat} {a b : Nat → Int32} {m x w : Nat} (hm : m < 20) (hx : x < 100) (hK : ∀ k, k < m → K k < 100) (hA : ASC K m) (ha : RR a K m) (hb : RR b V m) :
    ∃ a' b' p, f_X0_putIn (nI x) (nI w) a b (nI m) = some (a', b', nI (m + 1)) ∧ p ≤ m ∧ RR a' (inS K p x) (m + 1) ∧ RR b' (inS V p w) (m + 1) ∧ ASC (inS K p x) (m + 1) := by
  obtain ⟨a', b', p, g1, g2, g3, g4, g5, g6⟩ := p_putIn_b (V := V) (w := w) hm hx hK hA m FU a b (FU_big (by omega)) (Nat.le_refl _) (fun k hk => ⟨ha k hk, hb k hk⟩) (fun k h1 h2 => by omega) (fun k h1 h2 => by omega)
  refine ⟨a', b', p, ?_, g2, g3, g4, inS_asc hA g2 g5 g6⟩
  unfold f_X0_putIn
  simp only [fa_lit]
  rw [if_neg (nlt_nI (by omega) (by omega) (by omega)), if_pos ((lt_nI (by omega) (by omega)).mpr hm)]
  exact g1
/-- the rows hold the ribbons between two columns that come before i -/
def GA (D : DR) (a b i : Nat) (s : (Nat → Int32) × (Nat → Int32) × Int32) : Prop :=
  ∃ (m : Nat) (K V : Nat → Nat), s.2.2 = nI m ∧ m ≤ i ∧ RR s.1 K m ∧ RR s.2.1 V m ∧ ASC K m ∧ (∀ k, k < m → K k < 16 ∧ V k ≤ 50) ∧
    ∀ G : Nat → Nat → Nat, sN (fun k => G (K k) (V k)) m = sN (fun r => if jn D r a b = true then G (4 * dP D (dF D r) + dP D (dG D r)) (dW D r) else 0) i
theorem p_gather {pl fr to wd : Nat → Int32} {D : DR} (hp : RR pl (dP D) 16) (hf : RR fr (dF D) (dN D)) (hg : RR to (dG D) (dN D)) (hd : RR wd (dW D) (dN D)) (hw : WF D) {a b : Nat} (ha : a < 16) (hb : b < 16) (rk wi : Nat → Int32) (sz : Int32) :
    ∃ s, f_X0_gather pl fr to wd (nI (dN D)) (nI a) (nI b) rk wi sz = some s ∧ GA D a b (dN D) s := by
  have hn := hw.1
  unfold f_X0_gather
  simp only [fa_lit]
  refine loopI (fun F i (s : (Nat → Int32) × (Nat → Int32) × Int32) => f_X0_gather_b8 pl fr to wd (nI (dN D)) (nI a) (nI b) F i s.1 s.2.1 s.2.2) some (GA D a b) (dN D) ?_ ?_ (dN D) 0 FU (rk, wi, nI 0) (by omega) (FU_big (by omega)) ⟨0, fun _ => 0, fun _ => 0, rfl, Nat.le_refl _, fun k hk => by omega, fun k hk => by omega, fun i j _ h => by omega, fun k hk => by omega, fun G => rfl⟩
  · intro F i s hi ⟨m, K, V, h1, h2, h3, h4, h5, h6, h7⟩
    obtain ⟨t1, t2, -, t4⟩ := hw.2.2.2 i hi
    have q1 := hw.2.1 _ t1
    have q2 := hw.2.1 _ t2
    by_cases c : jn D i a b = false
    · refine ⟨s, ?_, m, K, V, h1, by omega, h3, h4, h5, h6, fun G => ?_⟩
      · simp only [f_X0_gather_b8, f_X0_gather_b69, fa_lit, nme]
        rw [if_neg (nle_nI (by omega) (by omega) hi), p_joins hf hg hw hi ha hb]
        simp only [bs, bI_0]
        rw [if_pos c, nI_step]
      · rw [h7 G]
        show _ = sN _ i + (if jn D i a b = true then _ else 0)
        rw [if_neg (by rw [c]; decide)]
        rfl
    · have c' : jn D i a b = true := by simpa using c
      obtain ⟨a', b', p, g1, g2, g3, g4, g5⟩ := p_putIn (V := V) (w := dW D i) (x := 4 * dP D (dF D i) + dP D (dG D i)) (show m < 20 by omega) (by omega) (fun k hk => by have := (h6 k hk).1; omega) h5 h3 h4
      refine ⟨(a', b', nI (m + 1)), ?_, m + 1, _, _, rfl, by omega, g3, g4, g5, fun k hk => ?_, fun G => ?_⟩
      · simp only [f_X0_gather_b8, f_X0_gather_b69, fa_lit, nme]
        rw [if_neg (nle_nI (by omega) (by omega) hi), p_joins hf hg hw hi ha hb]
        simp only [bs, bI_0]
        rw [if_neg c, p_fromOf hf hn hi, p_toOf hg hn hi, p_widthOf hd hn hi]
        simp only [bs]
        rw [p_placeOf hp t1, p_placeOf hp t2]
        simp only [bs]
        rw [h1, pk_mul, nI_step, g1]
        simp only [bs]
        rw [nI_step]
      · unfold inS
        by_cases k1 : k < p
        · rw [if_pos k1, if_pos k1]; exact h6 k (by omega)
        · rw [if_neg k1, if_neg k1]
          by_cases k2 : k = p
          · rw [if_pos k2, if_pos k2]; exact ⟨by omega, t4⟩
          · rw [if_neg k2, if_neg k2]; exact h6 (k - 1) (by omega)
      · rw [sN_inS G K V g2, h7 G]
        show _ = sN _ i + (if jn D i a b = true then _ else 0)
        rw [if_pos c']
  · intro F s ⟨m, K, V, h⟩
    simp only [f_X0_gather_b8, fa_lit]
    rw [if_pos ((le_nI (by omega) (by omega)).mpr (Nat.le_refl _))]
