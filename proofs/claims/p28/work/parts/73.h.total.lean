/-! ===== what stands ahead: all widths together are all crossings ===== -/
theorem sN_at {f : Nat → Nat} {t : Nat} : ∀ {n : Nat}, t < n → (∀ k, k < n → k ≠ t → f k = 0) → sN f n = f t
  | 0, h, _ => by omega
  | n + 1, h, h0 => by
    show sN f n + f n = f t
    by_cases c : t = n
    · subst c
      rw [sN_0 f t (fun k hk => h0 k (by omega) (by omega)), Nat.zero_add]
    · rw [sN_at (n := n) (by omega) (fun k hk => h0 k (by omega)), h0 n (by omega) (fun e => c e.symm)]
      rfl
def mn (x y : Nat) : Nat := if y < x then y else x
theorem mn_le (x y w : Nat) : w ≤ mn x y ↔ w ≤ x ∧ w ≤ y := by
  unfold mn
  by_cases h : y < x
  · rw [if_pos h]; omega
  · rw [if_neg h]; omega
theorem sN_w1 (t : Nat) (C : Prop) [Decidable C] : ∀ n, sN (fun w => if 1 ≤ w ∧ w ≤ t ∧ C then 1 else 0) (n + 1) = if C then (if n < t then n else t) else 0
  | 0 => by
    show 0 + (if 1 ≤ 0 ∧ 0 ≤ t ∧ C then 1 else 0) = _
    rw [if_neg (show ¬ (1 ≤ 0 ∧ 0 ≤ t ∧ C) by omega)]
    by_cases c : C
    · rw [if_pos c]
      by_cases d : 0 < t
      · rw [if_pos d]
      · rw [if_neg d]; omega
    · rw [if_neg c]
  | n + 1 => by
    show sN _ (n + 1) + (if 1 ≤ n + 1 ∧ n + 1 ≤ t ∧ C then 1 else 0) = _
    rw [sN_w1 t C n]
    by_cases c : C
    · rw [if_pos c, if_pos c]
      by_cases e : n + 1 ≤ t
      · rw [if_pos (show n < t by omega), if_pos (show 1 ≤ n + 1 ∧ n + 1 ≤ t ∧ C from ⟨by omega, e, c⟩)]
        by_cases d : n + 1 < t
        · rw [if_pos d]
        · rw [if_neg d]; omega
      · rw [if_neg (show ¬ n < t by omega), if_neg (show ¬ (1 ≤ n + 1 ∧ n + 1 ≤ t ∧ C) from fun z => e z.2.1), if_neg (show ¬ n + 1 < t by omega)]
        rfl
    · rw [if_neg c, if_neg c, if_neg (show ¬ (1 ≤ n + 1 ∧ n + 1 ≤ t ∧ C) from fun z => c z.2.2)]
theorem sN_w (x y : Nat) (C : Prop) [Decidable C] (n : Nat) : sN (fun w => if 1 ≤ w ∧ w ≤ x ∧ w ≤ y ∧ C then 1 else 0) (n + 1) = if C then mn (mn x y) n else 0 := by
  rw [show mn (mn x y) n = (if n < mn x y then n else mn x y) from rfl, ← sN_w1 (mn x y) C n]
  refine sN_cong (fun w _ => ?_)
  have h := mn_le x y w
  by_cases c : 1 ≤ w ∧ w ≤ x ∧ w ≤ y ∧ C
  · rw [if_pos c, if_pos ⟨c.1, h.mpr ⟨c.2.1, c.2.2.1⟩, c.2.2.2⟩]
  · rw [if_neg c, if_neg]
    intro z
    have z2 := h.mp z.2.1
    exact c ⟨z.1, z2.1, z2.2, z.2.2⟩
/-- how a ribbon of rank x and width v counts with one of rank y and width u that stands ahead -/
def gX (x v y u : Nat) : Nat := if y / 4 < x / 4 ∧ x % 4 < y % 4 then mn v u else 0
theorem cF_two (K V : Nat → Nat) (w m : Nat) : cF K V w m = sN (fun i => sN (fun j => if w ≤ V i ∧ w ≤ V j ∧ (j < i ∧ K i % 4 < K j % 4) then 1 else 0) m) m := by
  unfold cF cA
  refine sN_cong (fun i hi => ?_)
  by_cases c : w ≤ V i
  · rw [if_pos c, sN_z (a := i) (b := m) (by omega) (fun k h1 h2 => if_neg (by omega))]
    refine sN_cong (fun j hj => ?_)
    by_cases d : w ≤ V j ∧ K i % 4 < K j % 4
    · rw [if_pos d, if_pos ⟨c, d.1, hj, d.2⟩]
    · rw [if_neg d, if_neg (fun z => d ⟨z.2.1, z.2.2.2⟩)]
  · rw [if_neg c]
    exact (sN_0 _ m (fun j _ => if_neg (fun z => c z.1))).symm
theorem cF_total {K V : Nat → Nat} {m : Nat} (hA : ASC K m) (hb : ∀ k, k < m → K k < 16 ∧ V k ≤ 50) : sN (fun w => if 1 ≤ w then cF K V w m else 0) 51 = sN (fun i => sN (fun j => gX (K i) (V i) (K j) (V j)) m) m := by
  have e1 : sN (fun w => if 1 ≤ w then cF K V w m else 0) 51 = sN (fun w => sN (fun i => sN (fun j => if 1 ≤ w ∧ w ≤ V i ∧ w ≤ V j ∧ (j < i ∧ K i % 4 < K j % 4) then 1 else 0) m) m) 51 := by
    refine sN_cong (fun w _ => ?_)
    by_cases c : 1 ≤ w
    · rw [if_pos c, cF_two]
      refine sN_cong (fun i _ => sN_cong (fun j _ => ?_))
      by_cases d : w ≤ V i ∧ w ≤ V j ∧ (j < i ∧ K i % 4 < K j % 4)
      · rw [if_pos d, if_pos ⟨c, d⟩]
      · rw [if_neg d, if_neg (fun z => d z.2)]
    · rw [if_neg c]
      exact (sN_0 _ m (fun i _ => sN_0 _ m (fun j _ => if_neg (fun z => c z.1)))).symm
  rw [e1, sN_swap]
  refine sN_cong (fun i hi => ?_)
  rw [sN_swap]
  refine sN_cong (fun j hj => ?_)
  rw [sN_w]
  unfold gX
  have b1 := (hb i hi).2
  have b2 := (hb j hj).2
  have hm : mn (mn (V i) (V j)) 50 = mn (V i) (V j) := by
    unfold mn
    split <;> split <;> omega
  rw [hm]
  by_cases c : j < i ∧ K i % 4 < K j % 4
  · have h1 := hA j i (by omega) hi
    rw [if_pos c, if_pos ⟨by omega, c.2⟩]
  · rw [if_neg c, if_neg]
    intro z
    by_cases d : j < i
    · exact c ⟨d, z.2⟩
    · have h1 := hA i j (by omega) hj
      omega
def rnk (D : DR) (r : Nat) : Nat := 4 * dP D (dF D r) + dP D (dG D r)
def qAB (D : DR) (a b : Nat) : Nat := sN (fun r => sN (fun q => if a < b ∧ jn D r a b = true ∧ jn D q a b = true then gX (rnk D r) (dW D r) (rnk D q) (dW D q) else 0) (dN D)) (dN D)
theorem gX_t {D : DR} (hw : WF D) {r q : Nat} (hr : r < dN D) (hq : q < dN D) (h : jn D r (dF D q / 4) (dG D q / 4) = true) : gX (rnk D r) (dW D r) (rnk D q) (dW D q) = tW D q r := by
  have t1 := hw.2.1 _ (hw.2.2.2 r hr).1
  have t2 := hw.2.1 _ (hw.2.2.2 r hr).2.1
  have t3 := hw.2.1 _ (hw.2.2.2 q hq).1
  have t4 := hw.2.1 _ (hw.2.2.2 q hq).2.1
  unfold gX tW tRQ rnk
  rw [h, Bool.true_and]
  by_cases c : dP D (dF D q) < dP D (dF D r) ∧ dP D (dG D r) < dP D (dG D q)
  · rw [if_pos (by omega), if_pos (decide_eq_true c), wmin_comm]
    rfl
  · rw [if_neg (by omega), if_neg (by rw [decide_eq_false c]; decide)]
theorem pair_col {D : DR} (hw : WF D) {r q : Nat} (hr : r < dN D) (hq : q < dN D) :
    sN (fun a => sN (fun b => if a < b ∧ jn D r a b = true ∧ jn D q a b = true then gX (rnk D r) (dW D r) (rnk D q) (dW D q) else 0) 4) 4 = tW D q r := by
  obtain ⟨t1, t2, -, -⟩ := hw.2.2.2 q hq
  have key : ∀ a b, jn D r a b = true ∧ jn D q a b = true → a = dF D q / 4 ∧ b = dG D q / 4 := by
    intro a b h
    have h2 := h.2
    unfold jn at h2
    rw [Bool.and_eq_true, Bool.and_eq_true] at h2
    exact ⟨(of_decide_eq_true h2.1.2).symm, (of_decide_eq_true h2.2).symm⟩
  rw [sN_at (t := dF D q / 4) (by omega) (fun a _ ha => sN_0 _ 4 (fun b _ => if_neg (fun z => ha (key a b z.2).1)))]
  rw [sN_at (t := dG D q / 4) (by omega) (fun b _ hb => if_neg (fun z => hb (key _ b z.2).2))]
  by_cases c : jn D r (dF D q / 4) (dG D q / 4) = true
  · have c2 := c
    unfold jn at c2
    rw [Bool.and_eq_true, Bool.and_eq_true] at c2
    have c3 := of_decide_eq_true c2.1.1
    have c4 : jn D q (dF D q / 4) (dG D q / 4) = true := by
      unfold jn
      rw [decide_eq_true c3, decide_eq_true rfl, decide_eq_true rfl]
      rfl
    rw [if_pos ⟨c3, c, c4⟩, gX_t hw hr hq c]
  · rw [if_neg (fun z => c z.2.1)]
    unfold tW tRQ
    rw [show jn D r (dF D q / 4) (dG D q / 4) = false by simpa using c, Bool.false_and]
    rfl
theorem qAB_all {D : DR} (hw : WF D) : sN (fun a => sN (fun b => qAB D a b) 4) 4 = xAll D := by
  have e1 : sN (fun a => sN (fun b => qAB D a b) 4) 4 = sN (fun r => sN (fun q => sN (fun a => sN (fun b => if a < b ∧ jn D r a b = true ∧ jn D q a b = true then gX (rnk D r) (dW D r) (rnk D q) (dW D q) else 0) 4) 4) (dN D)) (dN D) := by
    unfold qAB
    have e2 : ∀ a, a < 4 → sN (fun b => sN (fun r => sN (fun q => if a < b ∧ jn D r a b = true ∧ jn D q a b = true then gX (rnk D r) (dW D r) (rnk D q) (dW D q) else 0) (dN D)) (dN D)) 4 = sN (fun r => sN (fun q => sN (fun b => if a < b ∧ jn D r a b = true ∧ jn D q a b = true then gX (rnk D r) (dW D r) (rnk D q) (dW D q) else 0) 4) (dN D)) (dN D) := by
      intro a _
      rw [sN_swap]
      exact sN_cong (fun r _ => sN_swap _ _ _)
    rw [sN_cong e2, sN_swap]
    exact sN_cong (fun r _ => sN_swap _ _ _)
  rw [e1, xAll_t, sN_swap]
  exact sN_cong (fun q hq => sN_cong (fun r hr => pair_col hw hr hq))
