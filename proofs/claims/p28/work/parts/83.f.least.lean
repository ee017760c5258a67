/-! ===== ways: what goes through is the least cut ===== -/
def NS (S : Nat → Bool) : Prop := (∀ p, p < 4 → S p = true) ∧ ∀ p, 12 ≤ p → S p = false
theorem sd_NS (x : Nat) : NS (sd x) := ⟨fun p h => sd_0 h, fun p h => sd_1 h⟩
theorem zN_le {f g : Nat → Int} : ∀ {n : Nat}, (∀ k, k < n → f k ≤ g k) → zN f n ≤ zN g n
  | 0, _ => Int.le_refl _
  | n + 1, h => by
    have h1 := zN_le (n := n) (fun k hk => h k (by omega))
    have h2 := h n (by omega)
    show zN f n + f n ≤ zN g n + g n
    omega
theorem zN_sN (h : Nat → Nat) : ∀ n, zN (fun r => (h r : Int)) n = ((sN h n : Nat) : Int)
  | 0 => rfl
  | n + 1 => by
    show zN _ n + (h n : Int) = ((sN h n + h n : Nat) : Int)
    rw [zN_sN h n]
    omega
theorem ch_t {S : Nat → Bool} {p : Nat} (h : S p = true) : ch S p = 1 := if_pos h
theorem ch_f {S : Nat → Bool} {p : Nat} (h : S p = false) : ch S p = 0 := if_neg (by rw [h]; decide)
theorem net_le {D : DR} {f : Nat → Nat} (hw : WF D) (hl : FL D f) (x : Nat) : net D f (sd x) ≤ (cuT D x 100 : Nat) := by
  have hn := hw.1
  unfold net cuT
  rw [← zN_sN]
  refine zN_le (fun r hr => ?_)
  obtain ⟨h1, h2⟩ := hl r hr
  unfold cuR
  cases ho : on D r with
  | false => rw [h2 ho, if_neg (fun z => by cases z.2)]; simp
  | true =>
    cases hF : sd x (dF D r) with
    | false =>
      rw [ch_f hF, if_neg (fun z => by cases z.2)]
      cases hG : sd x (dG D r) with
      | false => rw [ch_f hG]; simp
      | true => rw [ch_t hG]; omega
    | true =>
      rw [ch_t hF]
      cases hG : sd x (dG D r) with
      | false => rw [ch_f hG, if_pos ⟨by omega, rfl⟩]; omega
      | true => rw [ch_t hG, if_neg (fun z => by cases z.2)]; simp
theorem net_eq {D : DR} {f : Nat → Nat} (hw : WF D) (hl : FL D f) (x : Nat) (h1 : ∀ r, r < dN D → on D r = true → sd x (dF D r) = true → sd x (dG D r) = false → f r = dW D r) (h2 : ∀ r, r < dN D → on D r = true → sd x (dF D r) = false → sd x (dG D r) = true → f r = 0) : net D f (sd x) = (cuT D x 100 : Nat) := by
  have hn := hw.1
  unfold net cuT
  rw [← zN_sN]
  refine zN_cong (fun r hr => ?_)
  obtain ⟨-, h3⟩ := hl r hr
  unfold cuR
  cases ho : on D r with
  | false => rw [h3 ho, if_neg (fun z => by cases z.2)]; simp
  | true =>
    cases hF : sd x (dF D r) with
    | false =>
      rw [ch_f hF, if_neg (fun z => by cases z.2)]
      cases hG : sd x (dG D r) with
      | false => rw [ch_f hG]; simp
      | true => rw [h2 r hr ho hF hG]; simp
    | true =>
      rw [ch_t hF]
      cases hG : sd x (dG D r) with
      | false => rw [ch_f hG, if_pos ⟨by omega, rfl⟩, h1 r hr ho hF hG]; omega
      | true => rw [ch_t hG, if_neg (fun z => by cases z.2)]; simp
def b1N (b : Bool) : Nat := if b = true then 1 else 0
theorem b1N_le (b : Bool) : b1N b ≤ 1 := by cases b <;> decide
theorem b1N_1 (b : Bool) : decide (b1N b = 1) = b := by cases b <;> decide
/-- the number of a side -/
def enc (S : Nat → Bool) : Nat := b1N (S 4) + 2 * b1N (S 5) + 4 * b1N (S 6) + 8 * b1N (S 7) + 16 * b1N (S 8) + 32 * b1N (S 9) + 64 * b1N (S 10) + 128 * b1N (S 11)
theorem enc_sd {S : Nat → Bool} (hS : NS S) : enc S < 256 ∧ ∀ p, p < 16 → sd (enc S) p = S p := by
  have a4 := b1N_le (S 4)
  have a5 := b1N_le (S 5)
  have a6 := b1N_le (S 6)
  have a7 := b1N_le (S 7)
  have a8 := b1N_le (S 8)
  have a9 := b1N_le (S 9)
  have a10 := b1N_le (S 10)
  have a11 := b1N_le (S 11)
  refine ⟨by unfold enc; omega, fun p hp => ?_⟩
  by_cases c : p < 4
  · rw [sd_0 c, hS.1 p c]
  by_cases d : 12 ≤ p
  · rw [sd_1 d, hS.2 p d]
  rw [sd_2 (by omega) (by omega)]
  have key : ∀ q, p = q → enc S / 2 ^ (q - 4) % 2 = b1N (S q) → decide (enc S / 2 ^ (p - 4) % 2 = 1) = S p := by
    intro q e h
    subst e
    rw [h, b1N_1]
  have h : p = 4 ∨ p = 5 ∨ p = 6 ∨ p = 7 ∨ p = 8 ∨ p = 9 ∨ p = 10 ∨ p = 11 := by omega
  rcases h with h | h | h | h | h | h | h | h
  · exact key 4 h (by unfold enc; omega)
  · exact key 5 h (by unfold enc; omega)
  · exact key 6 h (by unfold enc; omega)
  · exact key 7 h (by unfold enc; omega)
  · exact key 8 h (by unfold enc; omega)
  · exact key 9 h (by unfold enc; omega)
  · exact key 10 h (by unfold enc; omega)
  · exact key 11 h (by unfold enc; omega)
theorem lmN_at (f : Nat → Nat) (k : Nat) : ∀ n, k ≤ n → lmN f n ≤ f k
  | 0, h => by
    have e : k = 0 := by omega
    subst e
    exact Nat.le_refl _
  | n + 1, h => by
    show (if f (n + 1) < lmN f n then f (n + 1) else lmN f n) ≤ f k
    by_cases c : k = n + 1
    · subst c
      split <;> omega
    · have := lmN_at f k n (by omega)
      split <;> omega
theorem lmN_ge (f : Nat → Nat) (v : Nat) (h : ∀ k, v ≤ f k) : ∀ n, v ≤ lmN f n
  | 0 => h 0
  | n + 1 => by
    show v ≤ (if f (n + 1) < lmN f n then f (n + 1) else lmN f n)
    have h1 := h (n + 1)
    have h2 := lmN_ge f v h n
    split <;> omega
theorem m1_m2 : ¬ (-nI 1 = -nI 2) := by decide
/-- when no way is left, what goes through is the least cut -/
theorem full_thr {D : DR} {f : Nat → Nat} {v n : Nat} {Q : Nat → Nat} {rb qu : Nat → Int32} (hw : WF D) (hl : FL D f) (hv : ∀ S, NS S → net D f S = (v : Int)) (hB : BF D f n Q rb qu) (hC : CL D f n Q n) : v = thr D 100 := by
  have hn20 := hw.1
  have hle : v ≤ thr D 100 := by
    unfold thr
    refine lmN_ge _ v (fun x => ?_) 255
    have h := net_le hw hl x
    rw [hv _ (sd_NS x)] at h
    omega
  have hr : ∀ p, p < 16 → (∃ j, j < n ∧ Q j = p) ∨ rb p = -nI 2 := by
    intro p hp
    by_cases c : ∃ j, j < n ∧ Q j = p
    · exact Or.inl c
    · exact Or.inr (hB.2.2.2.2.1 p hp (fun j hj e => c ⟨j, hj, e⟩))
  have hS : NS (fun p => decide (p < 16) && !decide (rb p = -nI 2)) := by
    refine ⟨fun p hp => ?_, fun p hp => ?_⟩
    · dsimp only
      rw [decide_eq_true (show p < 16 by omega), decide_eq_false (by rw [(hB.2.2.1 p hp).2]; exact m1_m2)]
      rfl
    · dsimp only
      by_cases c : p < 16
      · rw [decide_eq_true c]
        rcases hr p c with ⟨j, h1, h2⟩ | h
        · have := (hB.2.1 j h1).2
          omega
        · rw [decide_eq_true h]
          rfl
      · rw [decide_eq_false c]
        rfl
  obtain ⟨hx, he⟩ := enc_sd hS
  generalize enc (fun p => decide (p < 16) && !decide (rb p = -nI 2)) = x at hx he
  have hyes : ∀ p, p < 16 → sd x p = true → ∃ j, j < n ∧ Q j = p := by
    intro p hp h
    rw [he p hp] at h
    rcases hr p hp with c | c
    · exact c
    · rw [decide_eq_true c, Bool.not_true, Bool.and_false] at h
      cases h
  have hin : ∀ j, j < n → sd x (Q j) = true := by
    intro j hj
    have h12 := (hB.2.1 j hj).2
    rw [he _ (by omega), decide_eq_true (show Q j < 16 by omega), decide_eq_false (BF_rb hB hj hn20)]
    rfl
  have hnet := net_eq hw hl x (fun r h1 h2 h3 h4 => by
      obtain ⟨t1, t2, -, -⟩ := hw.2.2.2 r h1
      have hb := (hl r h1).1
      obtain ⟨j, g1, g2⟩ := hyes _ t1 h3
      by_cases c : f r < dW D r
      · obtain ⟨k, k1, k2⟩ := hC j g1 r h1 _ (nx_up h2 g2.symm c)
        have := hin k k1
        rw [k2, h4] at this
        cases this
      · omega) (fun r h1 h2 h3 h4 => by
      obtain ⟨t1, t2, -, -⟩ := hw.2.2.2 r h1
      obtain ⟨j, g1, g2⟩ := hyes _ t2 h4
      by_cases c : 0 < f r
      · obtain ⟨k, k1, k2⟩ := hC j g1 r h1 _ (nx_dn h2 g2.symm c)
        have := hin k k1
        rw [k2, h3] at this
        cases this
      · omega)
  rw [hv _ (sd_NS x)] at hnet
  have h2 : thr D 100 ≤ cuT D x 100 := lmN_at (fun x => cuT D x 100) x 255 (by omega)
  omega
