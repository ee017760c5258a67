/-! ===== texts: a ribbon on both sides ===== -/
def sX (s c : Nat) : Nat := if s = 4 then s4 c else if s = 5 then s5 c else s6 c
theorem sX_lt (s c : Nat) : sX s c < 10 := by
  unfold sX s4 s5 s6
  split
  · split
    · omega
    · split <;> omega
  · split
    · split
      · omega
      · split <;> omega
    · split <;> omega
theorem s3_in {c : Nat} (h : 49 ≤ c ∧ c ≤ 57) : s3 c = 4 ∨ s3 c = 5 ∨ s3 c = 6 := by
  unfold s3
  rw [if_pos h]
  split
  · split
    · exact Or.inr (Or.inl rfl)
    · exact Or.inr (Or.inr rfl)
  · exact Or.inl rfl
theorem p_stageX {t : Nat → Int32} {T : Nat → Nat} {n i s : Nat} (ht : RR t T n) (hn : n ≤ 60) (hA : aT T n i < 200) (hi : i < 100) (hs : s = 4 ∨ s = 5 ∨ s = 6) : f_X4_stageAfter t (nI n) (nI s) (nI i) = some (nI (sX s (aT T n i))) := by
  rcases hs with h | h | h
  · subst h; exact p_stage4 ht hn hA hi
  · subst h; exact p_stage5 ht hn hA hi
  · subst h; exact p_stage6 ht hn hA hi
theorem sX_two {a c : Nat} (h : 49 ≤ a ∧ a ≤ 57) (hc : dgt c = true ∧ 10 * (a - 48) + c - 48 ≤ 50) : sX (s3 a) c = 6 := by
  have e := dgt_t hc.1
  have e2 := hc.2
  unfold s3
  rw [if_pos h]
  by_cases h1 : 53 ≤ a
  · rw [if_pos h1, if_pos (show a = 53 by omega)]
    show s5 c = 6
    unfold s5
    rw [if_pos (by omega)]
  · rw [if_neg h1]
    show s4 c = 6
    unfold s4
    rw [if_pos hc.1]
theorem sX_one {a c : Nat} (h : 49 ≤ a ∧ a ≤ 57) (hc : ¬ (dgt c = true ∧ 10 * (a - 48) + c - 48 ≤ 50)) : sX (s3 a) c = s6 c := by
  unfold s3
  rw [if_pos h]
  by_cases h1 : 53 ≤ a
  · rw [if_pos h1]
    by_cases h2 : a = 53
    · rw [if_pos h2]
      show s5 c = s6 c
      unfold s5
      rw [if_neg]
      intro h3
      exact hc ⟨decide_eq_true (by omega), by omega⟩
    · rw [if_neg h2]
      rfl
  · rw [if_neg h1]
    show s4 c = s6 c
    unfold s4
    rw [if_neg]
    intro h3
    have e := dgt_t h3
    exact hc ⟨h3, by omega⟩
theorem rb_in {A : Nat → Nat} {p q w : Nat} (h : rb A p = .inr (q, w)) : 97 ≤ A p ∧ A p ≤ 112 ∧ 97 ≤ A (p + 1) ∧ A (p + 1) ≤ 112 ∧ (A p - 97) / 4 ≠ (A (p + 1) - 97) / 4 ∧ (49 ≤ A (p + 2) ∧ A (p + 2) ≤ 57) ∧
    ((q = p + 3 ∧ w = A (p + 2) - 48 ∧ ¬ (dgt (A (p + 3)) = true ∧ 10 * (A (p + 2) - 48) + A (p + 3) - 48 ≤ 50)) ∨ (q = p + 4 ∧ w = 10 * (A (p + 2) - 48) + A (p + 3) - 48 ∧ (dgt (A (p + 3)) = true ∧ 10 * (A (p + 2) - 48) + A (p + 3) - 48 ≤ 50))) := by
  unfold rb at h
  by_cases c0 : ltr (A p) = false
  · rw [if_pos c0] at h; cases h
  rw [if_neg c0] at h
  by_cases c1 : oth (A (p + 1)) (A p) = false
  · rw [if_pos c1] at h; cases h
  rw [if_neg c1] at h
  by_cases c2 : 49 ≤ A (p + 2) ∧ A (p + 2) ≤ 57
  · rw [if_neg (fun z => z c2)] at h
    have d0 := ltr_t (show ltr (A p) = true by simpa using c0)
    have d1 : oth (A (p + 1)) (A p) = true := by simpa using c1
    unfold oth at d1
    rw [Bool.and_eq_true] at d1
    have d2 := ltr_t d1.1
    have d3 := of_decide_eq_true d1.2
    refine ⟨d0.1, d0.2, d2.1, d2.2, fun z => d3 z.symm, c2, ?_⟩
    by_cases c3 : dgt (A (p + 3)) = true ∧ 10 * (A (p + 2) - 48) + A (p + 3) - 48 ≤ 50
    · rw [if_pos c3] at h
      injection h with h
      injection h with h1 h2
      exact Or.inr ⟨h1.symm, h2.symm, c3⟩
    · rw [if_neg c3] at h
      injection h with h
      injection h with h1 h2
      exact Or.inl ⟨h1.symm, h2.symm, c3⟩
  · rw [if_pos c2] at h; cases h
theorem aT_end {T : Nat → Nat} {n k : Nat} (h : n ≤ k) : aT T n k = 0 := if_neg (by omega)
theorem aT_lt {T : Nat → Nat} {n k : Nat} (h : k < n) : aT T n k = T k := if_pos h
theorem aT_ne {T : Nat → Nat} {n k : Nat} (h : aT T n k ≠ 0) : k < n := by
  by_cases c : k < n
  · exact c
  · exact absurd (aT_end (by omega)) h
set_option maxRecDepth 100000 in
/-- the class reads a ribbon from p on: it ends where the reference finds an error, or behind the ribbon -/
theorem fw_rb {t : Nat → Int32} {T : Nat → Nat} {n p G : Nat} (ht : RR t T n) (hn : n ≤ 60) (hT : ∀ k, k < n → T k ≤ 126) (hp : p ≤ n) (hG : n < G + p) :
    (∀ e, rb (aT T n) p = .inl e → e ≤ n ∧ f_X4_firstWrong_b4 t (nI n) G (nI 1) (nI p) = some (nI e)) ∧
    (∀ q w, rb (aT T n) p = .inr (q, w) → q ≤ n ∧ ((q = n ∨ T q ≠ 59) → f_X4_firstWrong_b4 t (nI n) G (nI 1) (nI p) = some (nI q)) ∧
      (q < n → T q = 59 → ∃ G', n < G' + (q + 1) ∧ f_X4_firstWrong_b4 t (nI n) G (nI 1) (nI p) = f_X4_firstWrong_b4 t (nI n) G' (nI 1) (nI (q + 1)))) := by
  have hA : ∀ k, aT T n k < 200 := by
    intro k
    unfold aT
    by_cases h : k < n
    · rw [if_pos h]; have := hT k h; omega
    · rw [if_neg h]; omega
  cases G with
  | zero => omega
  | succ G =>
  by_cases hpn : p = n
  · subst hpn
    have e : rb (aT T p) p = .inl p := by
      unfold rb
      rw [if_pos (by rw [aT_end (Nat.le_refl _)]; decide)]
    rw [e]
    refine ⟨fun x hx => ?_, fun q w h => by cases h⟩
    injection hx with hx
    subst hx
    exact ⟨Nat.le_refl _, fw_end hn _⟩
  have hpl : p < n := by omega
  have hpA := aT_lt (T := T) hpl
  rw [fw_step hpl hn (p_stage1 ht hn (hA p) (by omega)) (by split <;> omega)]
  by_cases c0 : ltr (aT T n p) = false
  · have e : rb (aT T n) p = .inl p := by
      unfold rb
      rw [if_pos c0]
    rw [e, if_neg (show ¬ ltr (aT T n p) = true by rw [c0]; decide), if_pos rfl]
    refine ⟨fun x hx => ?_, fun q w h => by cases h⟩
    injection hx with hx
    subst hx
    exact ⟨hp, rfl⟩
  have d0 : ltr (aT T n p) = true := by simpa using c0
  rw [if_pos d0, if_neg (by decide)]
  cases G with
  | zero => omega
  | succ G =>
  by_cases hp1 : p + 1 = n
  · have e : rb (aT T n) p = .inl (p + 1) := by
      unfold rb
      rw [if_neg c0, if_pos]
      rw [aT_end (show n ≤ p + 1 by omega)]
      rfl
    rw [e]
    refine ⟨fun x hx => ?_, fun q w h => by cases h⟩
    injection hx with hx
    subst hx
    refine ⟨by omega, ?_⟩
    rw [hp1]
    exact fw_end hn _
  have hpl1 : p + 1 < n := by omega
  rw [fw_step hpl1 hn (p_stage2 ht hn (hA (p + 1)) d0 (by omega)) (by split <;> omega)]
  by_cases c1 : oth (aT T n (p + 1)) (aT T n p) = false
  · have e : rb (aT T n) p = .inl (p + 1) := by
      unfold rb
      rw [if_neg c0, if_pos c1]
    rw [e, if_neg (show ¬ oth (aT T n (p + 1)) (aT T n p) = true by rw [c1]; decide), if_pos rfl]
    refine ⟨fun x hx => ?_, fun q w h => by cases h⟩
    injection hx with hx
    subst hx
    exact ⟨by omega, rfl⟩
  have d1 : oth (aT T n (p + 1)) (aT T n p) = true := by simpa using c1
  rw [if_pos d1, if_neg (by decide)]
  cases G with
  | zero => omega
  | succ G =>
  by_cases hp2 : p + 2 = n
  · have e : rb (aT T n) p = .inl (p + 2) := by
      unfold rb
      rw [if_neg c0, if_neg c1, if_pos]
      rw [aT_end (show n ≤ p + 2 by omega)]
      omega
    rw [e]
    refine ⟨fun x hx => ?_, fun q w h => by cases h⟩
    injection hx with hx
    subst hx
    refine ⟨by omega, ?_⟩
    rw [show p + 1 + 1 = p + 2 by omega, hp2]
    exact fw_end hn _
  have hpl2 : p + 2 < n := by omega
  rw [show p + 1 + 1 = p + 2 by omega]
  rw [fw_step hpl2 hn (p_stage3 ht hn (hA (p + 2)) (by omega)) (by unfold s3; split <;> (try split) <;> (try split) <;> omega)]
  by_cases c2 : 49 ≤ aT T n (p + 2) ∧ aT T n (p + 2) ≤ 57
  · have hs := s3_in c2
    rw [if_neg (show ¬ s3 (aT T n (p + 2)) = 0 by omega)]
    have v : rb (aT T n) p = if dgt (aT T n (p + 3)) = true ∧ 10 * (aT T n (p + 2) - 48) + aT T n (p + 3) - 48 ≤ 50 then .inr (p + 4, 10 * (aT T n (p + 2) - 48) + aT T n (p + 3) - 48) else .inr (p + 3, aT T n (p + 2) - 48) := by
      unfold rb
      rw [if_neg c0, if_neg c1, if_neg (fun z => z c2)]
    rw [v]
    clear v
    cases G with
    | zero => omega
    | succ G =>
    rw [show p + 2 + 1 = p + 3 by omega]
    by_cases c3 : dgt (aT T n (p + 3)) = true ∧ 10 * (aT T n (p + 2) - 48) + aT T n (p + 3) - 48 ≤ 50
    · rw [if_pos c3]
      have d3 := dgt_t c3.1
      have hpl3 : p + 3 < n := aT_ne (T := T) (by omega)
      refine ⟨fun x hx => (by cases hx), fun q w hq => ?_⟩
      injection hq with hq
      injection hq with h1 h2
      subst h1
      rw [fw_step hpl3 hn (p_stageX ht hn (hA (p + 3)) (by omega) hs) (sX_lt _ _), sX_two c2 c3, if_neg (by decide), show p + 3 + 1 = p + 4 by omega]
      cases G with
      | zero => omega
      | succ G =>
      by_cases hp4 : p + 4 = n
      · refine ⟨by omega, fun _ => ?_, fun h => by omega⟩
        rw [hp4]
        exact fw_end hn _
      · have hpl4 : p + 4 < n := by omega
        rw [fw_step hpl4 hn (p_stage6 ht hn (hA (p + 4)) (by omega)) (by unfold s6; split <;> omega), aT_lt hpl4]
        unfold s6
        refine ⟨by omega, fun h => ?_, fun _ h => ⟨G, by omega, ?_⟩⟩
        · rw [if_neg (show ¬ T (p + 4) = 59 from h.elim (fun z => absurd z hp4) id), if_pos rfl]
        · rw [if_pos h, if_neg (by decide)]
    · rw [if_neg c3]
      refine ⟨fun x hx => (by cases hx), fun q w hq => ?_⟩
      injection hq with hq
      injection hq with h1 h2
      subst h1
      by_cases hp3 : p + 3 = n
      · refine ⟨by omega, fun _ => ?_, fun h => by omega⟩
        rw [hp3]
        exact fw_end hn _
      · have hpl3 : p + 3 < n := by omega
        rw [fw_step hpl3 hn (p_stageX ht hn (hA (p + 3)) (by omega) hs) (sX_lt _ _), sX_one c2 c3, aT_lt hpl3]
        unfold s6
        refine ⟨by omega, fun h => ?_, fun _ h => ⟨G, by omega, ?_⟩⟩
        · rw [if_neg (show ¬ T (p + 3) = 59 from h.elim (fun z => absurd z hp3) id), if_pos rfl]
        · rw [if_pos h, if_neg (by decide)]
  · have e : rb (aT T n) p = .inl (p + 2) := by
      unfold rb
      rw [if_neg c0, if_neg c1, if_pos c2]
    rw [e]
    refine ⟨fun x hx => ?_, fun q w h => by cases h⟩
    injection hx with hx
    subst hx
    refine ⟨by omega, ?_⟩
    rw [if_pos (show s3 (aT T n (p + 2)) = 0 from if_neg c2)]
