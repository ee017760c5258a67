/-! ===== the crossings under an order: a constant and the cost of the row ===== -/
def jq (D : DR) (r q : Nat) : Bool := jn D q (dF D r / 4) (dG D r / 4)
def aRQ (D : DR) (c r q : Nat) : Nat := if jq D r q = true ∧ dF D r / 4 ≠ c ∧ dG D r / 4 ≠ c ∧ dP D (dF D r) < dP D (dF D q) ∧ dP D (dG D q) < dP D (dG D r) then wmin D r q else 0
def b1 (D : DR) (c : Nat) (d : Nat → Nat) (r q : Nat) : Nat := if jq D r q = true ∧ dF D r / 4 = c ∧ ps d (dF D r % 4) < ps d (dF D q % 4) ∧ dP D (dG D q) < dP D (dG D r) then wmin D r q else 0
def b2 (D : DR) (c : Nat) (d : Nat → Nat) (r q : Nat) : Nat := if jq D r q = true ∧ dG D r / 4 = c ∧ dP D (dF D r) < dP D (dF D q) ∧ ps d (dG D q % 4) < ps d (dG D r % 4) then wmin D r q else 0
theorem orD_p (D : DR) (c : Nat) (d : Nat → Nat) (p : Nat) : dP (orD D c d) p = if p / 4 = c then ps d (p % 4) else dP D p := rfl
theorem tW_or (D : DR) (c : Nat) (d : Nat → Nat) (r q : Nat) : tW (orD D c d) r q = aRQ D c r q + (b1 D c d r q + b2 D c d r q) := by
  have e : tRQ (orD D c d) r q = (jq D r q && decide (dP (orD D c d) (dF D r) < dP (orD D c d) (dF D q) ∧ dP (orD D c d) (dG D q) < dP (orD D c d) (dG D r))) := rfl
  unfold tW
  rw [e, show wmin (orD D c d) r q = wmin D r q from rfl, orD_p, orD_p, orD_p, orD_p]
  unfold aRQ b1 b2
  by_cases j : jq D r q = true
  · obtain ⟨j1, j2, j3⟩ := jn_cols j
    rw [j, Bool.true_and]
    rw [j2, j3]
    by_cases f : dF D r / 4 = c
    · have g : ¬ dG D r / 4 = c := by omega
      rw [if_pos f, if_pos f, if_neg g, if_neg g, if_neg (show ¬ (true = true ∧ dF D r / 4 ≠ c ∧ dG D r / 4 ≠ c ∧ dP D (dF D r) < dP D (dF D q) ∧ dP D (dG D q) < dP D (dG D r)) from fun x => x.2.1 f), Nat.zero_add]
      rw [if_neg (show ¬ (true = true ∧ dG D r / 4 = c ∧ dP D (dF D r) < dP D (dF D q) ∧ ps d (dG D q % 4) < ps d (dG D r % 4)) from fun x => g x.2.1), Nat.add_zero]
      by_cases h : ps d (dF D r % 4) < ps d (dF D q % 4) ∧ dP D (dG D q) < dP D (dG D r)
      · rw [if_pos (decide_eq_true h), if_pos ⟨rfl, f, h.1, h.2⟩]
      · rw [if_neg (by rw [decide_eq_false h]; decide), if_neg (fun x => h ⟨x.2.2.1, x.2.2.2⟩)]
    · rw [if_neg f, if_neg f]
      rw [if_neg (show ¬ (true = true ∧ dF D r / 4 = c ∧ ps d (dF D r % 4) < ps d (dF D q % 4) ∧ dP D (dG D q) < dP D (dG D r)) from fun x => f x.2.1), Nat.zero_add]
      by_cases g : dG D r / 4 = c
      · rw [if_pos g, if_pos g, if_neg (show ¬ (true = true ∧ dF D r / 4 ≠ c ∧ dG D r / 4 ≠ c ∧ dP D (dF D r) < dP D (dF D q) ∧ dP D (dG D q) < dP D (dG D r)) from fun x => x.2.2.1 g), Nat.zero_add]
        by_cases h : dP D (dF D r) < dP D (dF D q) ∧ ps d (dG D q % 4) < ps d (dG D r % 4)
        · rw [if_pos (decide_eq_true h), if_pos ⟨rfl, g, h.1, h.2⟩]
        · rw [if_neg (by rw [decide_eq_false h]; decide), if_neg (fun x => h ⟨x.2.2.1, x.2.2.2⟩)]
      · rw [if_neg g, if_neg g, if_neg (show ¬ (true = true ∧ dG D r / 4 = c ∧ dP D (dF D r) < dP D (dF D q) ∧ ps d (dG D q % 4) < ps d (dG D r % 4)) from fun x => g x.2.1), Nat.add_zero]
        by_cases h : dP D (dF D r) < dP D (dF D q) ∧ dP D (dG D q) < dP D (dG D r)
        · rw [if_pos (decide_eq_true h), if_pos ⟨rfl, f, g, h.1, h.2⟩]
        · rw [if_neg (by rw [decide_eq_false h]; decide), if_neg (fun x => h ⟨x.2.2.2.1, x.2.2.2.2⟩)]
  · have j' : jq D r q = false := by simpa using j
    rw [j', Bool.false_and, if_neg (by decide), if_neg (fun x => absurd x.1 (by decide)), if_neg (fun x => absurd x.1 (by decide)), if_neg (fun x => absurd x.1 (by decide))]
theorem ps_at {d : Nat → Nat} (hd : ∀ i, i < 4 → d i < 4) (hu : unl d = true) {i : Nat} (hi : i < 4) : ps d (d i) = i := by
  have h := ps_of hd hu (hd i hi)
  have l := ps_lt d (d i)
  obtain ⟨u1, u2, u3, u4, u5, u6⟩ := unl_of hu
  have q : ps d (d i) = 0 ∨ ps d (d i) = 1 ∨ ps d (d i) = 2 ∨ ps d (d i) = 3 := by omega
  have w : i = 0 ∨ i = 1 ∨ i = 2 ∨ i = 3 := by omega
  rcases q with q | q | q | q <;> rcases w with w | w | w | w <;> subst w <;> rw [q] at h <;> first | exact q | (exfalso; omega)
/-- over a row, what stands at one place pair is found once, if it stands in order -/
theorem cR_one {d : Nat → Nat} (hd : ∀ i, i < 4 → d i < 4) (hu : unl d = true) {a b w : Nat} (ha : a < 4) (hb : b < 4) : cR (fun k => if k = a * 4 + b then w else 0) d = if ps d a < ps d b then w else 0 := by
  have x := ps_of hd hu ha
  have y := ps_of hd hu hb
  have la := ps_lt d a
  have lb := ps_lt d b
  have d0 := hd 0 (by omega)
  have d1 := hd 1 (by omega)
  have d2 := hd 2 (by omega)
  have d3 := hd 3 (by omega)
  obtain ⟨u1, u2, u3, u4, u5, u6⟩ := unl_of hu
  unfold cR
  have q : ps d a = 0 ∨ ps d a = 1 ∨ ps d a = 2 ∨ ps d a = 3 := by omega
  have p : ps d b = 0 ∨ ps d b = 1 ∨ ps d b = 2 ∨ ps d b = 3 := by omega
  have z : ∀ i j, i < 4 → j < 4 → (d i = a ∧ d j = b → False) → (fun k => if k = a * 4 + b then w else 0) (d i * 4 + d j) = 0 := by
    intro i j hi hj h
    have := hd i hi
    have := hd j hj
    exact if_neg (fun e => h ⟨by omega, by omega⟩)
  have o : ∀ i j, d i = a → d j = b → (fun k => if k = a * 4 + b then w else 0) (d i * 4 + d j) = w := by
    intro i j e1 e2
    rw [e1, e2]
    exact if_pos rfl
  rcases q with q | q | q | q <;> rcases p with p | p | p | p <;> rw [q] at x <;> rw [p] at y <;> rw [q, p]
  · rw [z 0 1 (by omega) (by omega) (by omega), z 0 2 (by omega) (by omega) (by omega), z 0 3 (by omega) (by omega) (by omega), z 1 2 (by omega) (by omega) (by omega), z 1 3 (by omega) (by omega) (by omega), z 2 3 (by omega) (by omega) (by omega), if_neg (by omega)] <;> rfl
  · rw [o 0 1 x y, z 0 2 (by omega) (by omega) (by omega), z 0 3 (by omega) (by omega) (by omega), z 1 2 (by omega) (by omega) (by omega), z 1 3 (by omega) (by omega) (by omega), z 2 3 (by omega) (by omega) (by omega), if_pos (by omega)] <;> rfl
  · rw [z 0 1 (by omega) (by omega) (by omega), o 0 2 x y, z 0 3 (by omega) (by omega) (by omega), z 1 2 (by omega) (by omega) (by omega), z 1 3 (by omega) (by omega) (by omega), z 2 3 (by omega) (by omega) (by omega), if_pos (by omega), Nat.zero_add] <;> rfl
  · rw [z 0 1 (by omega) (by omega) (by omega), z 0 2 (by omega) (by omega) (by omega), o 0 3 x y, z 1 2 (by omega) (by omega) (by omega), z 1 3 (by omega) (by omega) (by omega), z 2 3 (by omega) (by omega) (by omega), if_pos (by omega), Nat.zero_add] <;> rfl
  all_goals first
    | rw [z 0 1 (by omega) (by omega) (by omega), z 0 2 (by omega) (by omega) (by omega), z 0 3 (by omega) (by omega) (by omega), z 1 2 (by omega) (by omega) (by omega), z 1 3 (by omega) (by omega) (by omega), z 2 3 (by omega) (by omega) (by omega), if_neg (by omega)] <;> rfl
    | rw [z 0 1 (by omega) (by omega) (by omega), z 0 2 (by omega) (by omega) (by omega), z 0 3 (by omega) (by omega) (by omega), o 1 2 x y, z 1 3 (by omega) (by omega) (by omega), z 2 3 (by omega) (by omega) (by omega), if_pos (by omega), Nat.zero_add] <;> rfl
    | rw [z 0 1 (by omega) (by omega) (by omega), z 0 2 (by omega) (by omega) (by omega), z 0 3 (by omega) (by omega) (by omega), z 1 2 (by omega) (by omega) (by omega), o 1 3 x y, z 2 3 (by omega) (by omega) (by omega), if_pos (by omega), Nat.zero_add] <;> rfl
    | rw [z 0 1 (by omega) (by omega) (by omega), z 0 2 (by omega) (by omega) (by omega), z 0 3 (by omega) (by omega) (by omega), z 1 2 (by omega) (by omega) (by omega), z 1 3 (by omega) (by omega) (by omega), o 2 3 x y, if_pos (by omega), Nat.zero_add] <;> rfl
