/-! ===== crossings as a sum over ordered pairs ===== -/
theorem sN_swap (f : Nat → Nat → Nat) (n : Nat) : ∀ m, sN (fun r => sN (fun q => f r q) n) m = sN (fun q => sN (fun r => f r q) m) n
  | 0 => (sN_z (f := fun q => 0) (Nat.zero_le n) (fun _ _ _ => rfl)).symm
  | m + 1 => by
    show sN (fun r => sN (fun q => f r q) n) m + sN (fun q => f m q) n = sN (fun q => sN (fun r => f r q) m + f m q) n
    rw [sN_swap f n m, sN_add]
def wmin (D : DR) (r q : Nat) : Nat := if dW D q < dW D r then dW D q else dW D r
theorem wmin_comm (D : DR) (r q : Nat) : wmin D r q = wmin D q r := by
  unfold wmin
  by_cases h : dW D q < dW D r
  · rw [if_pos h, if_neg (by omega)]
  · rw [if_neg h]
    by_cases h2 : dW D r < dW D q
    · rw [if_pos h2]
    · rw [if_neg h2]; omega
/-- r begins before q and ends behind it -/
def tRQ (D : DR) (r q : Nat) : Bool := jn D q (dF D r / 4) (dG D r / 4) && decide (dP D (dF D r) < dP D (dF D q) ∧ dP D (dG D q) < dP D (dG D r))
def tW (D : DR) (r q : Nat) : Nat := if tRQ D r q = true then wmin D r q else 0
theorem jn_comm (D : DR) (r q : Nat) : jn D q (dF D r / 4) (dG D r / 4) = jn D r (dF D q / 4) (dG D q / 4) := by
  unfold jn
  by_cases h1 : dF D q / 4 = dF D r / 4
  · by_cases h2 : dG D q / 4 = dG D r / 4
    · rw [h1, h2]
    · rw [decide_eq_false h2, decide_eq_false (show ¬ dG D r / 4 = dG D q / 4 from fun e => h2 e.symm), Bool.and_false, Bool.and_false]
  · rw [decide_eq_false h1, decide_eq_false (show ¬ dF D r / 4 = dF D q / 4 from fun e => h1 e.symm), Bool.and_false, Bool.and_false, Bool.false_and, Bool.false_and]
theorem crs_t (D : DR) (r q : Nat) : crs D r q = (tRQ D r q || tRQ D q r) := by
  unfold crs tRQ
  rw [jn_comm D q r]
  cases jn D q (dF D r / 4) (dG D r / 4)
  · rfl
  · rw [Bool.true_and, Bool.true_and, Bool.true_and]
theorem tRQ_one {D : DR} {r q : Nat} (h : tRQ D r q = true) : tRQ D q r = false := by
  unfold tRQ at h ⊢
  rw [Bool.and_eq_true] at h
  have h2 := of_decide_eq_true h.2
  rw [decide_eq_false (by omega), Bool.and_false]
theorem tRQ_self (D : DR) (r : Nat) : tRQ D r r = false := by
  unfold tRQ
  rw [decide_eq_false (by omega), Bool.and_false]
theorem xW_t (D : DR) (r q : Nat) : xW D r q = if r < q then tW D r q + tW D q r else 0 := by
  unfold xW
  by_cases h : r < q
  · rw [if_pos h, crs_t]
    unfold tW
    by_cases a : tRQ D r q = true
    · have b := tRQ_one a
      rw [if_pos ⟨h, by rw [a]; rfl⟩, if_pos a, if_neg (show ¬ tRQ D q r = true by rw [b]; decide)]; rfl
    · have a' : tRQ D r q = false := by simpa using a
      by_cases b : tRQ D q r = true
      · rw [if_pos ⟨h, by rw [a', b]; rfl⟩, if_neg a, if_pos b, wmin_comm D q r, Nat.zero_add]; rfl
      · have b' : tRQ D q r = false := by simpa using b
        rw [if_neg (fun h => by rw [a', b'] at h; exact absurd h.2 (by decide)), if_neg a, if_neg b]
  · rw [if_neg (fun x => h x.1), if_neg h]
/-- both halves of a square make the whole, if the middle is empty -/
theorem half_sum (t : Nat → Nat → Nat) (h : ∀ r, t r r = 0) (n : Nat) : sN (fun r => sN (fun q => if r < q then t r q + t q r else 0) n) n = sN (fun r => sN (fun q => t r q) n) n := by
  have e1 : sN (fun r => sN (fun q => if r < q then t r q + t q r else 0) n) n = sN (fun r => sN (fun q => if r < q then t r q else 0) n) n + sN (fun r => sN (fun q => if r < q then t q r else 0) n) n := by
    rw [← sN_add]
    refine sN_cong (fun r _ => ?_)
    rw [← sN_add]
    refine sN_cong (fun q _ => ?_)
    by_cases c : r < q
    · rw [if_pos c, if_pos c, if_pos c]
    · rw [if_neg c, if_neg c, if_neg c]
  have e2 : sN (fun r => sN (fun q => if r < q then t q r else 0) n) n = sN (fun r => sN (fun q => if q < r then t r q else 0) n) n := sN_swap (fun r q => if r < q then t q r else 0) n n
  rw [e1, e2, ← sN_add]
  refine sN_cong (fun r _ => ?_)
  rw [← sN_add]
  refine sN_cong (fun q _ => ?_)
  by_cases c : r < q
  · rw [if_pos c, if_neg (by omega), Nat.add_zero]
  · rw [if_neg c, Nat.zero_add]
    by_cases c2 : q < r
    · rw [if_pos c2]
    · have e : r = q := by omega
      rw [if_neg c2, e, h q]
theorem xAll_t (D : DR) : xAll D = sN (fun r => sN (fun q => tW D r q) (dN D)) (dN D) := by
  rw [← half_sum (tW D) (fun r => by unfold tW; rw [if_neg (by rw [tRQ_self]; decide)]) (dN D)]
  exact sN_cong (fun r _ => sN_cong (fun q _ => xW_t D r q))
