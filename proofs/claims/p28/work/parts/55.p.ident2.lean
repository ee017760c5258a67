/-! ===== the identity of costs ===== -/
theorem cR_cong {C E d : Nat → Nat} (hd : ∀ i, i < 4 → d i < 4) (h : ∀ k, k < 16 → C k = E k) : cR C d = cR E d := by
  have d0 := hd 0 (by omega)
  have d1 := hd 1 (by omega)
  have d2 := hd 2 (by omega)
  have d3 := hd 3 (by omega)
  unfold cR
  rw [h _ (by omega), h _ (by omega), h _ (by omega), h _ (by omega), h _ (by omega), h _ (by omega)]
theorem cR_sN (f : Nat → Nat → Nat) (d : Nat → Nat) (n : Nat) : cR (fun k => sN (fun r => f r k) n) d = sN (fun r => cR (f r) d) n := by
  unfold cR
  rw [sN_add, sN_add, sN_add, sN_add, sN_add]
theorem cR_add (f g : Nat → Nat) (d : Nat → Nat) : cR (fun k => f k + g k) d = cR f d + cR g d := by
  unfold cR
  show f _ + g _ + (f _ + g _) + (f _ + g _) + (f _ + g _) + (f _ + g _) + (f _ + g _) = _
  omega
theorem cR_z (d : Nat → Nat) : cR (fun _ => 0) d = 0 := rfl
theorem cR_k1 {D : DR} {c : Nat} {d : Nat → Nat} (hd : ∀ i, i < 4 → d i < 4) (hu : unl d = true) (r q : Nat) : cR (k1 D c r q) d = b1 D c d r q := by
  unfold b1
  by_cases h : jq D r q = true ∧ dF D r / 4 = c ∧ dP D (dG D q) < dP D (dG D r)
  · obtain ⟨j1, j2, j3⟩ := jn_cols h.1
    have e : cR (k1 D c r q) d = cR (fun k => if k = dF D r % 4 * 4 + dF D q % 4 then wmin D r q else 0) d := cR_cong hd (fun k hk => by
      unfold k1
      by_cases i : k = dF D r % 4 * 4 + dF D q % 4
      · rw [if_pos i, if_pos ⟨h.1, h.2.2, by omega, by omega⟩]
      · rw [if_neg i, if_neg (fun x => i (by omega))])
    rw [e, cR_one hd hu (by omega) (by omega)]
    by_cases l : ps d (dF D r % 4) < ps d (dF D q % 4)
    · rw [if_pos l, if_pos ⟨h.1, h.2.1, l, h.2.2⟩]
    · rw [if_neg l, if_neg (fun x => l x.2.2.1)]
  · rw [if_neg (fun x => h ⟨x.1, x.2.1, x.2.2.2⟩)]
    refine (cR_cong hd (fun k hk => ?_)).trans (cR_z d)
    exact if_neg (fun x => h ⟨x.1, by omega, x.2.1⟩)
theorem cR_k2 {D : DR} {c : Nat} {d : Nat → Nat} (hd : ∀ i, i < 4 → d i < 4) (hu : unl d = true) (r q : Nat) : cR (k2 D c r q) d = b2 D c d q r := by
  have jc : jq D q r = jq D r q := (jn_comm D r q).symm
  unfold b2
  by_cases h : jq D r q = true ∧ dG D r / 4 = c ∧ dP D (dF D q) < dP D (dF D r)
  · obtain ⟨j1, j2, j3⟩ := jn_cols h.1
    have e : cR (k2 D c r q) d = cR (fun k => if k = dG D r % 4 * 4 + dG D q % 4 then wmin D r q else 0) d := cR_cong hd (fun k hk => by
      unfold k2
      by_cases i : k = dG D r % 4 * 4 + dG D q % 4
      · rw [if_pos i, if_pos ⟨h.1, h.2.2, by omega, by omega⟩]
      · rw [if_neg i, if_neg (fun x => i (by omega))])
    rw [e, cR_one hd hu (by omega) (by omega)]
    by_cases l : ps d (dG D r % 4) < ps d (dG D q % 4)
    · rw [if_pos l, if_pos ⟨jc.trans h.1, by omega, h.2.2, l⟩, wmin_comm]
    · rw [if_neg l, if_neg (fun x => l x.2.2.2)]
  · rw [if_neg (fun x => by
      have a := jc.symm.trans x.1
      obtain ⟨j1, j2, j3⟩ := jn_cols a
      exact h ⟨a, by omega, x.2.2.1⟩)]
    refine (cR_cong hd (fun k hk => ?_)).trans (cR_z d)
    exact if_neg (fun x => h ⟨x.1, by omega, x.2.1⟩)
/-- what does not depend on the order of the column -/
def cst (D : DR) (c : Nat) : Nat := sN (fun r => sN (fun q => aRQ D c r q) (dN D)) (dN D)
theorem cost_id {D : DR} {c : Nat} {d : Nat → Nat} (hd : ∀ i, i < 4 → d i < 4) (hu : unl d = true) : xAll (orD D c d) = cst D c + cR (cK D c) d := by
  have e1 : xAll (orD D c d) = cst D c + (sN (fun r => sN (fun q => b1 D c d r q) (dN D)) (dN D) + sN (fun r => sN (fun q => b2 D c d r q) (dN D)) (dN D)) := by
    rw [xAll_t]
    show sN (fun r => sN (fun q => tW (orD D c d) r q) (dN D)) (dN D) = _
    unfold cst
    rw [← sN_add, ← sN_add]
    refine sN_cong (fun r _ => ?_)
    rw [← sN_add, ← sN_add]
    exact sN_cong (fun q _ => tW_or D c d r q)
  have e2 : cR (cK D c) d = sN (fun r => sN (fun q => b1 D c d r q) (dN D)) (dN D) + sN (fun r => sN (fun q => b2 D c d q r) (dN D)) (dN D) := by
    have s1 : cR (cK D c) d = sN (fun r => cR (fun k => sN (fun q => k1 D c r q k + k2 D c r q k) (dN D)) d) (dN D) := cR_sN (fun r k => sN (fun q => k1 D c r q k + k2 D c r q k) (dN D)) d (dN D)
    rw [s1, ← sN_add]
    refine sN_cong (fun r _ => ?_)
    rw [cR_sN (fun q k => k1 D c r q k + k2 D c r q k) d (dN D), ← sN_add]
    refine sN_cong (fun q _ => ?_)
    rw [cR_add (k1 D c r q) (k2 D c r q) d, cR_k1 hd hu, cR_k2 hd hu]
  have e3 : sN (fun r => sN (fun q => b2 D c d q r) (dN D)) (dN D) = sN (fun r => sN (fun q => b2 D c d r q) (dN D)) (dN D) := sN_swap (fun r q => b2 D c d q r) (dN D) (dN D)
  rw [e1, e2, e3]
