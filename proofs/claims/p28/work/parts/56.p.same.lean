/-! ===== both find the same best order ===== -/
theorem cR_le {D : DR} (hw : WF D) {c : Nat} {d : Nat → Nat} (hd : ∀ i, i < 4 → d i < 4) (hu : unl d = true) : cR (cK D c) d ≤ 20000 := by
  have h := cost_id (D := D) (c := c) hd hu
  have l := xAll_le (orD_wf hw (c := c) hd hu)
  omega
theorem bV_le {D : DR} (hw : WF D) (c x : Nat) : bV D c x ≤ 1000000 := by
  unfold bV
  by_cases u : unl (dg x) = true
  · rw [if_pos u]
    have := cR_le hw (c := c) (fun i _ => dg_lt x i) u
    omega
  · rw [if_neg u]; omega
theorem best_same {D : DR} (hw : WF D) (c : Nat) : ∀ n, (rB D c n = none ∧ (bS (bV D c) n).1 = 1000000) ∨ (rB D c n = some (bS (bV D c) n).2 ∧ (bS (bV D c) n).1 = cR (cK D c) (dg (bS (bV D c) n).2) ∧ unl (dg (bS (bV D c) n).2) = true)
  | 0 => Or.inl ⟨rfl, rfl⟩
  | n + 1 => by
    have ih := best_same hw c n
    by_cases u : unl (dg n) = true
    · have v : bV D c n = cR (cK D c) (dg n) := if_pos u
      have l := cR_le hw (c := c) (fun i _ => dg_lt n i) u
      have e1 := cost_id (D := D) (c := c) (fun i _ => dg_lt n i) u
      have er : rB D c (n + 1) = (match rB D c n with
        | none => some n
        | some m => if xAll (orD D c (dg n)) < xAll (orD D c (dg m)) then some n else some m) := if_pos u
      have eb : bS (bV D c) (n + 1) = if bV D c n < (bS (bV D c) n).1 then (bV D c n, n) else bS (bV D c) n := rfl
      rcases ih with ⟨i1, i2⟩ | ⟨i1, i2, i3⟩
      · right
        rw [if_pos (by omega)] at eb
        rw [i1] at er
        rw [eb, er]
        exact ⟨rfl, v, u⟩
      · right
        rw [i1] at er
        have er : rB D c (n + 1) = if xAll (orD D c (dg n)) < xAll (orD D c (dg (bS (bV D c) n).2)) then some n else some (bS (bV D c) n).2 := er
        have e2 := cost_id (D := D) (c := c) (fun i _ => dg_lt (bS (bV D c) n).2 i) i3
        by_cases q : bV D c n < (bS (bV D c) n).1
        · rw [if_pos q] at eb
          rw [if_pos (by omega)] at er
          rw [eb, er]
          exact ⟨rfl, v, u⟩
        · rw [if_neg q] at eb
          rw [if_neg (by omega)] at er
          rw [eb, er]
          exact ⟨rfl, i2, i3⟩
    · have v : bV D c n = 1000000 := if_neg u
      have l := bS_le (bV D c) n
      have er : rB D c (n + 1) = rB D c n := if_neg u
      have eb : bS (bV D c) (n + 1) = bS (bV D c) n := if_neg (by omega)
      rw [er, eb]
      exact ih
theorem best_found {D : DR} (hw : WF D) (c : Nat) : rB D c 256 = some (bS (bV D c) 256).2 ∧ (bS (bV D c) 256).1 < 1000000 ∧ unl (dg (bS (bV D c) 256).2) = true := by
  have m := bS_min (bV D c) 256 27 (by omega)
  have u : unl (dg 27) = true := by decide +kernel
  have l := cR_le hw (c := c) (fun i _ => dg_lt 27 i) u
  have v : bV D c 27 = cR (cK D c) (dg 27) := if_pos u
  rcases best_same hw c 256 with ⟨i1, i2⟩ | ⟨i1, i2, i3⟩
  · exfalso
    rw [v] at m
    omega
  · refine ⟨i1, ?_, i3⟩
    rw [v] at m
    omega
/-- the best order of the column c -/
def bO (D : DR) (c : Nat) : Nat → Nat := dg (bS (bV D c) 256).2
theorem bO_ok {D : DR} (hw : WF D) (c : Nat) : (∀ i, i < 4 → bO D c i < 4) ∧ unl (bO D c) = true := ⟨fun i _ => dg_lt _ i, (best_found hw c).2.2⟩
theorem p_best {pl fr to wd : Nat → Int32} {D : DR} (hp : RR pl (dP D) 16) (hf : RR fr (dF D) (dN D)) (hg : RR to (dG D) (dN D)) (hd : RR wd (dW D) (dN D)) (hw : WF D) {c : Nat} (hc : c < 4) (row best co : Nat → Int32) :
    ∃ row' best' co', f_X2_findBest pl fr to wd (nI (dN D)) (nI c) row best co = some (row', best', co') ∧ ∀ i, i < 4 → best' i = nI (bO D c i) := by
  obtain ⟨r, b, k, e1, e2⟩ := p_findBest hp hf hg hd hw hc (fun x _ => bV_le hw c x) row best co
  exact ⟨r, b, k, e1, e2 (best_found hw c).2.1⟩
theorem r_best {z a : Nat → Int32} {D : DR} {c : Nat} (hc : c < 4) (hz : DZ z D) (hw : WF D) : ∃ z' a', f_X7_findBestOrder (nI c) z a = some (nI (tell4 (bO D c)), z', a') ∧ DZ z' D := by
  obtain ⟨z', a', e1, e2⟩ := r_findBestOrder (a := a) hc hz hw
  rw [(best_found hw c).1] at e1
  exact ⟨z', a', e1, e2⟩
