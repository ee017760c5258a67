/-! ===== the class: the best order ===== -/
def dg (x i : Nat) : Nat := x / 4 ^ (3 - i) % 4
theorem dg_lt (x i : Nat) : dg x i < 4 := Nat.mod_lt _ (by omega)
theorem unpackD : ∀ x, x < 256 → ∀ i, i < 4 → (nI x >>> ((nI 2 * (nI 3 - nI i)) &&& nI 31)) &&& nI 3 = nI (x / 4 ^ (3 - i) % 4) := by decide +kernel
def bV (D : DR) (c x : Nat) : Nat := if unl (dg x) = true then cR (cK D c) (dg x) else 1000000
/-- the least so far, and the code of the first that costs so little -/
def bS (f : Nat → Nat) : Nat → Nat × Nat
  | 0 => (1000000, 0)
  | n + 1 => if f n < (bS f n).1 then (f n, n) else bS f n
theorem bS_le (f : Nat → Nat) : ∀ n, (bS f n).1 ≤ 1000000
  | 0 => Nat.le_refl _
  | n + 1 => by
    have := bS_le f n
    unfold bS
    by_cases h : f n < (bS f n).1
    · rw [if_pos h]; show f n ≤ _; omega
    · rw [if_neg h]; exact this
theorem bS_min (f : Nat → Nat) : ∀ n x, x < n → (bS f n).1 ≤ f x
  | 0, x, h => absurd h (by omega)
  | n + 1, x, h => by
    unfold bS
    by_cases c : f n < (bS f n).1
    · rw [if_pos c]
      show f n ≤ f x
      by_cases e : x = n
      · rw [e]; omega
      · have := bS_min f n x (by omega); omega
    · rw [if_neg c]
      by_cases e : x = n
      · rw [e]; omega
      · exact bS_min f n x (by omega)
theorem p_findBest {pl fr to wd : Nat → Int32} {D : DR} (hp : RR pl (dP D) 16) (hf : RR fr (dF D) (dN D)) (hg : RR to (dG D) (dN D)) (hd : RR wd (dW D) (dN D)) (hw : WF D) {c : Nat} (hc : c < 4) (hb : ∀ x, x < 256 → bV D c x ≤ 1000000) (row best co : Nat → Int32) :
    ∃ row' best' co', f_X2_findBest pl fr to wd (nI (dN D)) (nI c) row best co = some (row', best', co') ∧ ((bS (bV D c) 256).1 < 1000000 → ∀ i, i < 4 → best' i = nI (dg (bS (bV D c) 256).2 i)) := by
  obtain ⟨co1, e0, h0⟩ := p_findCosts hp hf hg hd hw hc co
  have h := loopI (fun F i (y : Int32 × (Nat → Int32) × (Nat → Int32)) => f_X2_findBest_b12 pl fr to wd (nI (dN D)) (nI c) F y.1 i y.2.1 y.2.2 co1) (fun y => some (y.2.1, y.2.2, co1))
    (fun i y => y.1 = nI (bS (bV D c) i).1 ∧ ((bS (bV D c) i).1 < 1000000 → ∀ k, k < 4 → y.2.2 k = nI (dg (bS (bV D c) i).2 k))) 256
    (fun F i y hi hI => ?_) (fun F y _ => ?_) 256 0 FU (nI 1000000, row, best) (by omega) (FU_big (by omega)) ⟨rfl, fun h => absurd h (Nat.lt_irrefl _)⟩
  · obtain ⟨⟨l, row', best'⟩, e1, -, e2⟩ := h
    refine ⟨row', best', co1, ?_, e2⟩
    unfold f_X2_findBest
    rw [e0]
    simp only [bs, fa_lit]
    exact e1
  · obtain ⟨l, row, best⟩ := y
    obtain ⟨hl, hB⟩ := hI
    have hl : l = nI (bS (bV D c) i).1 := hl
    have g := loopI (fun G j r => f_X2_findBest_b23 pl fr to wd (nI (dN D)) (nI c) (f_X2_findBest_b12 pl fr to wd (nI (dN D)) (nI c) F) G l (nI i) j r best co1)
      (fun r => f_X2_findBest_b23 pl fr to wd (nI (dN D)) (nI c) (f_X2_findBest_b12 pl fr to wd (nI (dN D)) (nI c) F) 1 l (nI i) (nI 4) r best co1)
      (fun j r => ∀ k, k < j → r k = nI (dg i k)) 4 (fun G j r hj hJ => ⟨upd r j (nI (dg i j)), ?_, fun k hk => ?_⟩) (fun G r hJ => ?_) 4 0 FU row (by omega) (FU_big (by omega)) (fun k hk => by omega)
    · obtain ⟨r, e1, e2⟩ := g
      have cst := p_costOfRow (d := dg i) e2 (fun k _ => dg_lt i k) h0
      have bl := bS_le (bV D c) i
      have bb := hb i hi
      have e3 : f_X2_findBest_b12 pl fr to wd (nI (dN D)) (nI c) (F + 1) l (nI i) row best co1 = f_X2_findBest_b23 pl fr to wd (nI (dN D)) (nI c) (f_X2_findBest_b12 pl fr to wd (nI (dN D)) (nI c) F) 1 l (nI i) (nI 4) r best co1 := by
        refine Eq.trans ?_ e1
        simp only [f_X2_findBest_b12, fa_lit]
        rw [if_neg (nle_nI (by omega) (by omega) hi)]
      have e4 : f_X2_findBest_b23 pl fr to wd (nI (dN D)) (nI c) (f_X2_findBest_b12 pl fr to wd (nI (dN D)) (nI c) F) 1 l (nI i) (nI 4) r best co1 = if nI (bS (bV D c) i).1 ≤ nI (bV D c i) then f_X2_findBest_b12 pl fr to wd (nI (dN D)) (nI c) F l (nI (i + 1)) r best co1 else f_X2_findBest_b12 pl fr to wd (nI (dN D)) (nI c) F (nI (bV D c i)) (nI (i + 1)) r (va_cpy r best 0 0 4) co1 := by
        simp only [f_X2_findBest_b23, f_X2_findBest_b82, fa_lit, nme]
        rw [if_pos ((le_nI (by omega) (by omega)).mpr (Nat.le_refl _)), cst]
        simp only [bs]
        rw [nI_step, z0, cl_nI (by omega), hl]
        rfl
      by_cases q : bV D c i < (bS (bV D c) i).1
      · refine ⟨(nI (bV D c i), r, va_cpy r best 0 0 4), ?_, ?_⟩
        · refine e3.trans (e4.trans ?_)
          rw [if_neg (nle_nI (by omega) (by omega) q)]
        · have e5 : bS (bV D c) (i + 1) = (bV D c i, i) := if_pos q
          rw [e5]
          refine ⟨rfl, fun _ k hk => ?_⟩
          show va_cpy r best 0 0 4 k = _
          rw [cpy_in hk]
          exact e2 k hk
      · refine ⟨(l, r, best), ?_, ?_⟩
        · refine e3.trans (e4.trans ?_)
          rw [if_pos ((le_nI (by omega) (by omega)).mpr (by omega))]
        · have e5 : bS (bV D c) (i + 1) = bS (bV D c) i := if_neg q
          rw [e5]
          exact ⟨hl, hB⟩
    · show f_X2_findBest_b23 pl fr to wd (nI (dN D)) (nI c) _ (G + 1) l (nI i) (nI j) r best co1 = _
      simp only [f_X2_findBest_b23, fa_lit, nme]
      rw [if_neg (nle_nI (by omega) (by omega) hj), unpackD i hi j hj, if_pos (gd_nI hj (by omega)), cl_nI (by omega), nI_step]
      rfl
    · by_cases q : k = j
      · rw [q, upd_q]
      · rw [upd_w q]; exact hJ k (by omega)
    · show f_X2_findBest_b23 pl fr to wd (nI (dN D)) (nI c) _ (G + 1) l (nI i) (nI 4) r best co1 = _
      simp only [f_X2_findBest_b23, fa_lit]
      rw [if_pos ((le_nI (by omega) (by omega)).mpr (Nat.le_refl _)), if_pos ((le_nI (by omega) (by omega)).mpr (Nat.le_refl _))]
  · obtain ⟨l, row, best⟩ := y
    show f_X2_findBest_b12 pl fr to wd (nI (dN D)) (nI c) (F + 1) l (nI 256) row best co1 = _
    simp only [f_X2_findBest_b12, fa_lit]
    rw [if_pos ((le_nI (by omega) (by omega)).mpr (Nat.le_refl _))]
