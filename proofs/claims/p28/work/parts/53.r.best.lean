/-! ===== the reference: the best order ===== -/
theorem xAll_le {D : DR} (hw : WF D) : xAll D ≤ 20000 := by
  have hn := hw.1
  have h : xAll D ≤ dN D * 1000 := sN_le (fun r hr => by
    have : xRow D r ≤ dN D * 50 := sN_le (fun q hq => by
      have a := (hw.2.2.2 r hr).2.2.2
      have b := (hw.2.2.2 q hq).2.2.2
      unfold xW
      by_cases c : r < q ∧ crs D r q = true
      · rw [if_pos c]
        by_cases e : dW D q < dW D r
        · rw [if_pos e]; exact b
        · rw [if_neg e]; exact a
      · rw [if_neg c]; omega)
    omega)
  omega
/-- the first of the best orders so far -/
def rB (D : DR) (c : Nat) : Nat → Option Nat
  | 0 => none
  | n + 1 => if unl (dg n) = true then (match rB D c n with
    | none => some n
    | some m => if xAll (orD D c (dg n)) < xAll (orD D c (dg m)) then some n else some m) else rB D c n
def tO (o : Option Nat) : Int32 := match o with
  | none => -nI 1
  | some m => nI (tell4 (dg m))
def xO (D : DR) (c : Nat) (o : Option Nat) : Int32 := match o with
  | none => nI 0
  | some m => nI (xAll (orD D c (dg m)))
theorem tell4_lt (x : Nat) : tell4 (dg x) < 10000 := by
  have d0 := dg_lt x 0
  have d1 := dg_lt x 1
  have d2 := dg_lt x 2
  have d3 := dg_lt x 3
  unfold tell4 tl; omega
theorem rB_unl {D : DR} {c : Nat} : ∀ n m, rB D c n = some m → unl (dg m) = true
  | 0, m, h => by cases h
  | n + 1, m, h => by
    unfold rB at h
    by_cases u : unl (dg n) = true
    · rw [if_pos u] at h
      cases e : rB D c n with
      | none => rw [e] at h; cases h; exact u
      | some k =>
        rw [e] at h
        have h : (if xAll (orD D c (dg n)) < xAll (orD D c (dg k)) then some n else some k) = some m := h
        by_cases q : xAll (orD D c (dg n)) < xAll (orD D c (dg k))
        · rw [if_pos q] at h; cases h; exact u
        · rw [if_neg q] at h; exact Option.some.inj h ▸ rB_unl n k e
    · rw [if_neg u] at h
      exact rB_unl n m h
theorem r_bestStep {z a : Nat → Int32} {D E : DR} {c : Nat} (hc : c < 4) (hz : DZ z E) (hE : WF E) (hd : ∀ d, orD E c d = orD D c d) (F n : Nat) (hn : n < 256) :
    ∃ z' E', f_X7_findBestOrder_b11 (nI c) (F + 1) (tO (rB D c n)) (xO D c (rB D c n)) (nI n) z a = f_X7_findBestOrder_b11 (nI c) F (tO (rB D c (n + 1))) (xO D c (rB D c (n + 1))) (nI (n + 1)) z' a ∧ DZ z' E' ∧ WF E' ∧ ∀ d, orD E' c d = orD D c d := by
  have e0 : nI n / nI 64 = nI (dg n 0) := by
    rw [div_nI (by omega) (by omega) (by omega)]
    exact congrArg nI (by show n / 64 = n / 64 % 4; omega)
  have e1 : nI n / nI 16 - nI n / nI 16 / nI 4 * nI 4 = nI (dg n 1) := by
    rw [div_nI (by omega) (by omega) (by omega), md4 (by omega)]
    rfl
  have e2 : nI n / nI 4 - nI n / nI 4 / nI 4 * nI 4 = nI (dg n 2) := by
    rw [div_nI (by omega) (by omega) (by omega), md4 (by omega)]
    rfl
  have e3 : nI n - nI n / nI 4 * nI 4 = nI (dg n 3) := by
    rw [md4 (by omega)]
    exact congrArg nI (by show n % 4 = n / 1 % 4; rw [Nat.div_one])
  have et : nI 1000 * nI (dg n 0) + nI 100 * nI (dg n 1) + nI 10 * nI (dg n 2) + nI (dg n 3) = nI (tell4 (dg n)) := by
    rw [pk_mul, pk_mul, pk_mul, nI_step, nI_step, nI_step]
    exact congrArg nI (by unfold tell4 tl; omega)
  simp only [f_X7_findBestOrder_b11, f_X7_findBestOrder_b115, f_X7_findBestOrder_b109, fa_lit, nme]
  rw [if_neg (nle_nI (by omega) (by omega) hn), e0, e1, e2, e3, r_areUnlike (dg n) (fun i _ => dg_lt n i), et]
  simp only [bs, bI_0]
  rw [nI_step]
  by_cases u : unl (dg n) = true
  · rw [if_neg (by rw [u]; decide)]
    obtain ⟨z', p1, p2⟩ := r_putOrder hz hc (fun i _ => dg_lt n i) u
    have wo := orD_wf hE (c := c) (fun i _ => dg_lt n i) u
    have xc := r_crossings p2 wo
    have hx : xAll (orD E c (dg n)) = xAll (orD D c (dg n)) := by rw [hd]
    rw [hx] at xc
    have xl := xAll_le wo
    rw [hx] at xl
    rw [p1]
    simp only [bs]
    rw [xc]
    simp only [bs]
    refine ⟨z', orD E c (dg n), ?_, p2, wo, fun d => by rw [orD_orD, hd]⟩
    cases er : rB D c n with
    | none =>
      have e4 : rB D c (n + 1) = some n := by
        unfold rB
        rw [if_pos u, er]
      rw [e4]
      show (if -nI 1 < nI 0 then _ else _) = _
      rw [if_pos m1_lt0]
      rfl
    | some m =>
      have um := rB_unl n m er
      have wm := orD_wf hE (c := c) (fun i _ => dg_lt m i) um
      have xm := xAll_le wm
      rw [hd] at xm
      have tl := tell4_lt m
      have e4 : rB D c (n + 1) = if xAll (orD D c (dg n)) < xAll (orD D c (dg m)) then some n else some m := by
        show (if unl (dg n) = true then (match rB D c n with
          | none => some n
          | some m => if xAll (orD D c (dg n)) < xAll (orD D c (dg m)) then some n else some m) else rB D c n) = _
        rw [if_pos u, er]
      rw [e4]
      show (if nI (tell4 (dg m)) < nI 0 then _ else if nI (xAll (orD D c (dg m))) ≤ nI (xAll (orD D c (dg n))) then _ else _) = _
      rw [if_neg (nlt_nI (by omega) (by omega) (by omega))]
      by_cases q : xAll (orD D c (dg n)) < xAll (orD D c (dg m))
      · rw [if_neg (nle_nI (by omega) (by omega) q), if_pos q]
        rfl
      · rw [if_pos ((le_nI (by omega) (by omega)).mpr (by omega)), if_neg q]
  · rw [if_pos (by simpa using u)]
    have e4 : rB D c (n + 1) = rB D c n := if_neg u
    rw [e4]
    exact ⟨z, E, rfl, hz, hE, hd⟩
theorem r_findBestOrder {z a : Nat → Int32} {D : DR} {c : Nat} (hc : c < 4) (hz : DZ z D) (hw : WF D) :
    ∃ z' a', f_X7_findBestOrder (nI c) z a = some (tO (rB D c 256), z', a') ∧ DZ z' D := by
  obtain ⟨a1, e1, e2⟩ := r_putAside z a
  have h := loopI (fun F i (y : Int32 × Int32 × (Nat → Int32)) => f_X7_findBestOrder_b11 (nI c) F y.1 y.2.1 i y.2.2 a1) (fun y => Option.bind (f_X7_putBack a1 y.2.2) fun q122 => some (y.1, q122, a1))
    (fun i y => y.1 = tO (rB D c i) ∧ y.2.1 = xO D c (rB D c i) ∧ ∃ E, DZ y.2.2 E ∧ WF E ∧ ∀ d, orD E c d = orD D c d) 256 (fun F i y hi hI => ?_) (fun F y _ => ?_) 256 0 FU (-nI 1, nI 0, z) (by omega) (FU_big (by omega)) ⟨rfl, rfl, D, hz, hw, fun _ => rfl⟩
  · obtain ⟨⟨x2, x3, z'⟩, e3, e4, -, -⟩ := h
    have e4 : x2 = tO (rB D c 256) := e4
    obtain ⟨z2, e5, e6⟩ := r_putBack a1 z'
    refine ⟨z2, a1, ?_, DZ_cong hw (fun k hk => (e6 k hk).trans (e2 k hk)) hz⟩
    unfold f_X7_findBestOrder
    rw [e1]
    simp only [bs, fa_lit]
    refine Eq.trans e3 ?_
    show (Option.bind (f_X7_putBack a1 z') fun q122 => some (x2, q122, a1)) = _
    rw [e5, e4]
    simp only [bs]
  · obtain ⟨x2, x3, z⟩ := y
    obtain ⟨h1, h2, E, h3, h4, h5⟩ := hI
    have h1 : x2 = tO (rB D c i) := h1
    have h2 : x3 = xO D c (rB D c i) := h2
    obtain ⟨z', E', g1, g2, g3, g4⟩ := r_bestStep (a := a1) hc h3 h4 h5 F i hi
    refine ⟨(tO (rB D c (i + 1)), xO D c (rB D c (i + 1)), z'), ?_, rfl, rfl, E', g2, g3, g4⟩
    rw [← h1, ← h2] at g1
    exact g1
  · obtain ⟨x2, x3, z⟩ := y
    show f_X7_findBestOrder_b11 (nI c) (F + 1) x2 x3 (nI 256) z a1 = _
    simp only [f_X7_findBestOrder_b11, fa_lit]
    rw [if_pos ((le_nI (by omega) (by omega)).mpr (Nat.le_refl _))]
