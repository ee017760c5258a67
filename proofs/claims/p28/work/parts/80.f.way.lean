/-! ===== ways: the look for a way ===== -/
def CLr (D : DR) (f : Nat → Nat) (n : Nat) (Q : Nat → Nat) (h r : Nat) : Prop := ∀ r', r' < r → ∀ q, nx D f (Q h) r' = some q → ∃ k, k < n ∧ Q k = q
def CL (D : DR) (f : Nat → Nat) (n : Nat) (Q : Nat → Nat) (h : Nat) : Prop := ∀ j, j < h → CLr D f n Q j (dN D)
theorem CLr_add {D : DR} {f : Nat → Nat} {n h r q : Nat} {Q : Nat → Nat} (hh : h < n) (hc : CLr D f n Q h r) : CLr D f (n + 1) (fun k => if k = n then q else Q k) h r := by
  intro r' hr' x hx
  dsimp only at hx
  rw [if_neg (by omega)] at hx
  obtain ⟨k, h1, h2⟩ := hc r' hr' x hx
  refine ⟨k, by omega, ?_⟩
  dsimp only
  rw [if_neg (by omega)]
  exact h2
/-- a way is found: the post where it ends, and how it is reached -/
def FD (D : DR) (f : Nat → Nat) (res : Option (Int32 × (Nat → Int32) × (Nat → Int32))) : Prop :=
  ∃ (e n : Nat) (Q : Nat → Nat) (rb qu : Nat → Int32) (i r : Nat), res = some (nI e, upd rb e (nI r), qu) ∧ 12 ≤ e ∧ e < 16 ∧ BF D f n Q rb qu ∧ r < dN D ∧ i < n ∧ nx D f (Q i) r = some e
theorem oI_m2 (o : Option Nat) (h : ∀ q, o = some q → q < 16) : f_X6_isPost (oI o) = some (bI (decide (o ≠ none))) := by
  cases o with
  | none =>
    unfold f_X6_isPost
    simp only [fa_lit]
    rw [if_pos (show oI none < nI 0 by decide)]
    rfl
  | some q =>
    have := h q rfl
    show f_X6_isPost (nI q) = _
    rw [p_isPost (by omega), decide_eq_true this]
    rfl
theorem p_ribLoop {nu fr to wd : Nat → Int32} {D : DR} {f : Nat → Nat} (hf : RR fr (dF D) (dN D)) (hg : RR to (dG D) (dN D)) (hd : RR wd (dW D) (dN D)) (hw : WF D) (hu : RR nu f (dN D)) (hl : FL D f)
    (K43 : Int32 → Int32 → (Nat → Int32) → (Nat → Int32) → Option (Int32 × (Nat → Int32) × (Nat → Int32))) {h : Nat} :
    ∀ (k r F n : Nat) (Q : Nat → Nat) (rb qu : Nat → Int32), r + k = dN D → k < F → BF D f n Q rb qu → h < n → CLr D f n Q h r → CL D f n Q h →
      (∃ (n' : Nat) (Q' : Nat → Nat) (rb' qu' : Nat → Int32), f_X5_findWay_b57 nu fr to wd (nI (dN D)) K43 F (nI n) (nI h) (nI r) rb qu = K43 (nI n') (nI (h + 1)) rb' qu' ∧ BF D f n' Q' rb' qu' ∧ n ≤ n' ∧ CL D f n' Q' (h + 1)) ∨
      FD D f (f_X5_findWay_b57 nu fr to wd (nI (dN D)) K43 F (nI n) (nI h) (nI r) rb qu) := by
  have hn20 := hw.1
  intro k
  induction k with
  | zero =>
    intro r F n Q rb qu hr hF hB hh hc hC
    cases F with
    | zero => omega
    | succ F =>
      have e : r = dN D := by omega
      subst e
      refine Or.inl ⟨n, Q, rb, qu, ?_, hB, Nat.le_refl _, fun j hj => ?_⟩
      · simp only [f_X5_findWay_b57, fa_lit, nme]
        rw [if_pos ((le_nI (by omega) (by omega)).mpr (Nat.le_refl _)), nI_step]
      · by_cases c : j = h
        · subst c; exact hc
        · exact hC j (by omega)
  | succ k ih =>
    intro r F n Q rb qu hr hF hB hh hc hC
    cases F with
    | zero => omega
    | succ F =>
      have hrn : r < dN D := by omega
      have h12 := BF_n hB
      obtain ⟨b1, b2, b3, b4, b5, b6⟩ := id hB
      obtain ⟨q1, q2⟩ := b2 h hh
      have hnx := p_nextPost hf hg hd hw hu hl (show Q h < 16 by omega) hrn
      have hlt := fun q (e : nx D f (Q h) r = some q) => nx_lt hw hrn e
      have hip := oI_m2 (nx D f (Q h) r) hlt
      have step : (∀ q, nx D f (Q h) r = some q → ∃ k, k < n ∧ Q k = q) → CLr D f n Q h (r + 1) := by
        intro hs r' hr' q hq
        by_cases c : r' = r
        · subst c; exact hs q hq
        · exact hc r' (by omega) q hq
      have skip : f_X5_findWay_b57 nu fr to wd (nI (dN D)) K43 (F + 1) (nI n) (nI h) (nI r) rb qu = f_X5_findWay_b57 nu fr to wd (nI (dN D)) K43 F (nI n) (nI h) (nI (r + 1)) rb qu → (∀ q, nx D f (Q h) r = some q → ∃ k, k < n ∧ Q k = q) →
          (∃ (n' : Nat) (Q' : Nat → Nat) (rb' qu' : Nat → Int32), f_X5_findWay_b57 nu fr to wd (nI (dN D)) K43 (F + 1) (nI n) (nI h) (nI r) rb qu = K43 (nI n') (nI (h + 1)) rb' qu' ∧ BF D f n' Q' rb' qu' ∧ n ≤ n' ∧ CL D f n' Q' (h + 1)) ∨
          FD D f (f_X5_findWay_b57 nu fr to wd (nI (dN D)) K43 (F + 1) (nI n) (nI h) (nI r) rb qu) := by
        intro e hs
        rw [e]
        exact ih (r + 1) F n Q rb qu (by omega) (by omega) hB hh (step hs) hC
      have unf : f_X5_findWay_b57 nu fr to wd (nI (dN D)) K43 (F + 1) (nI n) (nI h) (nI r) rb qu = (if decide (nx D f (Q h) r ≠ none) = false then f_X5_findWay_b57 nu fr to wd (nI (dN D)) K43 F (nI n) (nI h) (nI (r + 1)) rb qu else if gd (oI (nx D f (Q h) r)) 16 = true then (if rb (oI (nx D f (Q h) r)).toNatClampNeg = -nI 2 then (if oI (nx D f (Q h) r) < nI 12 then (f_X5_findWay_b57 nu fr to wd (nI (dN D)) K43 F (nI (n + 1)) (nI h) (nI (r + 1)) (upd rb (oI (nx D f (Q h) r)).toNatClampNeg (nI r)) (upd qu n (oI (nx D f (Q h) r)))) else some (oI (nx D f (Q h) r), upd rb (oI (nx D f (Q h) r)).toNatClampNeg (nI r), qu)) else f_X5_findWay_b57 nu fr to wd (nI (dN D)) K43 F (nI n) (nI h) (nI (r + 1)) rb qu) else none) := by
        simp only [f_X5_findWay_b57, f_X5_findWay_b137, fa_lit, nme]
        rw [if_neg (nle_nI (by omega) (by omega) hrn), if_pos (gd_nI (by omega) (by omega)), cl_nI (by omega), q1, hnx]
        simp only [bs]
        rw [hip]
        simp only [bs, bI_0]
        rw [if_neg (nle_nI (by omega) (by omega) (show n < 16 by omega)), if_pos (gd_nI (show n < 16 by omega) (by omega)), nI_step, nI_step, cl_nI (show n < 2147483648 by omega)]
        by_cases c1 : decide (nx D f (Q h) r ≠ none) = false
        · rw [if_pos c1, if_pos c1]
        · rw [if_neg c1, if_neg c1]
          by_cases c2 : gd (oI (nx D f (Q h) r)) 16 = true
          · rw [if_pos c2, if_pos c2, if_pos c2]
          · rw [if_neg c2, if_neg c2]
      cases hv : nx D f (Q h) r with
      | none =>
        refine skip ?_ (fun q e => by rw [hv] at e; cases e)
        rw [unf, hv, if_pos (by decide)]
      | some q =>
        have hq := hlt q hv
        have unf2 : f_X5_findWay_b57 nu fr to wd (nI (dN D)) K43 (F + 1) (nI n) (nI h) (nI r) rb qu = (if rb q = -nI 2 then (if nI q < nI 12 then f_X5_findWay_b57 nu fr to wd (nI (dN D)) K43 F (nI (n + 1)) (nI h) (nI (r + 1)) (upd rb q (nI r)) (upd qu n (nI q)) else some (nI q, upd rb q (nI r), qu)) else f_X5_findWay_b57 nu fr to wd (nI (dN D)) K43 F (nI n) (nI h) (nI (r + 1)) rb qu) := by
          rw [unf, hv, oI_s, if_neg (by simp), if_pos (gd_nI hq (by omega)), cl_nI (by omega)]
        by_cases c : ∃ k, k < n ∧ Q k = q
        · refine skip ?_ (fun x e => by
            rw [hv] at e
            have e2 : q = x := Option.some.inj e
            rw [← e2]
            exact c)
          obtain ⟨j, hj, hjq⟩ := c
          have hrb := BF_rb hB hj hn20
          rw [hjq] at hrb
          rw [unf2, if_neg hrb]
        · have hnew : ∀ j, j < n → Q j ≠ q := fun j hj e => c ⟨j, hj, e⟩
          rw [unf2, if_pos (b5 q hq hnew)]
          by_cases c3 : q < 12
          · rw [if_pos ((lt_nI (by omega) (by omega)).mpr c3)]
            have hB' := BF_add hB c3 hnew hrn hh hv
            have hres := ih (r + 1) F (n + 1) _ _ _ (by omega) (by omega) hB' (by omega) ?_ (fun j hj => CLr_add (by omega) (hC j hj))
            · rcases hres with ⟨n', Q', rb', qu', g1, g2, g3, g4⟩ | g
              · exact Or.inl ⟨n', Q', rb', qu', g1, g2, by omega, g4⟩
              · exact Or.inr g
            · intro r' hr' x hx
              by_cases d : r' = r
              · subst d
                dsimp only at hx
                rw [if_neg (by omega), hv] at hx
                have e2 : q = x := Option.some.inj hx
                refine ⟨n, by omega, ?_⟩
                dsimp only
                rw [if_pos rfl]
                exact e2
              · exact CLr_add hh hc r' (by omega) x hx
          · rw [if_neg (nlt_nI (by omega) (by omega) (by omega))]
            exact Or.inr ⟨q, n, Q, rb, qu, h, r, rfl, by omega, hq, hB, hrn, hh, hv⟩
theorem p_headLoop {nu fr to wd : Nat → Int32} {D : DR} {f : Nat → Nat} (hf : RR fr (dF D) (dN D)) (hg : RR to (dG D) (dN D)) (hd : RR wd (dW D) (dN D)) (hw : WF D) (hu : RR nu f (dN D)) (hl : FL D f) :
    ∀ (k h F n : Nat) (Q : Nat → Nat) (rb qu : Nat → Int32), h + k = 13 → k < F → BF D f n Q rb qu → h ≤ n → CL D f n Q h →
      (∃ (n' : Nat) (Q' : Nat → Nat) (rb' qu' : Nat → Int32), f_X5_findWay_b43 nu fr to wd (nI (dN D)) F (nI n) (nI h) rb qu = some (-nI 1, rb', qu') ∧ BF D f n' Q' rb' qu' ∧ CL D f n' Q' n') ∨
      FD D f (f_X5_findWay_b43 nu fr to wd (nI (dN D)) F (nI n) (nI h) rb qu) := by
  have hn20 := hw.1
  intro k
  induction k with
  | zero =>
    intro h F n Q rb qu hh hF hB hn hC
    have := BF_n hB
    omega
  | succ k ih =>
    intro h F n Q rb qu hh hF hB hn hC
    have h12 := BF_n hB
    cases F with
    | zero => omega
    | succ F =>
      by_cases c : h = n
      · subst c
        refine Or.inl ⟨h, Q, rb, qu, ?_, hB, hC⟩
        simp only [f_X5_findWay_b43, fa_lit]
        rw [if_pos ((le_nI (by omega) (by omega)).mpr (Nat.le_refl _))]
      · have unf : f_X5_findWay_b43 nu fr to wd (nI (dN D)) (F + 1) (nI n) (nI h) rb qu = f_X5_findWay_b57 nu fr to wd (nI (dN D)) (f_X5_findWay_b43 nu fr to wd (nI (dN D)) F) FU (nI n) (nI h) (nI 0) rb qu := by
          simp only [f_X5_findWay_b43, fa_lit]
          rw [if_neg (nle_nI (by omega) (by omega) (by omega)), if_neg (nle_nI (by omega) (by omega) (by omega))]
        rw [unf]
        rcases p_ribLoop hf hg hd hw hu hl (f_X5_findWay_b43 nu fr to wd (nI (dN D)) F) (dN D) 0 FU n Q rb qu (by omega) (FU_big (by omega)) hB (show h < n by omega) (fun r' hr' => by omega) hC with ⟨n', Q', rb', qu', g1, g2, g3, g4⟩ | g
        · rw [g1]
          exact ih (h + 1) F n' Q' rb' qu' (by omega) (by omega) g2 (by omega) g4
        · exact Or.inr g
theorem p_findWay {nu fr to wd : Nat → Int32} {D : DR} {f : Nat → Nat} (hf : RR fr (dF D) (dN D)) (hg : RR to (dG D) (dN D)) (hd : RR wd (dW D) (dN D)) (hw : WF D) (hu : RR nu f (dN D)) (hl : FL D f) (rb qu : Nat → Int32) :
    (∃ (n' : Nat) (Q' : Nat → Nat) (rb' qu' : Nat → Int32), f_X5_findWay nu fr to wd (nI (dN D)) rb qu = some (-nI 1, rb', qu') ∧ BF D f n' Q' rb' qu' ∧ CL D f n' Q' n') ∨
      FD D f (f_X5_findWay nu fr to wd (nI (dN D)) rb qu) := by
  obtain ⟨r0, h1, h2⟩ := p_fill 16 (-nI 2) rb (by omega)
  have hlp := loopI (fun F i (s : Int32 × (Nat → Int32) × (Nat → Int32)) => f_X5_findWay_b13 nu fr to wd (nI (dN D)) F s.1 i s.2.1 s.2.2) (fun s => f_X5_findWay_b43 nu fr to wd (nI (dN D)) FU s.1 (nI 0) s.2.1 s.2.2)
    (fun i s => s.1 = nI i ∧ (∀ j, j < i → s.2.1 j = -nI 1 ∧ s.2.2 j = nI j) ∧ ∀ j, i ≤ j → j < 16 → s.2.1 j = -nI 2) 4 ?_ ?_ 4 0 FU (nI 0, r0, qu) (by omega) (FU_big (by omega)) ⟨rfl, fun j hj => by omega, fun j _ hj => h2 j hj⟩
  · obtain ⟨s, k1, k2, k3, k4⟩ := hlp
    have hB : BF D f 4 (fun j => j) s.2.1 s.2.2 := by
      refine ⟨Nat.le_refl _, fun j hj => ⟨(k3 j hj).2, by show j < 12; omega⟩, fun j hj => ⟨rfl, (k3 j hj).1⟩, fun i j h _ => by show i ≠ j; omega, fun p hp hno => k4 p ?_ hp, fun j h4 h => by omega⟩
      by_cases c : 4 ≤ p
      · exact c
      · exact absurd rfl (hno p (by omega))
    have unf : f_X5_findWay nu fr to wd (nI (dN D)) rb qu = f_X5_findWay_b43 nu fr to wd (nI (dN D)) FU (nI 4) (nI 0) s.2.1 s.2.2 := by
      unfold f_X5_findWay
      simp only [fa_lit] at h1 ⊢
      rw [h1]
      simp only [bs]
      rw [← k2]
      exact k1
    rw [unf]
    exact p_headLoop hf hg hd hw hu hl 13 0 FU 4 (fun j => j) s.2.1 s.2.2 (by omega) (FU_big (by omega)) hB (by omega) (fun j hj => by omega)
  · intro F i s hi ⟨k1, k2, k3⟩
    refine ⟨(nI (i + 1), upd s.2.1 i (-nI 1), upd s.2.2 i (nI i)), ?_, rfl, fun j hj => ?_, fun j hj h16 => ?_⟩
    · simp only [f_X5_findWay_b13, fa_lit, nme]
      rw [if_neg (nle_nI (by omega) (by omega) hi), k1, if_pos (gd_nI (by omega) (by omega)), if_pos (gd_nI (by omega) (by omega)), cl_nI (by omega), nI_step]
    · by_cases c : j = i
      · subst c
        exact ⟨upd_q _ _ _, upd_q _ _ _⟩
      · exact ⟨(upd_w c).trans (k2 j (by omega)).1, (upd_w c).trans (k2 j (by omega)).2⟩
    · exact (upd_w (by omega)).trans (k3 j (by omega) h16)
  · intro F s _
    simp only [f_X5_findWay_b13, fa_lit]
    rw [if_pos ((le_nI (by omega) (by omega)).mpr (Nat.le_refl _))]
