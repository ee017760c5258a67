/-! ===== the law's rows: what goes through, way by way ===== -/
theorem labs2 : ∀ r, r < 20 → ∀ q, q < 20 → (decide (nI (r + 1) = -nI q - nI 1) = false ∧ (decide (-nI r - nI 1 = -nI q - nI 1) = decide (r = q))) := by decide
theorem labI_inj {D : DR} {p r q : Nat} (hr : r < 20) (hq : q < 20) (h : labI D p r = labI D p q) : r = q := by
  obtain ⟨a1, a2⟩ := labs2 r hr q hq
  have b1 := (labs2 q hq r hr).1
  unfold labI at h
  by_cases c : dG D r = p
  · rw [if_pos c] at h
    by_cases d : dG D q = p
    · rw [if_pos d] at h
      have := (eq_nI (by omega) (by omega)).mp h
      omega
    · rw [if_neg d] at h
      exact absurd h (of_decide_eq_false a1)
  · rw [if_neg c] at h
    by_cases d : dG D q = p
    · rw [if_pos d] at h
      exact absurd h.symm (of_decide_eq_false b1)
    · rw [if_neg d] at h
      rw [decide_eq_true h] at a2
      exact of_decide_eq_true a2.symm
theorem l_one {D : DR} {f : Nat → Nat} {m : Nat} {Q : Nat → Nat} {b : Nat → Int32} (hn : dN D ≤ 20) (hB : LB D f m Q b) {i j k r : Nat} (hj : j < m) (hij : i < j) (hki : k ≤ i) (hr : r < dN D) (hx : nx D f (Q i) r = some (Q j)) : ¬ b (Q k) = labI D (Q k) r := by
  obtain ⟨h1, h2, h3, h4, h5, h6⟩ := hB
  intro e
  by_cases c : k < 4
  · rw [(h3 k c).1, (h3 k c).2] at e
    exact (labI_ne (by omega)).2 e.symm
  · obtain ⟨r', i', e1, e2, e3, e4⟩ := h6 k (by omega) (by omega)
    rw [e4] at e
    have er := labI_inj (by omega) (by omega) e
    subst er
    have a1 := h4 i j hij hj
    have a2 := h4 k j (by omega) hj
    have a3 := h4 i' j (by omega) hj
    have b1 := rib_end hx
    have b2 := rib_end e3
    omega
theorem l_init {zr : Nat → Int32} (D : DR) (f : Nat → Nat) (x1 x2 : Int32) (K14 : Int32 → (Nat → Int32) → (Nat → Int32) → Option Int32) (x5 : Int32) (us b : Nat → Int32) :
    ∃ b', f_L_through_b17 zr x1 x2 K14 FU x5 (nI 0) us b = f_L_through_b50 zr x1 x2 K14 FU x5 (nI 0) us b' ∧ LB D f 4 (fun j => j) b' := by
  have h := loopI (fun F i s => f_L_through_b17 zr x1 x2 K14 F x5 i us s) (fun s => f_L_through_b50 zr x1 x2 K14 FU x5 (nI 0) us s) (fun i s => ∀ p, p < i → s p = if p < 4 then nI 99 else nI 0) 16 (fun F i s hi hI => ⟨upd s i (if i < 4 then nI 99 else nI 0), ?_, fun p hp => ?_⟩) (fun F s _ => ?_) 16 0 FU b (by omega) (FU_big (by omega)) (fun p hp => absurd hp (Nat.not_lt_zero p))
  · obtain ⟨s, e, hI⟩ := h
    refine ⟨s, e, Nat.le_refl _, fun j hj => ?_, fun j hj => ⟨rfl, ?_⟩, fun i j hij _ => ?_, fun p hp hno => ?_, fun j h4 hj => absurd hj (by omega)⟩
    · show j < 16; omega
    · rw [hI j (by omega), if_pos hj]
    · show i ≠ j; omega
    · have h4 : ¬ p < 4 := fun z => hno p z rfl
      rw [hI p hp, if_neg h4]
  · show f_L_through_b17 zr x1 x2 K14 (F + 1) x5 (nI i) us s = _
    simp only [f_L_through_b17, f_L_through_b40, fa_lit, nme]
    simp only [if_pos (gd_nI hi (show i < 2147483648 by omega))]
    rw [if_neg (nle_nI (by omega) (by omega) hi), cl_nI (by omega), nI_step]
    by_cases c : i < 4
    · rw [if_neg (nle_nI (by omega) (by omega) c), if_pos c]
    · rw [if_pos ((le_nI (by omega) (by omega)).mpr (by omega)), if_neg c]
  · by_cases q : p = i
    · rw [q, upd_q]
    · rw [upd_w q]; exact hI p (by omega)
  · show f_L_through_b17 zr x1 x2 K14 (F + 1) x5 (nI 16) us s = _
    simp only [f_L_through_b17, fa_lit]
    rw [if_pos ((le_nI (by omega) (by omega)).mpr (Nat.le_refl _))]
theorem l_rounds {zr : Nat → Int32} {D : DR} (hz : LZ zr D) (hw : WF D) {x2 : Int32} {wo : Nat} (ho : ∀ r, r < dN D → (nI r = x2 ↔ r = wo)) {f : Nat → Nat} {us : Nat → Int32} (hu : RR us f (dN D)) (hl : FL (wE D wo) f)
    (K14 : Int32 → (Nat → Int32) → (Nat → Int32) → Option Int32) (x5 : Int32) {b : Nat → Int32} {m : Nat} {Q : Nat → Nat} (hB : LB (wE D wo) f m Q b) :
    ∃ m' Q' b', f_L_through_b50 zr (nI (dN D)) x2 K14 FU x5 (nI 0) us b = f_L_through_b205 zr (nI (dN D)) x2 K14 FU x5 (nI 12) us b' ∧ LB (wE D wo) f m' Q' b' ∧ ∀ k, k < dN D → CLk (wE D wo) f m' Q' k := by
  have h := loopI (fun F i s => f_L_through_b50 zr (nI (dN D)) x2 K14 F x5 i us s) (fun s => f_L_through_b205 zr (nI (dN D)) x2 K14 FU x5 (nI 12) us s) (fun i s => ∃ m' Q', LB (wE D wo) f m' Q' s ∧ (4 + i ≤ m' ∨ ∀ k, k < dN D → CLk (wE D wo) f m' Q' k)) 16 (fun F i s hi hI => ?_) (fun F s _ => ?_) 16 0 FU b (by omega) (FU_big (by omega)) ⟨m, Q, hB, Or.inl hB.1⟩
  · obtain ⟨s, e, m', Q', i1, i2⟩ := h
    refine ⟨m', Q', s, e, i1, ?_⟩
    rcases i2 with i2 | i2
    · have := LB_m i1; omega
    · exact i2
  · obtain ⟨m', Q', i1, i2⟩ := hI
    obtain ⟨m2, Q2, b2, r1, r2, r3, r4, r5⟩ := l_round hz hw ho hu hl K14 (f_L_through_b50 zr (nI (dN D)) x2 K14 F) x5 i i1
    refine ⟨b2, ?_, m2, Q2, r2, ?_⟩
    · show f_L_through_b50 zr (nI (dN D)) x2 K14 (F + 1) x5 (nI i) us s = _
      refine Eq.trans ?_ r1
      simp only [f_L_through_b50, fa_lit]
      rw [if_neg (nle_nI (by omega) (by omega) hi)]
    · rcases i2 with i2 | i2
      · rcases r4 with r4 | r4
        · exact Or.inl (by omega)
        · exact Or.inr r4
      · exact Or.inr (r5 i2)
  · show f_L_through_b50 zr (nI (dN D)) x2 K14 (F + 1) x5 (nI 16) us s = _
    simp only [f_L_through_b50, fa_lit]
    rw [if_pos ((le_nI (by omega) (by omega)).mpr (Nat.le_refl _))]
theorem l_findEnd {zr : Nat → Int32} (x1 x2 : Int32) (K14 : Int32 → (Nat → Int32) → (Nat → Int32) → Option Int32) (x5 : Int32) (us b : Nat → Int32) : ∀ (k p F : Nat), p + k = 16 → k < F → 12 ≤ p → (∀ q, 12 ≤ q → q < p → b q = nI 0) →
    (f_L_through_b205 zr x1 x2 K14 F x5 (nI p) us b = some x5 ∧ ∀ q, 12 ≤ q → q < 16 → b q = nI 0) ∨ ∃ e, 12 ≤ e ∧ e < 16 ∧ ¬ b e = nI 0 ∧ f_L_through_b205 zr x1 x2 K14 F x5 (nI p) us b = f_L_through_b240 zr x1 x2 K14 FU x5 (nI e) us b := by
  intro k
  induction k with
  | zero =>
    intro p F hp hF h12 hq
    cases F with
    | zero => omega
    | succ F =>
      have e : p = 16 := by omega
      subst e
      refine Or.inl ⟨?_, hq⟩
      simp only [f_L_through_b205, f_L_through_b226, fa_lit]
      rw [if_pos ((le_nI (by omega) (by omega)).mpr (Nat.le_refl _)), if_pos trivial]
  | succ k ih =>
    intro p F hp hF h12 hq
    cases F with
    | zero => omega
    | succ F =>
      by_cases c : b p = nI 0
      · have e1 : f_L_through_b205 zr x1 x2 K14 (F + 1) x5 (nI p) us b = f_L_through_b205 zr x1 x2 K14 F x5 (nI (p + 1)) us b := by
          simp only [f_L_through_b205, f_L_through_b226, fa_lit, nme]
          rw [if_neg (nle_nI (by omega) (by omega) (by omega)), if_pos (gd_nI (by omega) (by omega)), cl_nI (by omega), if_pos c, nI_step]
        rw [e1]
        refine ih (p + 1) F (by omega) (by omega) (by omega) (fun q h1 h2 => ?_)
        by_cases d : q = p
        · rw [d]; exact c
        · exact hq q h1 (by omega)
      · refine Or.inr ⟨p, h12, by omega, c, ?_⟩
        simp only [f_L_through_b205, f_L_through_b226, fa_lit, nme]
        rw [if_neg (nle_nI (by omega) (by omega) (by omega)), if_pos (gd_nI (by omega) (by omega)), cl_nI (by omega), if_neg c, if_neg (by rw [eq_nI (by omega) (by omega)]; omega)]
/-- when no post of the last column has a label, what goes through is the least cut -/
theorem full_lb {D : DR} {f : Nat → Nat} {v m : Nat} {Q : Nat → Nat} {b : Nat → Int32} (hw : WF D) (hl : FL D f) (hv : ∀ S, NS S → net D f S = (v : Int)) (hB : LB D f m Q b) (h12 : ∀ q, 12 ≤ q → q < 16 → b q = nI 0) (hC : ∀ k, k < dN D → CLk D f m Q k) : v = thr D 100 := by
  have hn20 := hw.1
  have hQ12 : ∀ j, j < m → Q j < 12 := by
    intro j hj
    have h1 := LB_b hB hn20 hj
    have h2 := hB.2.1 j hj
    by_cases c : Q j < 12
    · exact c
    · exact absurd (h12 _ (by omega) h2) h1
  have hle : v ≤ thr D 100 := by
    unfold thr
    refine lmN_ge _ v (fun x => ?_) 255
    have h := net_le hw hl x
    rw [hv _ (sd_NS x)] at h
    omega
  have hS : NS (fun p => decide (p < 16) && !decide (b p = nI 0)) := by
    refine ⟨fun p hp => ?_, fun p hp => ?_⟩
    · dsimp only
      rw [decide_eq_true (show p < 16 by omega), decide_eq_false (by rw [(hB.2.2.1 p hp).2]; decide)]
      rfl
    · dsimp only
      by_cases c : p < 16
      · rw [decide_eq_true (h12 p hp c), Bool.not_true, Bool.and_false]
      · rw [decide_eq_false c]
        rfl
  obtain ⟨hx, he⟩ := enc_sd hS
  generalize enc (fun p => decide (p < 16) && !decide (b p = nI 0)) = x at hx he
  have hyes : ∀ p, p < 16 → sd x p = true → ∃ j, j < m ∧ Q j = p := by
    intro p hp h
    rw [he p hp] at h
    refine LB_at hB hp (fun c => ?_)
    rw [decide_eq_true c, Bool.not_true, Bool.and_false] at h
    cases h
  have hin : ∀ j, j < m → sd x (Q j) = true := by
    intro j hj
    have h16 := hB.2.1 j hj
    rw [he _ h16, decide_eq_true h16, decide_eq_false (LB_b hB hn20 hj)]
    rfl
  have hnet := net_eq hw hl x (fun r h1 h2 h3 h4 => by
      obtain ⟨t1, t2, -, -⟩ := hw.2.2.2 r h1
      have hb := (hl r h1).1
      obtain ⟨j, g1, g2⟩ := hyes _ t1 h3
      by_cases c : f r < dW D r
      · obtain ⟨k, k1, k2⟩ := hC r h1 j g1 (hQ12 j g1) _ (nx_up h2 g2.symm c)
        have := hin k k1
        rw [k2, h4] at this
        cases this
      · omega) (fun r h1 h2 h3 h4 => by
      obtain ⟨t1, t2, -, -⟩ := hw.2.2.2 r h1
      obtain ⟨j, g1, g2⟩ := hyes _ t2 h4
      by_cases c : 0 < f r
      · obtain ⟨k, k1, k2⟩ := hC r h1 j g1 (hQ12 j g1) _ (nx_dn h2 g2.symm c)
        have := hin k k1
        rw [k2, h3] at this
        cases this
      · omega)
  rw [hv _ (sd_NS x)] at hnet
  have h2 : thr D 100 ≤ cuT D x 100 := lmN_at (fun x => cuT D x 100) x 255 (by omega)
  omega
/-- one more goes along the way -/
theorem l_walk {zr : Nat → Int32} {D : DR} (hz : LZ zr D) (hw : WF D) (x2 : Int32) {wo : Nat} {f : Nat → Nat} {m : Nat} {Q : Nat → Nat} {b : Nat → Int32} (hB : LB (wE D wo) f m Q b) (K14 : Int32 → (Nat → Int32) → (Nat → Int32) → Option Int32) (v : Nat) :
    ∀ (j F : Nat) (us : Nat → Int32) (g : Nat → Nat), j < m → j < F → RR us g (dN D) → FL (wE D wo) g → (∀ k, k ≤ j → ∀ r, r < dN D → b (Q k) = labI (wE D wo) (Q k) r → g r = f r) →
      ∃ us' g', f_L_through_b240 zr (nI (dN D)) x2 K14 F (nI v) (nI (Q j)) us b = K14 (nI (v + 1)) us' b ∧ RR us' g' (dN D) ∧ FL (wE D wo) g' ∧ ∀ S : Nat → Bool, (∀ p, p < 4 → S p = true) → net (wE D wo) g' S = net (wE D wo) g S + (1 - ch S (Q j)) := by
  have hn20 := hw.1
  have hnE : dN (wE D wo) ≤ 20 := hn20
  obtain ⟨h1, h2, h3, h4, h5, h6⟩ := id hB
  intro j
  induction j using Nat.strongRecOn with
  | _ j ih =>
  intro F us g hj hF hu hl hag
  cases F with
  | zero => omega
  | succ F =>
    have hQ := h2 j hj
    by_cases c4 : j < 4
    · obtain ⟨e1, e2⟩ := h3 j c4
      refine ⟨us, g, ?_, hu, hl, fun S hS => ?_⟩
      · simp only [f_L_through_b240, fa_lit, nme]
        rw [if_pos (gd_nI hQ (by omega)), cl_nI (show Q j < 2147483648 by omega), e1, e2, if_pos rfl, nI_step]
      · unfold ch
        rw [e1, if_pos (hS j c4), Int.sub_self, Int.add_zero]
    · obtain ⟨r, i, e1, e2, e3, e4⟩ := h6 j (by omega) hj
      have e1 : r < dN D := e1
      obtain ⟨ho, hc⟩ := nx_some e3
      have hQi := h2 i (by omega)
      have hne := h4 i j e2 hj
      have hgr := hag j (Nat.le_refl _) r e1 e4
      have hone := fun k (hk : k ≤ i) => l_one hnE hB hj e2 hk e1 e3
      obtain ⟨z1, z2, -⟩ := hz r e1
      obtain ⟨b1, b2, b3, b4, b5, b6, b7, b8⟩ := labs r (by omega)
      have hw50 := (hw.2.2.2 r e1).2.2.2
      have hWr : dW (wE D wo) r ≤ 50 := by rw [wE_w]; split <;> omega
      rcases hc with ⟨g1, g2, g3⟩ | ⟨g1, g2, g3⟩
      · have g1 : dF D r = Q i := g1
        have g2 : dG D r = Q j := g2
        have hlab : b (Q j) = nI (r + 1) := e4.trans (if_pos g2)
        have hl' : FL (wE D wo) (fun k => if k = r then g r + 1 else g k) := by
          intro k hk
          dsimp only
          by_cases d : k = r
          · rw [if_pos d, d]
            exact ⟨by omega, fun z => by rw [ho] at z; cases z⟩
          · rw [if_neg d]; exact hl k hk
        obtain ⟨us', g', q1, q2, q3, q4⟩ := ih i e2 F (upd us r (nI (g r + 1))) (fun k => if k = r then g r + 1 else g k) (by omega) (by omega) (RR_upd hu (by rw [if_pos rfl]) (fun k _ hk => if_neg hk)) hl'
          (fun k hk x hx hrb => by
            have : x ≠ r := fun z => by rw [z] at hrb; exact hone k hk hrb
            rw [if_neg this]
            exact hag k (by omega) x hx hrb)
        refine ⟨us', g', ?_, q2, q3, fun S hS => ?_⟩
        · rw [← q1]
          simp only [f_L_through_b240, f_L_through_b276, f_L_through_b296, f_L_through_b323, fa_lit, nme]
          simp only [if_pos (gd_nI hQ (show Q j < 2147483648 by omega)), cl_nI (show Q j < 2147483648 by omega), hlab, if_neg b2, if_neg b6, b8, if_pos (gd_nI (show r < 20 by omega) (show r < 2147483648 by omega))]
          rw [pk_mul 3 r, if_pos (gd_nI (show 3 * r < 60 by omega) (by omega)), cl_nI (show 3 * r < 2147483648 by omega), z1, g1, cl_nI (show r < 2147483648 by omega), hu r e1, nI_step]
        · rw [q4 S hS, net_upd (D := wE D wo) e1, show dF (wE D wo) r = Q i from g1, show dG (wE D wo) r = Q j from g2, Int.add_assoc]
          refine congrArg (fun z => net (wE D wo) g S + z) ?_
          rw [show ((g r + 1 : Nat) : Int) - (g r : Int) = 1 by omega, Int.one_mul]
          omega
      · have g1 : dG D r = Q i := g1
        have g2 : dF D r = Q j := g2
        have hlab : b (Q j) = -nI r - nI 1 := e4.trans (if_neg (fun z => hne (g1.symm.trans z)))
        have hlr := (hl r e1).1
        have hl' : FL (wE D wo) (fun k => if k = r then g r - 1 else g k) := by
          intro k hk
          dsimp only
          by_cases d : k = r
          · rw [if_pos d, d]
            exact ⟨by omega, fun z => by rw [ho] at z; cases z⟩
          · rw [if_neg d]; exact hl k hk
        obtain ⟨us', g', q1, q2, q3, q4⟩ := ih i e2 F (upd us r (nI (g r - 1))) (fun k => if k = r then g r - 1 else g k) (by omega) (by omega) (RR_upd hu (by rw [if_pos rfl]) (fun k _ hk => if_neg hk)) hl'
          (fun k hk x hx hrb => by
            have : x ≠ r := fun z => by rw [z] at hrb; exact hone k hk hrb
            rw [if_neg this]
            exact hag k (by omega) x hx hrb)
        have hdn : nI (g r) + -nI 1 = nI (g r - 1) := by
          have := dn1 (f := g r - 1) (by omega)
          rw [show g r - 1 + 1 = g r by omega] at this
          exact this
        refine ⟨us', g', ?_, q2, q3, fun S hS => ?_⟩
        · rw [← q1]
          simp only [f_L_through_b240, f_L_through_b276, f_L_through_b296, f_L_through_b323, fa_lit, nme]
          simp only [if_pos (gd_nI hQ (show Q j < 2147483648 by omega)), cl_nI (show Q j < 2147483648 by omega), hlab, if_neg b4, if_pos b5, b7, if_pos (gd_nI (show r < 20 by omega) (show r < 2147483648 by omega))]
          rw [l_idx r 1, if_pos (gd_nI (show 3 * r + 1 < 60 by omega) (by omega)), cl_nI (show 3 * r + 1 < 2147483648 by omega), z2, g1, cl_nI (show r < 2147483648 by omega), hu r e1, hdn]
        · rw [q4 S hS, net_upd (D := wE D wo) e1, show dF (wE D wo) r = Q j from g2, show dG (wE D wo) r = Q i from g1, Int.add_assoc]
          refine congrArg (fun z => net (wE D wo) g S + z) ?_
          rw [show ((g r - 1 : Nat) : Int) - (g r : Int) = -1 by omega, Int.neg_mul, Int.one_mul]
          omega
theorem l_body {zr : Nat → Int32} {D : DR} (hz : LZ zr D) (hw : WF D) {x2 : Int32} {wo : Nat} (ho : ∀ r, r < dN D → (nI r = x2 ↔ r = wo)) {f : Nat → Nat} {us : Nat → Int32} (hu : RR us f (dN D)) (hl : FL (wE D wo) f) {v : Nat} (hv : ∀ S, NS S → net (wE D wo) f S = (v : Int)) (b : Nat → Int32) (F : Nat) :
    f_L_through_b14 zr (nI (dN D)) x2 (F + 1) (nI v) us b = some (nI (thr (wE D wo) 100)) ∨ ∃ us' b' f', f_L_through_b14 zr (nI (dN D)) x2 (F + 1) (nI v) us b = f_L_through_b14 zr (nI (dN D)) x2 F (nI (v + 1)) us' b' ∧ RR us' f' (dN D) ∧ FL (wE D wo) f' ∧ (∀ S, NS S → net (wE D wo) f' S = ((v + 1 : Nat) : Int)) ∧ v + 1 ≤ 1000 := by
  have hwE := wE_wf hw wo
  obtain ⟨b1, i1, i2⟩ := l_init (zr := zr) (wE D wo) f (nI (dN D)) x2 (f_L_through_b14 zr (nI (dN D)) x2 F) (nI v) us b
  obtain ⟨m, Q, b2, r1, r2, r3⟩ := l_rounds hz hw ho hu hl (f_L_through_b14 zr (nI (dN D)) x2 F) (nI v) i2
  have e0 : f_L_through_b14 zr (nI (dN D)) x2 (F + 1) (nI v) us b = f_L_through_b205 zr (nI (dN D)) x2 (f_L_through_b14 zr (nI (dN D)) x2 F) FU (nI v) (nI 12) us b2 := by
    rw [← r1, ← i1]
    simp only [f_L_through_b14, fa_lit]
  rw [e0]
  rcases l_findEnd (zr := zr) (nI (dN D)) x2 (f_L_through_b14 zr (nI (dN D)) x2 F) (nI v) us b2 4 12 FU (by omega) (FU_big (by omega)) (by omega) (fun q h1 h2 => absurd h1 (by omega)) with ⟨e1, e2⟩ | ⟨e, e1, e2, e3, e4⟩
  · left
    rw [e1, full_lb hwE hl hv r2 e2 r3]
  · right
    obtain ⟨j, j1, j2⟩ := LB_at r2 e2 e3
    have hm := LB_m r2
    obtain ⟨us', f', q1, q2, q3, q4⟩ := l_walk hz hw x2 r2 (f_L_through_b14 zr (nI (dN D)) x2 F) v j FU us f j1 (FU_big (by omega)) hu hl (fun _ _ _ _ _ => rfl)
    rw [j2] at q1 q4
    have hnet' : ∀ S, NS S → net (wE D wo) f' S = ((v + 1 : Nat) : Int) := by
      intro S hS
      rw [q4 S hS.1, hv S hS, ch_f (hS.2 e e1)]
      omega
    refine ⟨us', b2, f', e4.trans q1, q2, q3, hnet', ?_⟩
    have h8 := net_le hwE q3 0
    have h9 := cuT_le hwE 0 100
    rw [hnet' _ (sd_NS 0)] at h8
    omega
theorem l_ways {zr : Nat → Int32} {D : DR} (hz : LZ zr D) (hw : WF D) {x2 : Int32} {wo : Nat} (ho : ∀ r, r < dN D → (nI r = x2 ↔ r = wo)) :
    ∀ (k v F : Nat) (us b : Nat → Int32) (f : Nat → Nat), v + k = 1000 → k < F → RR us f (dN D) → FL (wE D wo) f → (∀ S, NS S → net (wE D wo) f S = (v : Int)) → f_L_through_b14 zr (nI (dN D)) x2 F (nI v) us b = some (nI (thr (wE D wo) 100)) := by
  intro k
  induction k with
  | zero =>
    intro v F us b f hv hF hu hl hnet
    cases F with
    | zero => omega
    | succ F =>
      rcases l_body hz hw ho hu hl hnet b F with h | ⟨us', b', f', h1, h2, h3, h4, h5⟩
      · exact h
      · omega
  | succ k ih =>
    intro v F us b f hv hF hu hl hnet
    cases F with
    | zero => omega
    | succ F =>
      rcases l_body hz hw ho hu hl hnet b F with h | ⟨us', b', f', h1, h2, h3, h4, h5⟩
      · exact h
      · rw [h1]
        exact ih (v + 1) F us' b' f' (by omega) (by omega) h2 h3 h4
theorem l_through {zr : Nat → Int32} {D : DR} (hz : LZ zr D) (hw : WF D) {x2 : Int32} {wo : Nat} (ho : ∀ r, r < dN D → (nI r = x2 ↔ r = wo)) : f_L_through zr (nI (dN D)) x2 = some (nI (thr D wo)) := by
  rw [thr_wo hw]
  unfold f_L_through
  simp only [fa_lit]
  refine l_ways hz hw ho 1000 0 FU (fun _ => nI 0) (fun _ => nI 0) (fun _ => 0) (by omega) (FU_big (by omega)) (fun r hr => rfl) (fun r hr => ⟨Nat.zero_le _, fun _ => rfl⟩) (fun S _ => ?_)
  unfold net
  have h := zN_cong (f := fun r => ((0 : Nat) : Int) * (ch S (dF (wE D wo) r) - ch S (dG (wE D wo) r))) (g := fun r => (((fun _ => 0) r : Nat) : Int)) (n := dN (wE D wo)) (fun k _ => by simp)
  rw [h, zN_sN, sN_0 _ _ (fun _ _ => rfl)]
theorem l_throughAll {zr : Nat → Int32} {D : DR} (hz : LZ zr D) (hw : WF D) : f_L_through zr (nI (dN D)) (-nI 1) = some (nI (thr D 100)) := by
  have hn := hw.1
  exact l_through hz hw (fun r hr => ⟨fun e => ((m1_ne (by omega)).mp e).elim, fun e => by omega⟩)
theorem l_throughOne {zr : Nat → Int32} {D : DR} (hz : LZ zr D) (hw : WF D) {k : Nat} (hk : k < dN D) : f_L_through zr (nI (dN D)) (nI k) = some (nI (thr D k)) := by
  have hn := hw.1
  exact l_through hz hw (fun r hr => eq_nI (by omega) (by omega))
