/-! ===== ways: the room is added along the way ===== -/
def zN (f : Nat → Int) : Nat → Int
  | 0 => 0
  | n + 1 => zN f n + f n
theorem zN_cong {f g : Nat → Int} : ∀ {n : Nat}, (∀ k, k < n → f k = g k) → zN f n = zN g n
  | 0, _ => rfl
  | n + 1, h => by
    show zN f n + f n = zN g n + g n
    rw [zN_cong (n := n) (fun k hk => h k (by omega)), h n (by omega)]
theorem zN_upd {f g : Nat → Int} {r : Nat} : ∀ {n : Nat}, r < n → (∀ k, k < n → k ≠ r → g k = f k) → zN g n = zN f n + (g r - f r)
  | 0, h, _ => by omega
  | n + 1, h, ho => by
    show zN g n + g n = zN f n + f n + (g r - f r)
    by_cases c : r = n
    · subst c
      rw [zN_cong (n := r) (fun k hk => ho k (by omega) (by omega))]
      omega
    · rw [zN_upd (n := n) (by omega) (fun k hk => ho k (by omega)), ho n (by omega) (by omega)]
      omega
def ch (S : Nat → Bool) (p : Nat) : Int := if S p = true then 1 else 0
def net (D : DR) (f : Nat → Nat) (S : Nat → Bool) : Int := zN (fun r => (f r : Int) * (ch S (dF D r) - ch S (dG D r))) (dN D)
theorem net_upd {D : DR} {f : Nat → Nat} {r w : Nat} (hr : r < dN D) (S : Nat → Bool) : net D (fun k => if k = r then w else f k) S = net D f S + ((w : Int) - (f r : Int)) * (ch S (dF D r) - ch S (dG D r)) := by
  unfold net
  rw [zN_upd (f := fun r => (f r : Int) * (ch S (dF D r) - ch S (dG D r))) hr (fun k _ hk => by dsimp only; rw [if_neg hk])]
  dsimp only
  rw [if_pos rfl, Int.sub_mul]
theorem rib_end {D : DR} {f : Nat → Nat} {p q r : Nat} (h : nx D f p r = some q) : (dF D r = p ∧ dG D r = q) ∨ (dG D r = p ∧ dF D r = q) := by
  obtain ⟨-, h | h⟩ := nx_some h
  · exact Or.inl ⟨h.1, h.2.1⟩
  · exact Or.inr ⟨h.1, h.2.1⟩
theorem PA_one {D : DR} {f : Nat → Nat} {m : Nat} {Q : Nat → Nat} {rb : Nat → Int32} (hn : dN D ≤ 20) (hP : PA D f m Q rb) {i j k r : Nat} (hj : j < m) (hij : i < j) (hki : k ≤ i) (hr : r < dN D) (hx : nx D f (Q i) r = some (Q j)) : ¬ rb (Q k) = nI r := by
  obtain ⟨h1, h2, h3, h4, h5, h6⟩ := hP
  intro e
  by_cases c : k < 4
  · rw [(h4 k c).1, (h4 k c).2] at e
    exact (m1_ne' (by omega)).mp e
  · obtain ⟨r', i', e1, e2, e3, e4⟩ := h6 k (by omega) (by omega)
    rw [e3] at e
    have er := (eq_nI (by omega) (by omega)).mp e
    subst er
    have a1 := h5 i j hij hj
    have a2 := h5 k j (by omega) hj
    have a3 := h5 i' j (by omega) hj
    have b1 := rib_end hx
    have b2 := rib_end e4
    omega
theorem p_along {fr to rb : Nat → Int32} {D : DR} {f : Nat → Nat} (hf : RR fr (dF D) (dN D)) (hg : RR to (dG D) (dN D)) (hw : WF D) {m : Nat} {Q : Nat → Nat} (hP : PA D f m Q rb) (x2 : Int32) {c : Nat} :
    ∀ (j s F K : Nat) (nu : Nat → Int32) (g : Nat → Nat), j < m → s + j ≤ 15 → j < F → RR nu g (dN D) → FL D g → (∀ k, k ≤ j → ∀ r, r < dN D → rb (Q k) = nI r → g r = f r) → pe D f rb c K (Q j) →
      ∃ nu' g', f_X5_addAlong_b6 rb fr to (nI (dN D)) x2 (nI c) F (nI (Q j)) (nI s) nu = some nu' ∧ RR nu' g' (dN D) ∧ FL D g' ∧ ∀ S : Nat → Bool, (∀ p, p < 4 → S p = true) → net D g' S = net D g S + (c : Int) * (1 - ch S (Q j)) := by
  have hn20 := hw.1
  obtain ⟨h1, h2, h3, h4, h5, h6⟩ := id hP
  intro j
  induction j using Nat.strongRecOn with
  | _ j ih =>
  intro s F K nu g hj hs hF hu hl hag hpe
  cases F with
  | zero => omega
  | succ F =>
    have hQ := h3 j hj
    by_cases c4 : j < 4
    · obtain ⟨e1, e2⟩ := h4 j c4
      refine ⟨nu, g, ?_, hu, hl, fun S hS => ?_⟩
      · simp only [f_X5_addAlong_b6, fa_lit]
        rw [if_neg (nle_nI (by omega) (by omega) (by omega)), p_ribbonTo hQ, e1, e2]
        simp only [bs]
        rw [if_pos m1_lt0]
      · unfold ch
        rw [e1, if_pos (hS j c4), Int.sub_self, Int.mul_zero, Int.add_zero]
    · obtain ⟨r, i, e1, e2, e3, e4⟩ := h6 j (by omega) hj
      obtain ⟨ho, hc⟩ := nx_some e4
      have hQi := h3 i (by omega)
      have hne := h5 i j e2 hj
      have hgr := hag j (Nat.le_refl _) r e1 e3
      have hone := fun k (hk : k ≤ i) => PA_one hn20 hP hj e2 hk e1 e4
      have hQj4 : ¬ Q j < 4 := by
        intro z
        have := (h4 (Q j) z).1
        have := h5 (Q j) j
        by_cases y : Q j < j
        · exact this y hj (by omega)
        · omega
      obtain ⟨K', r', hr', e3', -, hK⟩ : ∃ K' r', r' < dN D ∧ rb (Q j) = nI r' ∧ on D r' = true ∧ ((dG D r' = Q j ∧ f r' + c ≤ dW D r' ∧ pe D f rb c K' (dF D r')) ∨ (dF D r' = Q j ∧ c ≤ f r' ∧ pe D f rb c K' (dG D r'))) := by
        cases K with
        | zero => exact absurd hpe hQj4
        | succ K =>
          rcases hpe with z | ⟨r', z1, z2, z3, z4⟩
          · exact absurd z hQj4
          · exact ⟨K, r', z1, z2, z3, z4⟩
      have er : r' = r := by
        rw [e3] at e3'
        exact ((eq_nI (by omega) (by omega)).mp e3').symm
      subst er
      rcases hc with ⟨g1, g2, g3⟩ | ⟨g1, g2, g3⟩
      · have hK2 : f r' + c ≤ dW D r' ∧ pe D f rb c K' (Q i) := by
          rcases hK with ⟨k1, k2, k3⟩ | ⟨k1, k2, k3⟩
          · rw [g1] at k3; exact ⟨k2, k3⟩
          · exact absurd (g1.symm.trans k1) hne
        have hl' : FL D (fun k => if k = r' then g r' + c else g k) := by
          intro k hk
          dsimp only
          by_cases d : k = r'
          · rw [if_pos d, d]
            exact ⟨by omega, fun z => by rw [ho] at z; cases z⟩
          · rw [if_neg d]; exact hl k hk
        obtain ⟨nu', g', q1, q2, q3, q4⟩ := ih i e2 (s + 1) F K' (upd nu r' (nI (g r' + c))) (fun k => if k = r' then g r' + c else g k) (by omega) (by omega) (by omega) (RR_upd hu (by rw [if_pos rfl]) (fun k _ hk => if_neg hk)) hl'
          (fun k hk x hx hrb => by
            have : x ≠ r' := fun z => by rw [z] at hrb; exact hone k hk hrb
            rw [if_neg this]
            exact hag k (by omega) x hx hrb) hK2.2
        refine ⟨nu', g', ?_, q2, q3, fun S hS => ?_⟩
        · simp only [f_X5_addAlong_b6, f_X5_addAlong_b46, f_X5_addAlong_b76, f_X5_addAlong_b78, f_X5_addAlong_b98, fa_lit, nme]
          rw [if_neg (nle_nI (by omega) (by omega) (by omega)), p_ribbonTo hQ, e3]
          simp only [bs]
          rw [if_neg (nlt_nI (by omega) (by omega) (by omega)), p_toOf hg hn20 e1]
          simp only [bs]
          rw [if_pos (by rw [g2]), p_hasRibbon hn20 (by omega), decide_eq_true e1]
          simp only [bs]
          rw [if_neg (by decide), if_pos (gd_nI (by omega) (by omega)), if_neg (show ¬ nI 1 = nI 0 by decide), p_fromOf hf hn20 e1]
          simp only [bs]
          rw [cl_nI (by omega), hu r' e1, nI_step, nI_step, g1]
          first
            | exact q1
            | (rw [if_pos (gd_nI (by omega) (by omega)), if_neg (show ¬ nI 1 = nI 0 by decide)]; exact q1)
        · rw [q4 S hS, net_upd e1, g1, g2, Int.add_assoc]
          refine congrArg (fun z => net D g S + z) ?_
          rw [show ((g r' + c : Nat) : Int) - (g r' : Int) = (c : Int) by omega, ← Int.mul_add]
          exact congrArg (fun z => (c : Int) * z) (by omega)
      · have hK2 : c ≤ f r' ∧ pe D f rb c K' (Q i) := by
          rcases hK with ⟨k1, k2, k3⟩ | ⟨k1, k2, k3⟩
          · exact absurd (g1.symm.trans k1) hne
          · rw [g1] at k3; exact ⟨k2, k3⟩
        have hlr := hl r' e1
        have hl' : FL D (fun k => if k = r' then g r' - c else g k) := by
          intro k hk
          dsimp only
          by_cases d : k = r'
          · rw [if_pos d, d]
            exact ⟨by omega, fun z => by rw [ho] at z; cases z⟩
          · rw [if_neg d]; exact hl k hk
        obtain ⟨nu', g', q1, q2, q3, q4⟩ := ih i e2 (s + 1) F K' (upd nu r' (nI (g r' - c))) (fun k => if k = r' then g r' - c else g k) (by omega) (by omega) (by omega) (RR_upd hu (by rw [if_pos rfl]) (fun k _ hk => if_neg hk)) hl'
          (fun k hk x hx hrb => by
            have : x ≠ r' := fun z => by rw [z] at hrb; exact hone k hk hrb
            rw [if_neg this]
            exact hag k (by omega) x hx hrb) hK2.2
        refine ⟨nu', g', ?_, q2, q3, fun S hS => ?_⟩
        · simp only [f_X5_addAlong_b6, f_X5_addAlong_b46, f_X5_addAlong_b76, f_X5_addAlong_b78, f_X5_addAlong_b98, fa_lit, nme]
          rw [if_neg (nle_nI (by omega) (by omega) (by omega)), p_ribbonTo hQ, e3]
          simp only [bs]
          rw [if_neg (nlt_nI (by omega) (by omega) (by omega)), p_toOf hg hn20 e1]
          simp only [bs]
          rw [if_neg (by rw [eq_nI (by omega) (by omega)]; omega), p_hasRibbon hn20 (by omega), decide_eq_true e1]
          simp only [bs]
          rw [if_neg (by decide), if_pos (gd_nI (by omega) (by omega)), if_pos trivial]
          rw [cl_nI (by omega), hu r' e1, ← Int32.sub_eq_add_neg, pk_sub (by omega), nI_step, g1]
          first
            | exact q1
            | (rw [if_pos trivial]; exact q1)
            | (rw [if_pos (gd_nI (by omega) (by omega)), if_pos trivial]; exact q1)
        · rw [q4 S hS, net_upd e1, g1, g2, Int.add_assoc]
          refine congrArg (fun z => net D g S + z) ?_
          rw [show ((g r' - c : Nat) : Int) - (g r' : Int) = -(c : Int) by omega, Int.neg_mul, ← Int.mul_neg, ← Int.mul_add]
          exact congrArg (fun z => (c : Int) * z) (by omega)
