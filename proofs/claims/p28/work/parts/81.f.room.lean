/-! ===== ways: the room along a way ===== -/
def PA (D : DR) (f : Nat → Nat) (m : Nat) (Q : Nat → Nat) (rb : Nat → Int32) : Prop :=
  4 < m ∧ m ≤ 13 ∧ (∀ j, j < m → Q j < 16) ∧ (∀ j, j < 4 → Q j = j ∧ rb j = -nI 1) ∧ (∀ i j, i < j → j < m → Q i ≠ Q j) ∧
    ∀ j, 4 ≤ j → j < m → ∃ r i, r < dN D ∧ i < j ∧ rb (Q j) = nI r ∧ nx D f (Q i) r = some (Q j)
theorem PA_of {D : DR} {f : Nat → Nat} {n e r i : Nat} {Q : Nat → Nat} {rb qu : Nat → Int32} (hB : BF D f n Q rb qu) (he : 12 ≤ e) (he2 : e < 16) (hr : r < dN D) (hi : i < n) (hx : nx D f (Q i) r = some e) :
    PA D f (n + 1) (fun k => if k = n then e else Q k) (upd rb e (nI r)) := by
  have h12 := BF_n hB
  obtain ⟨h1, h2, h3, h4, h5, h6⟩ := hB
  refine ⟨by omega, by omega, fun j hj => ?_, fun j hj => ?_, fun a b hab hb => ?_, fun j h4j hj => ?_⟩
  · dsimp only
    by_cases c : j = n
    · rw [if_pos c]; exact he2
    · rw [if_neg c]
      have := (h2 j (by omega)).2
      omega
  · dsimp only
    rw [if_neg (by omega), upd_w (by omega)]
    exact h3 j hj
  · dsimp only
    rw [if_neg (by omega)]
    have := (h2 a (by omega)).2
    by_cases c : b = n
    · rw [if_pos c]; omega
    · rw [if_neg c]; exact h4 a b hab (by omega)
  · dsimp only
    by_cases c : j = n
    · subst c
      refine ⟨r, i, hr, hi, ?_, ?_⟩
      · rw [if_pos rfl, upd_q]
      · rw [if_neg (by omega), if_pos rfl]
        exact hx
    · obtain ⟨r', i', e1, e2, e3, e4⟩ := h6 j h4j (by omega)
      have := (h2 j (by omega)).2
      refine ⟨r', i', e1, e2, ?_, ?_⟩
      · rw [if_neg c, upd_w (by omega)]
        exact e3
      · rw [if_neg (by omega), if_neg c]
        exact e4
/-- the way from the post p back has the room c -/
def pe (D : DR) (f : Nat → Nat) (rb : Nat → Int32) (c : Nat) : Nat → Nat → Prop
  | 0, p => p < 4
  | k + 1, p => p < 4 ∨ ∃ r, r < dN D ∧ rb p = nI r ∧ on D r = true ∧ ((dG D r = p ∧ f r + c ≤ dW D r ∧ pe D f rb c k (dF D r)) ∨ (dF D r = p ∧ c ≤ f r ∧ pe D f rb c k (dG D r)))
theorem pe_up {D : DR} {f : Nat → Nat} {rb : Nat → Int32} {c : Nat} : ∀ (k p : Nat), pe D f rb c k p → pe D f rb c (k + 1) p
  | 0, p, h => Or.inl h
  | k + 1, p, h => by
    rcases h with h | ⟨r, h1, h2, h3, ⟨h4, h5, h6⟩ | ⟨h4, h5, h6⟩⟩
    · exact Or.inl h
    · exact Or.inr ⟨r, h1, h2, h3, Or.inl ⟨h4, h5, pe_up k _ h6⟩⟩
    · exact Or.inr ⟨r, h1, h2, h3, Or.inr ⟨h4, h5, pe_up k _ h6⟩⟩
theorem pe_le {D : DR} {f : Nat → Nat} {rb : Nat → Int32} {c k k' p : Nat} (h : pe D f rb c k p) (hk : k ≤ k') : pe D f rb c k' p := by
  induction k' with
  | zero =>
    have e : k = 0 := by omega
    rw [e] at h
    exact h
  | succ k' ih =>
    by_cases c : k = k' + 1
    · rw [← c]; exact h
    · exact pe_up k' p (ih (by omega))
theorem p_ribbonTo {rb : Nat → Int32} {p : Nat} (hp : p < 16) : f_X5_ribbonTo rb (nI p) = some (rb p) := by
  unfold f_X5_ribbonTo
  simp only [fa_lit]
  rw [p_isPost (by omega), decide_eq_true hp]
  simp only [bs]
  rw [if_neg (by decide), if_pos (gd_nI hp (by omega)), cl_nI (by omega)]
theorem p_room {nu fr to wd rb : Nat → Int32} {D : DR} {f : Nat → Nat} (hf : RR fr (dF D) (dN D)) (hg : RR to (dG D) (dN D)) (hd : RR wd (dW D) (dN D)) (hw : WF D) (hu : RR nu f (dN D)) (hl : FL D f) {m : Nat} {Q : Nat → Nat} (hP : PA D f m Q rb) (x2 : Int32) :
    ∀ (j s room F : Nat), j < m → s + j ≤ 15 → j < F → 1 ≤ room → room ≤ 1000000 → ∃ c, f_X5_roomTo_b9 nu rb fr to wd x2 F (nI room) (nI (Q j)) (nI s) = some (nI c) ∧ 1 ≤ c ∧ c ≤ room ∧ pe D f rb c j (Q j) := by
  have hn20 := hw.1
  obtain ⟨h1, h2, h3, h4, h5, h6⟩ := hP
  intro j
  induction j using Nat.strongRecOn with
  | _ j ih =>
  intro s room F hj hs hF hr1 hr2
  cases F with
  | zero => omega
  | succ F =>
    have hQ := h3 j hj
    by_cases c : j < 4
    · obtain ⟨e1, e2⟩ := h4 j c
      refine ⟨room, ?_, hr1, Nat.le_refl _, ?_⟩
      · simp only [f_X5_roomTo_b9, fa_lit]
        rw [if_neg (nle_nI (by omega) (by omega) (by omega)), p_ribbonTo hQ, e1, e2]
        simp only [bs]
        rw [if_pos m1_lt0]
      · rw [e1]
        cases j with
        | zero => exact c
        | succ j => exact Or.inl c
    · obtain ⟨r, i, e1, e2, e3, e4⟩ := h6 j (by omega) hj
      obtain ⟨ho, hc⟩ := nx_some e4
      have hQi := h3 i (by omega)
      have hne := h5 i j e2 hj
      have hrm : ∀ x, 1 ≤ x → 1 ≤ (if x < room then x else room) ∧ (if x < room then x else room) ≤ room ∧ (if x < room then x else room) ≤ x := by
        intro x hx
        split <;> omega
      rcases hc with ⟨g1, g2, g3⟩ | ⟨g1, g2, g3⟩
      · have hW := (hw.2.2.2 r e1).2.2.2
        obtain ⟨m1, m2, m3⟩ := hrm (dW D r - f r) (by omega)
        obtain ⟨v, k1, k2, k3, k4⟩ := ih i e2 (s + 1) (if dW D r - f r < room then dW D r - f r else room) F (by omega) (by omega) (by omega) m1 (by omega)
        refine ⟨v, ?_, k2, by omega, ?_⟩
        · simp only [f_X5_roomTo_b9, f_X5_roomTo_b49, f_X5_roomTo_b78, f_X5_roomTo_b107, fa_lit, nme]
          rw [if_neg (nle_nI (by omega) (by omega) (by omega)), p_ribbonTo hQ, e3]
          simp only [bs]
          rw [if_neg (nlt_nI (by omega) (by omega) (by omega)), p_toOf hg hn20 e1]
          simp only [bs]
          rw [if_pos (by rw [g2]), if_neg (show ¬ nI 1 = nI 0 by decide), p_widthOf hd hn20 e1, p_numberOf hu hn20 e1, p_fromOf hf hn20 e1]
          simp only [bs]
          rw [if_neg (show ¬ nI 1 = nI 0 by decide), pk_sub (by omega), ite_mn (by omega) (by omega), nI_step, g1]
          exact k1
        · have hk := pe_le k4 (show i ≤ j - 1 by omega)
          rw [show j = (j - 1) + 1 by omega]
          refine Or.inr ⟨r, e1, ?_, ho, Or.inl ⟨?_, by omega, ?_⟩⟩
          · rw [show j - 1 + 1 = j by omega]; exact e3
          · rw [show j - 1 + 1 = j by omega]; exact g2
          · rw [g1]; exact hk
      · obtain ⟨m1, m2, m3⟩ := hrm (f r) (by omega)
        have hW := (hw.2.2.2 r e1).2.2.2
        have hfW := (hl r e1).1
        obtain ⟨v, k1, k2, k3, k4⟩ := ih i e2 (s + 1) (if f r < room then f r else room) F (by omega) (by omega) (by omega) m1 (by omega)
        refine ⟨v, ?_, k2, by omega, ?_⟩
        · simp only [f_X5_roomTo_b9, f_X5_roomTo_b49, f_X5_roomTo_b78, f_X5_roomTo_b107, fa_lit, nme]
          rw [if_neg (nle_nI (by omega) (by omega) (by omega)), p_ribbonTo hQ, e3]
          simp only [bs]
          rw [if_neg (nlt_nI (by omega) (by omega) (by omega)), p_toOf hg hn20 e1]
          simp only [bs]
          rw [if_neg (by rw [eq_nI (by omega) (by omega)]; omega), if_pos trivial, p_numberOf hu hn20 e1]
          simp only [bs]
          rw [if_pos trivial, ite_mn (by omega) (by omega), nI_step, g1]
          exact k1
        · have hk := pe_le k4 (show i ≤ j - 1 by omega)
          rw [show j = (j - 1) + 1 by omega]
          refine Or.inr ⟨r, e1, ?_, ho, Or.inr ⟨?_, by omega, ?_⟩⟩
          · rw [show j - 1 + 1 = j by omega]; exact e3
          · rw [show j - 1 + 1 = j by omega]; exact g2
          · rw [g1]; exact hk
