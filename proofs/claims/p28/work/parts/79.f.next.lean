/-! ===== ways: where a ribbon leads with room ===== -/
def nx (D : DR) (f : Nat → Nat) (p r : Nat) : Option Nat := if on D r = true then (if dF D r = p then (if f r < dW D r then some (dG D r) else none) else if dG D r = p then (if 0 < f r then some (dF D r) else none) else none) else none
theorem p_numberOf {nu : Nat → Int32} {f : Nat → Nat} {n r : Nat} (h : RR nu f n) (hn : n ≤ 20) (hr : r < n) : f_X5_numberOf nu (nI r) = some (nI (f r)) := by
  unfold f_X5_numberOf
  simp only [fa_lit]
  rw [if_neg (nlt_nI (by omega) (by omega) (by omega)), if_neg (nle_nI (by omega) (by omega) (by omega)), if_pos (gd_nI (by omega) (by omega)), cl_nI (by omega), h r hr]
/-- what goes through so far -/
def FL (D : DR) (f : Nat → Nat) : Prop := ∀ r, r < dN D → f r ≤ dW D r ∧ (on D r = false → f r = 0)
theorem p_nextPost {nu fr to wd : Nat → Int32} {D : DR} {f : Nat → Nat} (hf : RR fr (dF D) (dN D)) (hg : RR to (dG D) (dN D)) (hd : RR wd (dW D) (dN D)) (hw : WF D) (hu : RR nu f (dN D)) (hl : FL D f) {p r : Nat} (hp : p < 16) (hr : r < dN D) :
    f_X5_nextPost nu fr to wd (nI p) (nI r) = some (oI (nx D f p r)) := by
  have hn := hw.1
  obtain ⟨t1, t2, -, t4⟩ := hw.2.2.2 r hr
  have hb := (hl r hr).1
  unfold f_X5_nextPost nx
  simp only [fa_lit]
  rw [p_goesOn hf hg hw hr, p_fromOf hf hn hr, p_toOf hg hn hr, p_numberOf hu hn hr, p_widthOf hd hn hr]
  simp only [bs, bI_0]
  by_cases c : on D r = false
  · rw [if_pos c, if_neg (show ¬ on D r = true by rw [c]; decide)]
    rfl
  rw [if_neg c, if_pos (show on D r = true by simpa using c)]
  by_cases c1 : dF D r = p
  · rw [if_pos (by rw [c1]), if_pos c1]
    by_cases c2 : f r < dW D r
    · rw [if_neg (nle_nI (by omega) (by omega) c2), if_pos c2]
      rfl
    · rw [if_pos ((le_nI (by omega) (by omega)).mpr (by omega)), if_neg c2]
      rfl
  · rw [if_neg (by rw [eq_nI (by omega) (by omega)]; exact c1), if_neg c1]
    by_cases c3 : dG D r = p
    · rw [if_pos (by rw [c3]), if_pos c3]
      by_cases c4 : 0 < f r
      · rw [if_neg (nle_nI (by omega) (by omega) c4), if_pos c4]
        rfl
      · rw [if_pos ((le_nI (by omega) (by omega)).mpr (by omega)), if_neg c4]
        rfl
    · rw [if_neg (by rw [eq_nI (by omega) (by omega)]; exact c3), if_neg c3]
      rfl
theorem nx_some {D : DR} {f : Nat → Nat} {p r q : Nat} (h : nx D f p r = some q) : on D r = true ∧ ((dF D r = p ∧ dG D r = q ∧ f r < dW D r) ∨ (dG D r = p ∧ dF D r = q ∧ 0 < f r)) := by
  unfold nx at h
  by_cases c : on D r = true
  · rw [if_pos c] at h
    refine ⟨c, ?_⟩
    by_cases c1 : dF D r = p
    · rw [if_pos c1] at h
      by_cases c2 : f r < dW D r
      · rw [if_pos c2] at h
        exact Or.inl ⟨c1, Option.some.inj h, c2⟩
      · rw [if_neg c2] at h; cases h
    · rw [if_neg c1] at h
      by_cases c3 : dG D r = p
      · rw [if_pos c3] at h
        by_cases c4 : 0 < f r
        · rw [if_pos c4] at h
          exact Or.inr ⟨c3, Option.some.inj h, c4⟩
        · rw [if_neg c4] at h; cases h
      · rw [if_neg c3] at h; cases h
  · rw [if_neg c] at h; cases h
theorem nx_lt {D : DR} (hw : WF D) {f : Nat → Nat} {p r q : Nat} (hr : r < dN D) (h : nx D f p r = some q) : q < 16 := by
  obtain ⟨t1, t2, -, -⟩ := hw.2.2.2 r hr
  obtain ⟨-, h⟩ := nx_some h
  rcases h with h | h <;> omega
theorem nx_up {D : DR} {f : Nat → Nat} {p r : Nat} (ho : on D r = true) (h1 : dF D r = p) (h2 : f r < dW D r) : nx D f p r = some (dG D r) := by
  unfold nx
  rw [if_pos ho, if_pos h1, if_pos h2]
theorem on_ne {D : DR} {r : Nat} (ho : on D r = true) : dF D r ≠ dG D r := by
  intro e
  have h := of_decide_eq_true ho
  rw [e] at h
  omega
theorem nx_dn {D : DR} {f : Nat → Nat} {p r : Nat} (ho : on D r = true) (h1 : dG D r = p) (h2 : 0 < f r) : nx D f p r = some (dF D r) := by
  have hne := on_ne ho
  unfold nx
  rw [if_pos ho, if_neg (by omega), if_pos h1, if_pos h2]
/-- so many numbers below m, all unlike, are not more than m -/
theorem pigeon : ∀ (m n : Nat) (Q : Nat → Nat), (∀ j, j < n → Q j < m) → (∀ i j, i < j → j < n → Q i ≠ Q j) → n ≤ m
  | 0, n, Q, h, _ => by
    by_cases c : n = 0
    · omega
    · have := h 0 (by omega)
      omega
  | m + 1, n, Q, h, hi => by
    by_cases c : n = 0
    · omega
    · have h2 := pigeon m (n - 1) (fun k => if Q k = m then Q (n - 1) else Q k) ?_ ?_
      · omega
      · intro j hj
        show (if Q j = m then Q (n - 1) else Q j) < m
        have h3 := hi j (n - 1) (by omega) (by omega)
        have h4 := h j (by omega)
        have h5 := h (n - 1) (by omega)
        split <;> omega
      · intro i j hij hj
        show (if Q i = m then Q (n - 1) else Q i) ≠ (if Q j = m then Q (n - 1) else Q j)
        have h3 := hi i (n - 1) (by omega) (by omega)
        have h4 := hi j (n - 1) (by omega) (by omega)
        have h5 := hi i j hij (by omega)
        by_cases a : Q i = m
        · rw [if_pos a, if_neg (by omega)]
          omega
        · rw [if_neg a]
          by_cases b : Q j = m
          · rw [if_pos b]; exact h3
          · rw [if_neg b]; exact h5
/-- the posts that ways have reached, in their order: Q j for j below n -/
def BF (D : DR) (f : Nat → Nat) (n : Nat) (Q : Nat → Nat) (rb qu : Nat → Int32) : Prop :=
  4 ≤ n ∧ (∀ j, j < n → qu j = nI (Q j) ∧ Q j < 12) ∧ (∀ j, j < 4 → Q j = j ∧ rb j = -nI 1) ∧ (∀ i j, i < j → j < n → Q i ≠ Q j) ∧ (∀ p, p < 16 → (∀ j, j < n → Q j ≠ p) → rb p = -nI 2) ∧
    ∀ j, 4 ≤ j → j < n → ∃ r i, r < dN D ∧ i < j ∧ rb (Q j) = nI r ∧ nx D f (Q i) r = some (Q j)
theorem BF_n {D : DR} {f : Nat → Nat} {n : Nat} {Q : Nat → Nat} {rb qu : Nat → Int32} (h : BF D f n Q rb qu) : n ≤ 12 := pigeon 12 n Q (fun j hj => (h.2.1 j hj).2) h.2.2.2.1
theorem BF_rb {D : DR} {f : Nat → Nat} {n : Nat} {Q : Nat → Nat} {rb qu : Nat → Int32} (h : BF D f n Q rb qu) {j : Nat} (hj : j < n) (hn : dN D ≤ 20) : ¬ rb (Q j) = -nI 2 := by
  obtain ⟨-, -, h3, -, -, h6⟩ := h
  by_cases c : j < 4
  · rw [(h3 j c).1, (h3 j c).2]
    decide
  · obtain ⟨r, i, e1, -, e2, -⟩ := h6 j (by omega) hj
    rw [e2]
    intro z
    have z2 := congrArg Int32.toInt z
    rw [nI_toInt (by omega)] at z2
    have h2 : (-nI 2).toInt = -2 := by decide
    omega
theorem BF_add {D : DR} {f : Nat → Nat} {n : Nat} {Q : Nat → Nat} {rb qu : Nat → Int32} (h : BF D f n Q rb qu) {q r i : Nat} (hq : q < 12) (hnew : ∀ j, j < n → Q j ≠ q) (hr : r < dN D) (hi : i < n) (hx : nx D f (Q i) r = some q) :
    BF D f (n + 1) (fun k => if k = n then q else Q k) (upd rb q (nI r)) (upd qu n (nI q)) := by
  obtain ⟨h1, h2, h3, h4, h5, h6⟩ := h
  have old : ∀ k, k ≠ n → (if k = n then q else Q k) = Q k := fun k hk => if_neg hk
  refine ⟨by omega, fun j hj => ?_, fun j hj => ?_, fun a b hab hb => ?_, fun p hp hno => ?_, fun j h4j hj => ?_⟩
  · by_cases c : j = n
    · subst c
      rw [upd_q]
      show nI q = nI (if j = j then q else Q j) ∧ (if j = j then q else Q j) < 12
      rw [if_pos rfl]
      exact ⟨rfl, hq⟩
    · rw [upd_w c]
      show qu j = nI (if j = n then q else Q j) ∧ (if j = n then q else Q j) < 12
      rw [if_neg c]
      exact h2 j (by omega)
  · have hjq : j ≠ q := fun e => hnew j (by omega) ((h3 j hj).1.trans e)
    rw [upd_w hjq]
    show (if j = n then q else Q j) = j ∧ _
    rw [if_neg (by omega)]
    exact h3 j hj
  · show (if a = n then q else Q a) ≠ (if b = n then q else Q b)
    rw [if_neg (by omega)]
    by_cases c : b = n
    · rw [if_pos c]; exact hnew a (by omega)
    · rw [if_neg c]; exact h4 a b hab (by omega)
  · have hpq : p ≠ q := by
      have := hno n (by omega)
      intro e
      exact this (by show (if n = n then q else Q n) = p; rw [if_pos rfl]; exact e.symm)
    rw [upd_w hpq]
    refine h5 p hp (fun j hj => ?_)
    have := hno j (by omega)
    dsimp only at this
    rw [if_neg (show ¬ j = n by omega)] at this
    exact this
  · by_cases c : j = n
    · subst c
      refine ⟨r, i, hr, hi, ?_, ?_⟩
      · show upd rb q (nI r) (if j = j then q else Q j) = _
        rw [if_pos rfl, upd_q]
      · show nx D f (if i = j then q else Q i) r = some (if j = j then q else Q j)
        rw [if_neg (by omega), if_pos rfl]
        exact hx
    · obtain ⟨r', i', e1, e2, e3, e4⟩ := h6 j h4j (by omega)
      refine ⟨r', i', e1, e2, ?_, ?_⟩
      · show upd rb q (nI r) (if j = n then q else Q j) = _
        rw [if_neg c, upd_w (hnew j (by omega))]
        exact e3
      · show nx D f (if i' = n then q else Q i') r' = some (if j = n then q else Q j)
        rw [if_neg (by omega), if_neg c]
        exact e4
