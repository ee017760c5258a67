/-! ===== the order by ranks is that of the insertion ===== -/
def inv (D : DR) (c j : Nat) : Nat := if dP D (c * 4) = j then 0 else if dP D (c * 4 + 1) = j then 1 else if dP D (c * 4 + 2) = j then 2 else 3
theorem inv_ok {D : DR} (hw : WF D) {c j : Nat} (hc : c < 4) (hj : j < 4) : inv D c j < 4 ∧ dP D (c * 4 + inv D c j) = j := by
  have l0 := hw.2.1 (c * 4) (by omega)
  have l1 := hw.2.1 (c * 4 + 1) (by omega)
  have l2 := hw.2.1 (c * 4 + 2) (by omega)
  have l3 := hw.2.1 (c * 4 + 3) (by omega)
  have d01 : dP D (c * 4) ≠ dP D (c * 4 + 1) := fun e => by have := hw.2.2.1 _ _ (by omega) (by omega) (by omega) e; omega
  have d02 : dP D (c * 4) ≠ dP D (c * 4 + 2) := fun e => by have := hw.2.2.1 _ _ (by omega) (by omega) (by omega) e; omega
  have d03 : dP D (c * 4) ≠ dP D (c * 4 + 3) := fun e => by have := hw.2.2.1 _ _ (by omega) (by omega) (by omega) e; omega
  have d12 : dP D (c * 4 + 1) ≠ dP D (c * 4 + 2) := fun e => by have := hw.2.2.1 _ _ (by omega) (by omega) (by omega) e; omega
  have d13 : dP D (c * 4 + 1) ≠ dP D (c * 4 + 3) := fun e => by have := hw.2.2.1 _ _ (by omega) (by omega) (by omega) e; omega
  have d23 : dP D (c * 4 + 2) ≠ dP D (c * 4 + 3) := fun e => by have := hw.2.2.1 _ _ (by omega) (by omega) (by omega) e; omega
  unfold inv
  by_cases h0 : dP D (c * 4) = j
  · rw [if_pos h0]; exact ⟨by omega, h0⟩
  · rw [if_neg h0]
    by_cases h1 : dP D (c * 4 + 1) = j
    · rw [if_pos h1]; exact ⟨by omega, h1⟩
    · rw [if_neg h1]
      by_cases h2 : dP D (c * 4 + 2) = j
      · rw [if_pos h2]; exact ⟨by omega, h2⟩
      · rw [if_neg h2]; exact ⟨by omega, by omega⟩
theorem perm4 (f : Nat → Nat) {a b c d : Nat} (ha : a < 4) (hb : b < 4) (hc : c < 4) (hd : d < 4) (h1 : a ≠ b) (h2 : a ≠ c) (h3 : a ≠ d) (h4 : b ≠ c) (h5 : b ≠ d) (h6 : c ≠ d) : sN f 4 = f a + f b + f c + f d := by
  show 0 + f 0 + f 1 + f 2 + f 3 = _
  match a, ha, b, hb, c, hc, d, hd with
  | 0, _, 1, _, 2, _, 3, _ => omega
  | 0, _, 1, _, 3, _, 2, _ => omega
  | 0, _, 2, _, 1, _, 3, _ => omega
  | 0, _, 2, _, 3, _, 1, _ => omega
  | 0, _, 3, _, 1, _, 2, _ => omega
  | 0, _, 3, _, 2, _, 1, _ => omega
  | 1, _, 0, _, 2, _, 3, _ => omega
  | 1, _, 0, _, 3, _, 2, _ => omega
  | 1, _, 2, _, 0, _, 3, _ => omega
  | 1, _, 2, _, 3, _, 0, _ => omega
  | 1, _, 3, _, 0, _, 2, _ => omega
  | 1, _, 3, _, 2, _, 0, _ => omega
  | 2, _, 0, _, 1, _, 3, _ => omega
  | 2, _, 0, _, 3, _, 1, _ => omega
  | 2, _, 1, _, 0, _, 3, _ => omega
  | 2, _, 1, _, 3, _, 0, _ => omega
  | 2, _, 3, _, 0, _, 1, _ => omega
  | 2, _, 3, _, 1, _, 0, _ => omega
  | 3, _, 0, _, 1, _, 2, _ => omega
  | 3, _, 0, _, 2, _, 1, _ => omega
  | 3, _, 1, _, 0, _, 2, _ => omega
  | 3, _, 1, _, 2, _, 0, _ => omega
  | 3, _, 2, _, 0, _, 1, _ => omega
  | 3, _, 2, _, 1, _, 0, _ => omega
  | a + 4, h, _, _, _, _, _, _ => omega
  | _, _, b + 4, h, _, _, _, _ => omega
  | _, _, _, _, c + 4, h, _, _ => omega
  | _, _, _, _, _, _, d + 4, h => omega
  | 0, _, 0, _, _, _, _, _ => omega
  | 1, _, 1, _, _, _, _, _ => omega
  | 2, _, 2, _, _, _, _, _ => omega
  | 3, _, 3, _, _, _, _, _ => omega
  | 0, _, _, _, 0, _, _, _ => omega
  | 1, _, _, _, 1, _, _, _ => omega
  | 2, _, _, _, 2, _, _, _ => omega
  | 3, _, _, _, 3, _, _, _ => omega
  | 0, _, _, _, _, _, 0, _ => omega
  | 1, _, _, _, _, _, 1, _ => omega
  | 2, _, _, _, _, _, 2, _ => omega
  | 3, _, _, _, _, _, 3, _ => omega
  | _, _, 0, _, 0, _, _, _ => omega
  | _, _, 1, _, 1, _, _, _ => omega
  | _, _, 2, _, 2, _, _, _ => omega
  | _, _, 3, _, 3, _, _, _ => omega
  | _, _, 0, _, _, _, 0, _ => omega
  | _, _, 1, _, _, _, 1, _ => omega
  | _, _, 2, _, _, _, 2, _ => omega
  | _, _, 3, _, _, _, 3, _ => omega
  | _, _, _, _, 0, _, 0, _ => omega
  | _, _, _, _, 1, _, 1, _ => omega
  | _, _, _, _, 2, _, 2, _ => omega
  | _, _, _, _, 3, _, 3, _ => omega
theorem ahd_lt {D : DR} {c j k : Nat} (h : dP D (c * 4 + j) < dP D (c * 4 + k)) : ahd D c j k = !ls D c k j := by
  unfold ahd ls
  by_cases q : mU D c k * mV D c j < mU D c j * mV D c k
  · rw [decide_eq_true q, decide_eq_false (by omega)]; rfl
  · rw [decide_eq_false q, decide_eq_true (by omega)]; rfl
theorem ahd_gt {D : DR} {c j k : Nat} (h : dP D (c * 4 + k) < dP D (c * 4 + j)) : ahd D c j k = ls D c j k := by
  unfold ahd ls
  by_cases q : mU D c j * mV D c k < mU D c k * mV D c j
  · rw [decide_eq_true q, decide_eq_true (Or.inl q)]
  · rw [decide_eq_false q, decide_eq_false (by omega)]
theorem ite_bN (p : Prop) [Decidable p] (b : Bool) (h : p) : (if p ∧ b = true then 1 else 0) = bN b := by
  unfold bN
  by_cases c : b = true
  · rw [if_pos ⟨h, c⟩, if_pos c]
  · rw [if_neg (fun q => c q.2), if_neg c]
theorem rk_inv {D : DR} (hw : WF D) {c t : Nat} (hc : c < 4) (ht : t < 4) : rk D c (inv D c t) = rkB (ls D c (inv D c 1) (inv D c 0)) (ls D c (inv D c 2) (inv D c 0)) (ls D c (inv D c 3) (inv D c 0)) (ls D c (inv D c 2) (inv D c 1)) (ls D c (inv D c 3) (inv D c 1)) (ls D c (inv D c 3) (inv D c 2)) t := by
  obtain ⟨a0, p0⟩ := inv_ok hw hc (j := 0) (by omega)
  obtain ⟨a1, p1⟩ := inv_ok hw hc (j := 1) (by omega)
  obtain ⟨a2, p2⟩ := inv_ok hw hc (j := 2) (by omega)
  obtain ⟨a3, p3⟩ := inv_ok hw hc (j := 3) (by omega)
  have ne : ∀ i j, i < 4 → j < 4 → i ≠ j → inv D c i ≠ inv D c j := by
    intro i j hi hj h e
    have x := (inv_ok hw hc hi).2
    have y := (inv_ok hw hc hj).2
    rw [e] at x
    omega
  unfold rk rkN
  rw [perm4 _ a0 a1 a2 a3 (ne 0 1 (by omega) (by omega) (by omega)) (ne 0 2 (by omega) (by omega) (by omega)) (ne 0 3 (by omega) (by omega) (by omega)) (ne 1 2 (by omega) (by omega) (by omega)) (ne 1 3 (by omega) (by omega) (by omega)) (ne 2 3 (by omega) (by omega) (by omega))]
  have up : ∀ i j, i < j → j < 4 → (if inv D c i ≠ inv D c j ∧ ahd D c (inv D c i) (inv D c j) = true then 1 else 0) = bN (!ls D c (inv D c j) (inv D c i)) := by
    intro i j h hj
    have x := (inv_ok hw hc (j := i) (by omega)).2
    have y := (inv_ok hw hc hj).2
    rw [ite_bN _ _ (ne i j (by omega) hj (by omega)), ahd_lt (by omega)]
  have dn : ∀ i j, j < i → i < 4 → (if inv D c i ≠ inv D c j ∧ ahd D c (inv D c i) (inv D c j) = true then 1 else 0) = bN (ls D c (inv D c i) (inv D c j)) := by
    intro i j h hj
    have x := (inv_ok hw hc (j := i) (by omega)).2
    have y := (inv_ok hw hc (j := j) (by omega)).2
    rw [ite_bN _ _ (ne i j (by omega) (by omega) (by omega)), ahd_gt (by omega)]
  have eq : ∀ i, (if inv D c i ≠ inv D c i ∧ ahd D c (inv D c i) (inv D c i) = true then 1 else 0) = 0 := fun i => if_neg (fun h => h.1 rfl)
  show (if inv D c 0 ≠ inv D c t ∧ ahd D c (inv D c 0) (inv D c t) = true then 1 else 0) + (if inv D c 1 ≠ inv D c t ∧ ahd D c (inv D c 1) (inv D c t) = true then 1 else 0) + (if inv D c 2 ≠ inv D c t ∧ ahd D c (inv D c 2) (inv D c t) = true then 1 else 0) + (if inv D c 3 ≠ inv D c t ∧ ahd D c (inv D c 3) (inv D c t) = true then 1 else 0) = _
  match t, ht with
  | 0, _ => rw [eq, dn 1 0 (by omega) (by omega), dn 2 0 (by omega) (by omega), dn 3 0 (by omega) (by omega)]; show _ = bN _ + bN _ + bN _; omega
  | 1, _ => rw [eq, up 0 1 (by omega) (by omega), dn 2 1 (by omega) (by omega), dn 3 1 (by omega) (by omega)]; show _ = bN _ + bN _ + bN _; omega
  | 2, _ => rw [eq, up 0 2 (by omega) (by omega), up 1 2 (by omega) (by omega), dn 3 2 (by omega) (by omega)]; show _ = bN _ + bN _ + bN _; omega
  | 3, _ => rw [eq, up 0 3 (by omega) (by omega), up 1 3 (by omega) (by omega), up 2 3 (by omega) (by omega)]; show _ = bN _ + bN _ + bN _; omega
/-- the row after the sort: the post at each place -/
def srR (D : DR) (c : Nat) : Nat → Nat := srt (ls D c) (inv D c)
theorem srR_ok {D : DR} (hw : WF D) {c p : Nat} (hc : c < 4) (hp : p < 4) : srR D c p < 4 ∧ rk D c (srR D c p) = p := by
  have e := srt_nat (ls D c) (lbx (ls D c (inv D c 1) (inv D c 0)) (ls D c (inv D c 2) (inv D c 0)) (ls D c (inv D c 3) (inv D c 0)) (ls D c (inv D c 2) (inv D c 1)) (ls D c (inv D c 3) (inv D c 1)) (ls D c (inv D c 3) (inv D c 2))) (inv D c) (fun x y h1 h2 => by
    match x, h2, y, h1 with
    | 1, _, 0, _ => rfl
    | 2, _, 0, _ => rfl
    | 2, _, 1, _ => rfl
    | 3, _, 0, _ => rfl
    | 3, _, 1, _ => rfl
    | 3, _, 2, _ => rfl) p
  have tr : ∀ i j k, triB (ls D c (inv D c j) (inv D c i)) (ls D c (inv D c k) (inv D c j)) (ls D c (inv D c k) (inv D c i)) = true :=
    fun i j k => triB_of (fun h1 h2 => ls_tt h2 h1) (fun h1 h2 => ls_ff h2 h1)
  obtain ⟨k1, k2⟩ := srt_rkB (tr 0 1 2) (tr 0 1 3) (tr 0 2 3) (tr 1 2 3) hp
  unfold srR
  rw [e]
  refine ⟨(inv_ok hw hc k1).1, ?_⟩
  rw [rk_inv hw hc k1]
  exact k2
theorem srR_of {D : DR} (hw : WF D) {c k : Nat} (hc : c < 4) (hk : k < 4) : k = srR D c (rk D c k) := by
  obtain ⟨a0, p0⟩ := srR_ok hw hc (p := 0) (by omega)
  obtain ⟨a1, p1⟩ := srR_ok hw hc (p := 1) (by omega)
  obtain ⟨a2, p2⟩ := srR_ok hw hc (p := 2) (by omega)
  obtain ⟨a3, p3⟩ := srR_ok hw hc (p := 3) (by omega)
  have ne : ∀ i j, i < 4 → j < 4 → i ≠ j → srR D c i ≠ srR D c j := by
    intro i j hi hj h e
    have x := (srR_ok hw hc hi).2
    have y := (srR_ok hw hc hj).2
    rw [e] at x
    omega
  have d01 := ne 0 1 (by omega) (by omega) (by omega)
  have d02 := ne 0 2 (by omega) (by omega) (by omega)
  have d03 := ne 0 3 (by omega) (by omega) (by omega)
  have d12 := ne 1 2 (by omega) (by omega) (by omega)
  have d13 := ne 1 3 (by omega) (by omega) (by omega)
  have d23 := ne 2 3 (by omega) (by omega) (by omega)
  have h : k = srR D c 0 ∨ k = srR D c 1 ∨ k = srR D c 2 ∨ k = srR D c 3 := by omega
  rcases h with h | h | h | h <;> rw [h]
  · rw [p0]
  · rw [p1]
  · rw [p2]
  · rw [p3]
theorem swC_wf {D : DR} (hw : WF D) {c : Nat} (hc : c < 4) : WF (swC D c) := by
  obtain ⟨w1, w2, w3, w4⟩ := hw
  have hw : WF D := ⟨w1, w2, w3, w4⟩
  refine ⟨w1, ?_, ?_, w4⟩
  · intro p hp
    show (if p / 4 = c then rk D c (p % 4) else dP D p) < 4
    by_cases q : p / 4 = c
    · rw [if_pos q]; exact rk_lt D (by omega)
    · rw [if_neg q]; exact w2 p hp
  · intro p q hp hq hpq e
    have e : (if p / 4 = c then rk D c (p % 4) else dP D p) = (if q / 4 = c then rk D c (q % 4) else dP D q) := e
    by_cases h : p / 4 = c
    · rw [if_pos h, if_pos (by omega)] at e
      have x := srR_of hw hc (k := p % 4) (by omega)
      have y := srR_of hw hc (k := q % 4) (by omega)
      rw [e, ← y] at x
      omega
    · rw [if_neg h, if_neg (by omega)] at e
      exact w3 p q hp hq hpq e
