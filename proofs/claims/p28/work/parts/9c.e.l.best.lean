/-! ===== the law's rows: the best order, by trying all ===== -/
/-- the first of the best so far -/
def fB (P : Nat → Bool) (X : Nat → Nat) : Nat → Option Nat
  | 0 => none
  | n + 1 => if P n = true then (match fB P X n with
    | none => some n
    | some m => if X n < X m then some n else some m) else fB P X n
theorem fB_y {P : Nat → Bool} {X : Nat → Nat} {n : Nat} (h : P n = true) : fB P X (n + 1) = (match fB P X n with
    | none => some n
    | some m => if X n < X m then some n else some m) := if_pos h
theorem fB_n {P : Nat → Bool} {X : Nat → Nat} {n : Nat} (h : ¬ P n = true) : fB P X (n + 1) = fB P X n := if_neg h
theorem fB_none {P : Nat → Bool} {X : Nat → Nat} : ∀ n, fB P X n = none → ∀ x, x < n → ¬ P x = true
  | 0, _, x, hx => absurd hx (Nat.not_lt_zero x)
  | n + 1, h, x, hx => by
    by_cases c : P n = true
    · rw [fB_y c] at h
      cases e : fB P X n with
      | none => rw [e] at h; cases h
      | some m =>
        rw [e] at h
        have h : (if X n < X m then some n else some m) = none := h
        by_cases q : X n < X m
        · rw [if_pos q] at h; cases h
        · rw [if_neg q] at h; cases h
    · rw [fB_n c] at h
      by_cases q : x = n
      · rw [q]; exact c
      · exact fB_none n h x (by omega)
theorem fB_some {P : Nat → Bool} {X : Nat → Nat} : ∀ n m, fB P X n = some m → m < n ∧ P m = true ∧ (∀ x, x < n → P x = true → X m ≤ X x) ∧ ∀ x, x < m → P x = true → X m < X x
  | 0, m, h => by cases h
  | n + 1, m, h => by
    by_cases c : P n = true
    · rw [fB_y c] at h
      cases e : fB P X n with
      | none =>
        rw [e] at h
        have h : n = m := Option.some.inj h
        subst h
        have z := fB_none n e
        refine ⟨by omega, c, fun x hx hp => ?_, fun x hx hp => absurd hp (z x hx)⟩
        by_cases q : x = n
        · rw [q]; exact Nat.le_refl _
        · exact absurd hp (z x (by omega))
      | some k =>
        rw [e] at h
        have h : (if X n < X k then some n else some k) = some m := h
        obtain ⟨a1, a2, a3, a4⟩ := fB_some n k e
        by_cases q : X n < X k
        · rw [if_pos q] at h
          have h : n = m := Option.some.inj h
          subst h
          refine ⟨by omega, c, fun x hx hp => ?_, fun x hx hp => ?_⟩
          · by_cases q2 : x = n
            · rw [q2]; exact Nat.le_refl _
            · have := a3 x (by omega) hp; omega
          · have := a3 x hx hp; omega
        · rw [if_neg q] at h
          have h : k = m := Option.some.inj h
          subst h
          refine ⟨by omega, a2, fun x hx hp => ?_, a4⟩
          by_cases q2 : x = n
          · rw [q2]; omega
          · exact a3 x (by omega) hp
    · rw [fB_n c] at h
      obtain ⟨a1, a2, a3, a4⟩ := fB_some n m h
      refine ⟨by omega, a2, fun x hx hp => ?_, a4⟩
      by_cases q2 : x = n
      · rw [q2] at hp; exact absurd hp c
      · exact a3 x (by omega) hp
theorem rB_fB (D : DR) (c : Nat) : ∀ n, rB D c n = fB (fun n => unl (dg n)) (fun n => xAll (orD D c (dg n))) n
  | 0 => rfl
  | n + 1 => by
    unfold rB fB
    rw [rB_fB D c n]
    by_cases u : unl (dg n) = true
    · rw [if_pos u, if_pos u]
      cases fB (fun n => unl (dg n)) (fun n => xAll (orD D c (dg n))) n with
      | none => rfl
      | some m => rfl
    · rw [if_neg u, if_neg u]
/-- the decimal digits of a code -/
def ed (k i : Nat) : Nat := if i = 0 then k / 10 / 10 / 10 % 10 else if i = 1 then k / 10 / 10 % 10 else if i = 2 then k / 10 % 10 else k % 10
def gdB (k : Nat) : Bool := decide (ed k 0 < 4 ∧ ed k 1 < 4 ∧ ed k 2 < 4 ∧ ed k 3 < 4) && unl (ed k)
def nC (k : Nat) : Nat := 64 * ed k 0 + 16 * ed k 1 + 4 * ed k 2 + ed k 3
theorem ed_0 (k : Nat) : ed k 0 = k / 10 / 10 / 10 % 10 := rfl
theorem ed_1 (k : Nat) : ed k 1 = k / 10 / 10 % 10 := rfl
theorem ed_2 (k : Nat) : ed k 2 = k / 10 % 10 := rfl
theorem ed_3 (k : Nat) : ed k 3 = k % 10 := rfl
theorem dg_0 (x : Nat) : dg x 0 = x / 4 / 4 / 4 % 4 := by
  show x / 64 % 4 = _
  rw [Nat.div_div_eq_div_mul, Nat.div_div_eq_div_mul]
theorem dg_1 (x : Nat) : dg x 1 = x / 4 / 4 % 4 := by
  show x / 16 % 4 = _
  rw [Nat.div_div_eq_div_mul]
theorem dg_2 (x : Nat) : dg x 2 = x / 4 % 4 := rfl
theorem dg_3 (x : Nat) : dg x 3 = x % 4 := by show x / 1 % 4 = x % 4; rw [Nat.div_one]
theorem gdB_of {k : Nat} (h : gdB k = true) : (∀ i, i < 4 → ed k i < 4) ∧ unl (ed k) = true := by
  unfold gdB at h
  rw [Bool.and_eq_true, decide_eq_true_eq] at h
  obtain ⟨⟨h0, h1, h2, h3⟩, hu⟩ := h
  refine ⟨fun i hi => ?_, hu⟩
  match i, hi with
  | 0, _ => exact h0
  | 1, _ => exact h1
  | 2, _ => exact h2
  | 3, _ => exact h3
theorem unl_cong {d e : Nat → Nat} (h : ∀ i, i < 4 → d i = e i) : unl d = unl e := by
  unfold unl
  rw [h 0 (by omega), h 1 (by omega), h 2 (by omega), h 3 (by omega)]
theorem orD_cong (D : DR) (c : Nat) {d e : Nat → Nat} (h : ∀ i, i < 4 → d i = e i) : orD D c d = orD D c e := by
  unfold orD ps
  rw [h 1 (by omega), h 2 (by omega), h 3 (by omega)]
theorem tell4_eq (d : Nat → Nat) : tell4 d = 1000 * d 0 + 100 * d 1 + 10 * d 2 + d 3 := by unfold tell4 tl; omega
theorem dg4 {a b c d : Nat} (ha : a < 4) (hb : b < 4) (hc : c < 4) (hd : d < 4) : dg (64 * a + 16 * b + 4 * c + d) 0 = a ∧ dg (64 * a + 16 * b + 4 * c + d) 1 = b ∧ dg (64 * a + 16 * b + 4 * c + d) 2 = c ∧ dg (64 * a + 16 * b + 4 * c + d) 3 = d := by
  rw [dg_0, dg_1, dg_2, dg_3]
  exact ⟨by omega, by omega, by omega, by omega⟩
theorem dg_all {x : Nat} (hx : x < 256) : x = 64 * dg x 0 + 16 * dg x 1 + 4 * dg x 2 + dg x 3 := by
  rw [dg_0, dg_1, dg_2, dg_3]
  omega
theorem ed_all {k : Nat} (hk : k < 10000) : k = 1000 * ed k 0 + 100 * ed k 1 + 10 * ed k 2 + ed k 3 := by
  rw [ed_0, ed_1, ed_2, ed_3]
  omega
/-- a good code and the number of its order -/
theorem nC_ok {k : Nat} (hk : k < 10000) (h : gdB k = true) : nC k < 256 ∧ (∀ i, i < 4 → dg (nC k) i = ed k i) ∧ tell4 (dg (nC k)) = k := by
  have hd := (gdB_of h).1
  have h0 := hd 0 (by omega)
  have h1 := hd 1 (by omega)
  have h2 := hd 2 (by omega)
  have h3 := hd 3 (by omega)
  have e : nC k = 64 * ed k 0 + 16 * ed k 1 + 4 * ed k 2 + ed k 3 := rfl
  obtain ⟨d0, d1, d2, d3⟩ := dg4 h0 h1 h2 h3
  rw [← e] at d0 d1 d2 d3
  refine ⟨by omega, fun i hi => ?_, ?_⟩
  · match i, hi with
    | 0, _ => exact d0
    | 1, _ => exact d1
    | 2, _ => exact d2
    | 3, _ => exact d3
  · rw [tell4_eq, d0, d1, d2, d3]
    exact (ed_all hk).symm
theorem tell_ed {x : Nat} (hx : x < 256) : tell4 (dg x) < 10000 ∧ (∀ i, i < 4 → ed (tell4 (dg x)) i = dg x i) := by
  have e := tell4_eq (dg x)
  have b0 := dg_lt x 0
  have b1 := dg_lt x 1
  have b2 := dg_lt x 2
  have b3 := dg_lt x 3
  refine ⟨by omega, fun i hi => ?_⟩
  match i, hi with
  | 0, _ => rw [ed_0]; omega
  | 1, _ => rw [ed_1]; omega
  | 2, _ => rw [ed_2]; omega
  | 3, _ => rw [ed_3]; omega
theorem tell_mono {x y : Nat} (h : x < y) (hy : y < 256) : tell4 (dg x) < tell4 (dg y) := by
  have ex := dg_all (show x < 256 by omega)
  have ey := dg_all hy
  have x0 := dg_lt x 0
  have x1 := dg_lt x 1
  have x2 := dg_lt x 2
  have x3 := dg_lt x 3
  have y0 := dg_lt y 0
  have y1 := dg_lt y 1
  have y2 := dg_lt y 2
  have y3 := dg_lt y 3
  rw [tell4_eq, tell4_eq]
  generalize dg x 0 = a at *
  generalize dg x 1 = b at *
  generalize dg x 2 = c at *
  generalize dg x 3 = d at *
  generalize dg y 0 = a' at *
  generalize dg y 1 = b' at *
  generalize dg y 2 = c' at *
  generalize dg y 3 = d' at *
  rcases Nat.lt_trichotomy a a' with q | q | q
  · omega
  · rcases Nat.lt_trichotomy b b' with r | r | r
    · omega
    · rcases Nat.lt_trichotomy c c' with s | s | s
      · omega
      · omega
      · omega
    · omega
  · omega
def rK (D : DR) (c : Nat) (n : Nat) : Option Nat := fB gdB (fun k => xAll (orD D c (ed k))) n
theorem rK_all {D : DR} (hw : WF D) (c : Nat) : rK D c 10000 = some (tell4 (bO D c)) := by
  have b := (best_found hw c).1
  rw [rB_fB] at b
  generalize hm : (bS (bV D c) 256).2 = m at b
  have hbo : bO D c = dg m := by unfold bO; rw [hm]
  rw [hbo]
  obtain ⟨a1, a2, a3, a4⟩ := fB_some 256 m b
  obtain ⟨t1, t2⟩ := tell_ed a1
  have g : gdB (tell4 (dg m)) = true := by
    unfold gdB
    rw [Bool.and_eq_true, decide_eq_true_eq, unl_cong t2]
    refine ⟨⟨?_, ?_, ?_, ?_⟩, a2⟩
    · rw [t2 0 (by omega)]; exact dg_lt m 0
    · rw [t2 1 (by omega)]; exact dg_lt m 1
    · rw [t2 2 (by omega)]; exact dg_lt m 2
    · rw [t2 3 (by omega)]; exact dg_lt m 3
  cases e : rK D c 10000 with
  | none => exact absurd g (fB_none 10000 e _ t1)
  | some k =>
    obtain ⟨k1, k2, k3, k4⟩ := fB_some 10000 k e
    obtain ⟨n1, n2, n3⟩ := nC_ok k1 k2
    have hu : unl (dg (nC k)) = true := by rw [unl_cong n2]; exact (gdB_of k2).2
    have x1 : xAll (orD D c (ed k)) = xAll (orD D c (dg (nC k))) := by rw [orD_cong D c n2]
    have x2 : xAll (orD D c (ed (tell4 (dg m)))) = xAll (orD D c (dg m)) := by rw [orD_cong D c t2]
    have l1 := a3 (nC k) n1 hu
    have l2 := k3 _ t1 g
    have l1 : xAll (orD D c (dg m)) ≤ xAll (orD D c (dg (nC k))) := l1
    have l2 : xAll (orD D c (ed k)) ≤ xAll (orD D c (ed (tell4 (dg m)))) := l2
    rcases Nat.lt_trichotomy m (nC k) with q | q | q
    · have s := k4 (tell4 (dg m)) (by rw [← n3]; exact tell_mono q n1) g
      have s : xAll (orD D c (ed k)) < xAll (orD D c (ed (tell4 (dg m)))) := s
      omega
    · rw [q, n3]
    · have s := a4 (nC k) q hu
      have s : xAll (orD D c (dg m)) < xAll (orD D c (dg (nC k))) := s
      omega
/-- what is seen of four digits -/
theorem seen15 : ∀ a, a < 10 → ∀ b, b < 10 → ∀ c, c < 10 → ∀ d, d < 10 → (decide ((((nI 0 ||| (nI 1 <<< (nI d &&& nI 31))) ||| (nI 1 <<< (nI c &&& nI 31))) ||| (nI 1 <<< (nI b &&& nI 31))) ||| (nI 1 <<< (nI a &&& nI 31)) = nI 15)) = (decide (a < 4 ∧ b < 4 ∧ c < 4 ∧ d < 4) && !(decide (a = b) || decide (a = c) || decide (a = d) || decide (b = c) || decide (b = d) || decide (c = d))) := by decide +kernel
def kO (o : Option Nat) : Int32 := match o with
  | none => -nI 1
  | some m => nI m
def kX (D : DR) (c : Nat) (o : Option Nat) : Int32 := match o with
  | none => nI 0
  | some m => nI (xAll (orD D c (ed m)))
def tD (c k p : Nat) (tr : Nat → Int32) : Nat → Int32 := if k % 10 < 4 then upd tr (c * 4 + k % 10) (nI p) else tr
theorem tD_y {c k p : Nat} {tr : Nat → Int32} (h : k % 10 < 4) : tD c k p tr = upd tr (c * 4 + k % 10) (nI p) := if_pos h
theorem tD_n {c k p : Nat} {tr : Nat → Int32} (h : ¬ k % 10 < 4) : tD c k p tr = tr := if_neg h
theorem l_digit {zr za : Nat → Int32} {x2 : Int32} {c : Nat} (hc : c < 4) (K15 : Int32 → Int32 → Int32 → (Nat → Int32) → Option Int32) (F : Nat) (x5 x6 x7 x8 : Int32) {q p : Nat} (hq : q < 10000) (hp : p < 4) (tr : Nat → Int32) :
    f_L_bestOrder_b58 zr za x2 (nI c) K15 (F + 1) x5 x6 x7 x8 (nI q) (nI p) tr = f_L_bestOrder_b58 zr za x2 (nI c) K15 F x5 x6 x7 (x8 ||| (nI 1 <<< (nI (q % 10) &&& nI 31))) (nI (q / 10)) (nI p + -nI 1) (tD c q p tr) := by
  have e1 : nI q - nI q / nI 10 * nI 10 = nI (q % 10) := pk_rem (by omega) (by omega) (by omega)
  have e2 : nI q / nI 10 = nI (q / 10) := div_nI (by omega) (by omega) (by omega)
  have e3 : nI 4 * nI c + nI (q % 10) = nI (c * 4 + q % 10) := c4i c (q % 10)
  have h10 : q % 10 < 10 := Nat.mod_lt _ (by omega)
  simp only [f_L_bestOrder_b58, f_L_bestOrder_b98, fa_lit, nme]
  rw [if_neg (nlt_nI (by omega) (by omega) (by omega)), e1, e3]
  by_cases h : q % 10 < 4
  · rw [if_neg (nle_nI (by omega) (by omega) h), if_pos (gd_nI (by omega) (by omega)), cl_nI (by omega), tD_y h, e2]
  · rw [if_pos ((le_nI (by omega) (by omega)).mpr (by omega)), tD_n h, e2]
/-- four digits tried -/
def trD4 (c k : Nat) (tr : Nat → Int32) : Nat → Int32 := tD c (k / 10 / 10 / 10) 0 (tD c (k / 10 / 10) 1 (tD c (k / 10) 2 (tD c k 3 tr)))
theorem trD4_ok {D : DR} {c k : Nat} {tr : Nat → Int32} (hk : k < 10000) (hp : RR tr (dP D) 16) (h : gdB k = true) : RR (trD4 c k tr) (dP (orD D c (ed k))) 16 := by
  obtain ⟨hd, hu⟩ := gdB_of h
  have d0 := hd 0 (by omega)
  have d1 := hd 1 (by omega)
  have d2 := hd 2 (by omega)
  have d3 := hd 3 (by omega)
  obtain ⟨u1, u2, u3, u4, u5, u6⟩ := unl_of hu
  have e0 : k / 10 / 10 / 10 % 10 = ed k 0 := (ed_0 k).symm
  have e1 : k / 10 / 10 % 10 = ed k 1 := (ed_1 k).symm
  have e2 : k / 10 % 10 = ed k 2 := by rw [ed_2]
  have e3 : k % 10 = ed k 3 := by rw [ed_3]
  have ht : trD4 c k tr = upd (upd (upd (upd tr (c * 4 + ed k 3) (nI 3)) (c * 4 + ed k 2) (nI 2)) (c * 4 + ed k 1) (nI 1)) (c * 4 + ed k 0) (nI 0) := by
    unfold trD4
    rw [tD_y (k := k) (by omega), tD_y (k := k / 10) (by omega), tD_y (k := k / 10 / 10) (by omega), tD_y (k := k / 10 / 10 / 10) (by omega), e0, e1, e2, e3]
  rw [ht]
  intro p hp16
  show upd (upd (upd (upd tr (c * 4 + ed k 3) (nI 3)) (c * 4 + ed k 2) (nI 2)) (c * 4 + ed k 1) (nI 1)) (c * 4 + ed k 0) (nI 0) p = nI (if p / 4 = c then ps (ed k) (p % 4) else dP D p)
  unfold ps
  by_cases q : p / 4 = c
  · rw [if_pos q]
    by_cases h3 : ed k 3 = p % 4
    · rw [if_pos h3, upd_w (by omega), upd_w (by omega), upd_w (by omega), show p = c * 4 + ed k 3 by omega, upd_q]
    · rw [if_neg h3]
      by_cases h2 : ed k 2 = p % 4
      · rw [if_pos h2, upd_w (by omega), upd_w (by omega), show p = c * 4 + ed k 2 by omega, upd_q]
      · rw [if_neg h2]
        by_cases h1 : ed k 1 = p % 4
        · rw [if_pos h1, upd_w (by omega), show p = c * 4 + ed k 1 by omega, upd_q]
        · rw [if_neg h1, show p = c * 4 + ed k 0 by omega, upd_q]
  · rw [if_neg q, upd_w (by omega), upd_w (by omega), upd_w (by omega), upd_w (by omega)]
    exact hp p hp16
theorem l_tryOne {zr za : Nat → Int32} {D : DR} (hz : LZ zr D) (hw : WF D) {c : Nat} (hc : c < 4) (K15 : Int32 → Int32 → Int32 → (Nat → Int32) → Option Int32) {k : Nat} (hk : k < 10000) {tr : Nat → Int32} (hp : RR tr (dP D) 16) (o : Option Nat) (ho : ∀ m, o = some m → m < 10000 ∧ gdB m = true) :
    ∃ tr', f_L_bestOrder_b58 zr za (nI (dN D)) (nI c) K15 FU (kO o) (kX D c o) (nI k) (nI 0) (nI k) (nI 3) tr = K15 (kO (if gdB k = true then (match o with
      | none => some k
      | some m => if xAll (orD D c (ed k)) < xAll (orD D c (ed m)) then some k else some m) else o)) (kX D c (if gdB k = true then (match o with
      | none => some k
      | some m => if xAll (orD D c (ed k)) < xAll (orD D c (ed m)) then some k else some m) else o)) (nI (k + 1)) tr' := by
  refine ⟨trD4 c k tr, ?_⟩
  obtain ⟨G, e⟩ : ∃ G, FU = G + 1 + 1 + 1 + 1 + 1 := ⟨5995, rfl⟩
  obtain ⟨n3, n2, n1, n0⟩ := down_nI
  rw [e, l_digit hc K15 _ _ _ _ _ hk (by omega), n3, l_digit hc K15 _ _ _ _ _ (q := k / 10) (by omega) (by omega), n2, l_digit hc K15 _ _ _ _ _ (q := k / 10 / 10) (by omega) (by omega), n1, l_digit hc K15 _ _ _ _ _ (q := k / 10 / 10 / 10) (by omega) (by omega), n0]
  have hs := seen15 (k / 10 / 10 / 10 % 10) (Nat.mod_lt _ (by omega)) (k / 10 / 10 % 10) (Nat.mod_lt _ (by omega)) (k / 10 % 10) (Nat.mod_lt _ (by omega)) (k % 10) (Nat.mod_lt _ (by omega))
  have e0 : k / 10 / 10 / 10 % 10 = ed k 0 := (ed_0 k).symm
  have e1 : k / 10 / 10 % 10 = ed k 1 := (ed_1 k).symm
  have e2 : k / 10 % 10 = ed k 2 := by rw [ed_2]
  have e3 : k % 10 = ed k 3 := by rw [ed_3]
  have hs2 : (decide (k / 10 / 10 / 10 % 10 < 4 ∧ k / 10 / 10 % 10 < 4 ∧ k / 10 % 10 < 4 ∧ k % 10 < 4) && !(decide (k / 10 / 10 / 10 % 10 = k / 10 / 10 % 10) || decide (k / 10 / 10 / 10 % 10 = k / 10 % 10) || decide (k / 10 / 10 / 10 % 10 = k % 10) || decide (k / 10 / 10 % 10 = k / 10 % 10) || decide (k / 10 / 10 % 10 = k % 10) || decide (k / 10 % 10 = k % 10))) = gdB k := by
    unfold gdB unl
    rw [e0, e1, e2, e3]
  rw [hs2] at hs
  rw [show tD c (k / 10 / 10 / 10) 0 (tD c (k / 10 / 10) 1 (tD c (k / 10) 2 (tD c k 3 tr))) = trD4 c k tr from rfl]
  generalize ((((nI 0 ||| (nI 1 <<< (nI (k % 10) &&& nI 31))) ||| (nI 1 <<< (nI (k / 10 % 10) &&& nI 31))) ||| (nI 1 <<< (nI (k / 10 / 10 % 10) &&& nI 31))) ||| (nI 1 <<< (nI (k / 10 / 10 / 10 % 10) &&& nI 31))) = sn at hs ⊢
  simp only [f_L_bestOrder_b58, f_L_bestOrder_b145, f_L_bestOrder_b153, fa_lit, nme]
  rw [if_pos m1_lt0, nI_step]
  by_cases g : gdB k = true
  · rw [g, decide_eq_true_eq] at hs
    rw [if_pos hs, if_pos g]
    have hd := gdB_of g
    have wo := orD_wf hw (c := c) hd.1 hd.2
    have cr := l_crossings (zr := zr) (D := orD D c (ed k)) hz (trD4_ok hk hp g) wo
    have cr : f_L_crossings zr (trD4 c k tr) (nI (dN D)) = some (nI (xAll (orD D c (ed k)))) := cr
    rw [cr]
    simp only [bs]
    cases o with
    | none =>
      rw [show kO none = -nI 1 from rfl, if_pos m1_lt0]
      rfl
    | some m =>
      obtain ⟨hm, gm⟩ := ho m rfl
      have dm := gdB_of gm
      have x1 := xAll_le wo
      have x2 := xAll_le (orD_wf hw (c := c) dm.1 dm.2)
      rw [show kO (some m) = nI m from rfl, show kX D c (some m) = nI (xAll (orD D c (ed m))) from rfl, if_neg (nlt_nI (by omega) (by omega) (by omega))]
      by_cases q : xAll (orD D c (ed k)) < xAll (orD D c (ed m))
      · rw [if_pos ((lt_nI (by omega) (by omega)).mpr q)]
        show _ = K15 (kO (if xAll (orD D c (ed k)) < xAll (orD D c (ed m)) then some k else some m)) (kX D c (if xAll (orD D c (ed k)) < xAll (orD D c (ed m)) then some k else some m)) _ _
        rw [if_pos q]
        rfl
      · rw [if_neg (nlt_nI (by omega) (by omega) (by omega))]
        show _ = K15 (kO (if xAll (orD D c (ed k)) < xAll (orD D c (ed m)) then some k else some m)) (kX D c (if xAll (orD D c (ed k)) < xAll (orD D c (ed m)) then some k else some m)) _ _
        rw [if_neg q]
        rfl
  · rw [show gdB k = false by simpa using g, decide_eq_false_iff_not] at hs
    rw [if_neg hs, if_neg g]
theorem l_copyAt {zr za : Nat → Int32} {D : DR} (hp : RR za (dP D) 16) (x2 x3 : Int32) (K15 : Int32 → Int32 → Int32 → (Nat → Int32) → Option Int32) (x5 x6 x7 x8 : Int32) (tr : Nat → Int32) :
    ∃ tr', f_L_bestOrder_b29 zr za x2 x3 K15 FU x5 x6 x7 x8 (nI 0) tr = f_L_bestOrder_b58 zr za x2 x3 K15 FU x5 x6 x7 x8 x7 (nI 3) tr' ∧ RR tr' (dP D) 16 := by
  have h := loopI (fun F i t => f_L_bestOrder_b29 zr za x2 x3 K15 F x5 x6 x7 x8 i t) (fun t => f_L_bestOrder_b58 zr za x2 x3 K15 FU x5 x6 x7 x8 x7 (nI 3) t) (fun i t => ∀ k, k < i → t k = nI (dP D k)) 16 (fun F i t hi hI => ⟨upd t i (nI (dP D i)), ?_, fun k hk => ?_⟩) (fun F t _ => ?_) 16 0 FU tr (by omega) (FU_big (by omega)) (fun k hk => absurd hk (Nat.not_lt_zero k))
  · exact h
  · show f_L_bestOrder_b29 zr za x2 x3 K15 (F + 1) x5 x6 x7 x8 (nI i) t = _
    simp only [f_L_bestOrder_b29, fa_lit, nme]
    rw [if_neg (nle_nI (by omega) (by omega) hi), if_pos (gd_nI hi (by omega)), if_pos (gd_nI hi (by omega)), cl_nI (by omega), hp i hi, nI_step]
  · by_cases q : k = i
    · rw [q, upd_q]
    · rw [upd_w q]; exact hI k (by omega)
  · show f_L_bestOrder_b29 zr za x2 x3 K15 (F + 1) x5 x6 x7 x8 (nI 16) t = _
    simp only [f_L_bestOrder_b29, fa_lit]
    rw [if_pos ((le_nI (by omega) (by omega)).mpr (Nat.le_refl _))]
theorem l_bestOrder {zr za : Nat → Int32} {D : DR} (hz : LZ zr D) (hp : RR za (dP D) 16) (hw : WF D) {c : Nat} (hc : c < 4) : f_L_bestOrder zr za (nI (dN D)) (nI c) = some (nI (tell4 (bO D c))) := by
  have h := loopI (fun F i (s : Int32 × Int32 × (Nat → Int32)) => f_L_bestOrder_b15 zr za (nI (dN D)) (nI c) F s.1 s.2.1 i s.2.2) (fun s => some s.1) (fun i s => s.1 = kO (rK D c i) ∧ s.2.1 = kX D c (rK D c i)) 10000 (fun F i s hi hI => ?_) (fun F s _ => ?_) 10000 0 FUB (-nI 1, nI 0, fun _ => nI 0) (by omega) (show 10000 < 20000 by omega) ⟨rfl, rfl⟩
  · obtain ⟨s, e1, e2, -⟩ := h
    rw [rK_all hw c] at e2
    unfold f_L_bestOrder
    simp only [fa_lit]
    refine e1.trans ?_
    rw [e2]
    rfl
  · obtain ⟨x5, x6, tr⟩ := s
    obtain ⟨h5, h6⟩ := hI
    have h5 : x5 = kO (rK D c i) := h5
    have h6 : x6 = kX D c (rK D c i) := h6
    subst h5 h6
    obtain ⟨t1, c1, c2⟩ := l_copyAt (zr := zr) hp (nI (dN D)) (nI c) (f_L_bestOrder_b15 zr za (nI (dN D)) (nI c) F) (kO (rK D c i)) (kX D c (rK D c i)) (nI i) (nI 0) tr
    obtain ⟨t2, c3⟩ := l_tryOne (za := za) hz hw hc (f_L_bestOrder_b15 zr za (nI (dN D)) (nI c) F) hi c2 (rK D c i) (fun m e => by
      obtain ⟨a1, a2, -, -⟩ := fB_some i m e
      exact ⟨by omega, a2⟩)
    refine ⟨(kO (rK D c (i + 1)), kX D c (rK D c (i + 1)), t2), ?_, rfl, rfl⟩
    show f_L_bestOrder_b15 zr za (nI (dN D)) (nI c) (F + 1) (kO (rK D c i)) (kX D c (rK D c i)) (nI i) tr = f_L_bestOrder_b15 zr za (nI (dN D)) (nI c) F (kO (rK D c (i + 1))) (kX D c (rK D c (i + 1))) (nI (i + 1)) t2
    refine Eq.trans ?_ c3
    rw [← c1]
    simp only [f_L_bestOrder_b15, fa_lit]
    rw [if_neg (nle_nI (by omega) (by omega) hi)]
  · show f_L_bestOrder_b15 zr za (nI (dN D)) (nI c) (F + 1) s.1 s.2.1 (nI 10000) s.2.2 = _
    simp only [f_L_bestOrder_b15, fa_lit]
    rw [if_pos ((le_nI (by omega) (by omega)).mpr (Nat.le_refl _))]
