/-! ===== texts: letters and digits; the reference reads a ribbon ===== -/
def ltr (c : Nat) : Bool := decide (97 ≤ c ∧ c ≤ 112)
def dgt (c : Nat) : Bool := decide (48 ≤ c ∧ c ≤ 57)
def oth (c b : Nat) : Bool := ltr c && decide ((c - 97) / 4 ≠ (b - 97) / 4)
def aT (T : Nat → Nat) (n k : Nat) : Nat := if k < n then T k else 0
theorem ltr_t {c : Nat} (h : ltr c = true) : 97 ≤ c ∧ c ≤ 112 := of_decide_eq_true h
theorem dgt_t {c : Nat} (h : dgt c = true) : 48 ≤ c ∧ c ≤ 57 := of_decide_eq_true h
theorem sub_neg {a b : Nat} (ha : a < 1000) (hb : b < 1000) (h : a < b) : nI a - nI b < nI 0 := (sub_lt0 ha hb).mpr h
theorem r_isPostS {a : Nat} (ha : a < 200) : f_X7_isPost (nI a - nI 97) = some (bI (ltr a)) := by
  by_cases h : 97 ≤ a
  · rw [pk_sub h, r_isPost (by omega)]
    exact congrArg (fun b => some (bI b)) (decide_eq_decide.mpr (by omega))
  · unfold f_X7_isPost f_X7_in
    simp only [fa_lit]
    rw [if_pos (sub_neg (by omega) (by omega) (by omega))]
    simp only [bs]
    rw [if_pos (by decide)]
    unfold ltr
    rw [decide_eq_false (by omega)]
    rfl
theorem r_inS {a : Nat} (ha : a < 200) : f_X7_in (nI a - nI 48) (nI 1) (nI 9) = some (bI (decide (49 ≤ a ∧ a ≤ 57))) := by
  by_cases h : 48 ≤ a
  · rw [pk_sub h, r_in (by omega) (by omega) (by omega)]
    exact congrArg (fun b => some (bI b)) (decide_eq_decide.mpr (by omega))
  · unfold f_X7_in
    simp only [fa_lit]
    have e : nI a - nI 48 < nI 1 := by
      rw [Int32.lt_iff_toInt_lt, pk_sub_toInt (by omega) (by omega), nI_toInt (by omega)]; omega
    rw [if_pos e, decide_eq_false (by omega)]
    rfl
theorem r_at {t : Nat → Int32} {T : Nat → Nat} {n k : Nat} (ht : RR t T n) (hn : n ≤ 60) (hk : k < 100) : f_X7_at t (nI n) (nI k) = some (nI (aT T n k)) := by
  unfold f_X7_at aT
  simp only [fa_lit]
  by_cases h : k < n
  · rw [if_neg (nle_nI (by omega) (by omega) h), if_pos (gd_nI (by omega) (by omega)), cl_nI (by omega), ht k h, if_pos h]
  · rw [if_pos ((le_nI (by omega) (by omega)).mpr (by omega)), if_neg h]
/-- what the reference reads from the place p: the place behind it and the width, or the place of an error -/
def rb (A : Nat → Nat) (p : Nat) : Nat ⊕ (Nat × Nat) :=
  if ltr (A p) = false then .inl p else if oth (A (p + 1)) (A p) = false then .inl (p + 1) else if ¬ (49 ≤ A (p + 2) ∧ A (p + 2) ≤ 57) then .inl (p + 2)
  else if dgt (A (p + 3)) = true ∧ 10 * (A (p + 2) - 48) + A (p + 3) - 48 ≤ 50 then .inr (p + 4, 10 * (A (p + 2) - 48) + A (p + 3) - 48) else .inr (p + 3, A (p + 2) - 48)
def rdU (rd : Nat → Int32) (rs a b w : Nat) : Nat → Int32 := upd (upd (upd rd (3 * rs) (nI a)) (3 * rs + 1) (nI b)) (3 * rs + 2) (nI w)
theorem r_read_b {t : Nat → Int32} {n' x1 : Int32} {rd : Nat → Int32} {rs a b w q : Nat} (hr : rs < 20) : f_X7_readRibbon_b141 t n' x1 (nI a) (nI b) (nI w) (nI q) rd (nI rs) = some (nI q, rdU rd rs a b w, nI (rs + 1)) := by
  unfold f_X7_readRibbon_b141 rdU
  simp only [fa_lit, nme]
  rw [pk_mul, nI_step, nI_step, nI_step, if_pos (gd_nI (by omega) (by omega)), if_pos (gd_nI (by omega) (by omega)), if_pos (gd_nI (by omega) (by omega)), cl_nI (by omega), cl_nI (by omega), cl_nI (by omega)]
def rbV (v : Nat ⊕ (Nat × Nat)) (A : Nat → Nat) (p : Nat) (rd : Nat → Int32) (rs : Nat) : Int32 × (Nat → Int32) × Int32 := match v with
  | .inl e => (-nI 1 - nI e, rd, nI rs)
  | .inr (q, w) => (nI q, rdU rd rs (A p - 97) (A (p + 1) - 97) w, nI (rs + 1))
theorem neg_k (k p : Nat) : -nI (k + 1) - nI p = -nI 1 - nI (p + k) := by
  rw [← Int32.neg_add, ← Int32.neg_add, nI_add, nI_add]
  exact congrArg (fun x => -nI x) (by omega)
theorem if_pp {α : Type} {c : Prop} [Decidable c] {a b x : α} (h1 : c → a = x) (h2 : ¬ c → b = x) : (if c then a else b) = x := by
  by_cases h : c
  · rw [if_pos h]; exact h1 h
  · rw [if_neg h]; exact h2 h
set_option maxRecDepth 100000 in
theorem r_readRibbon {t : Nat → Int32} {T : Nat → Nat} {n p rs : Nat} (ht : RR t T n) (hn : n ≤ 60) (hT : ∀ k, k < n → T k ≤ 126) (hp : p ≤ n) (rd : Nat → Int32) (hr : rs < 20) :
    f_X7_readRibbon t (nI n) (nI p) rd (nI rs) = some (rbV (rb (aT T n) p) (aT T n) p rd rs) := by
  have hA : ∀ k, aT T n k ≤ 126 := by
    intro k
    unfold aT
    by_cases h : k < n
    · rw [if_pos h]; exact hT k h
    · rw [if_neg h]; omega
  unfold f_X7_readRibbon
  simp only [fa_lit, nme]
  rw [r_at ht hn (by omega), nI_step, nI_step, nI_step, r_at ht hn (by omega), r_at ht hn (by omega), r_at ht hn (by omega)]
  generalize hAA : aT T n = A at hA
  clear hAA
  simp only [bs]
  have a0 := hA p
  have a1 := hA (p + 1)
  have a2 := hA (p + 2)
  have a3 := hA (p + 3)
  rw [r_isPostS (by omega), r_isPostS (by omega), r_inS (by omega), r_in (by omega) (by omega) (by omega)]
  simp only [bs, bI_0]
  by_cases c0 : ltr (A p) = false
  · rw [if_pos c0]
    unfold rb
    rw [if_pos c0]
    rfl
  rw [if_neg c0]
  have d0 : ltr (A p) = true := by simpa using c0
  have e0 := ltr_t d0
  by_cases c1 : ltr (A (p + 1)) = false
  · rw [if_pos c1]
    unfold rb f_X7_readRibbon_b47 oth
    rw [if_neg c0, if_pos (by rw [c1]; rfl)]
    simp only [fa_lit]
    rw [neg_k 1 p]
    rfl
  rw [if_neg c1]
  have d1 : ltr (A (p + 1)) = true := by simpa using c1
  have e1 := ltr_t d1
  rw [pk_sub e0.1, pk_sub e1.1, div_nI (by omega) (by omega) (by omega), div_nI (by omega) (by omega) (by omega)]
  by_cases c2 : (A p - 97) / 4 = (A (p + 1) - 97) / 4
  · rw [if_pos (by rw [c2])]
    unfold rb f_X7_readRibbon_b47 oth
    rw [if_neg c0, if_pos (by rw [d1, decide_eq_false (by omega)]; rfl)]
    simp only [fa_lit]
    rw [neg_k 1 p]
    rfl
  rw [if_neg (by rw [eq_nI (by omega) (by omega)]; exact c2)]
  have d2 : ¬ oth (A (p + 1)) (A p) = false := by
    unfold oth
    rw [d1, decide_eq_true (by omega)]
    decide
  by_cases c3 : 49 ≤ A (p + 2) ∧ A (p + 2) ≤ 57
  · rw [if_neg (by rw [decide_eq_true c3]; decide), pk_sub (by omega)]
    have v : rb A p = if dgt (A (p + 3)) = true ∧ 10 * (A (p + 2) - 48) + A (p + 3) - 48 ≤ 50 then .inr (p + 4, 10 * (A (p + 2) - 48) + A (p + 3) - 48) else .inr (p + 3, A (p + 2) - 48) := by
      unfold rb
      rw [if_neg c0, if_neg d2, if_neg (fun z => z c3)]
    rw [v]
    by_cases c4 : dgt (A (p + 3)) = true
    · have e4 := dgt_t c4
      rw [if_neg (by rw [decide_eq_true e4]; decide), pk_mul, nI_step, pk_sub (by omega)]
      by_cases c5 : 10 * (A (p + 2) - 48) + A (p + 3) - 48 ≤ 50
      · rw [if_neg (nlt_nI (by omega) (by omega) c5), if_pos ⟨c4, c5⟩, nI_step, r_read_b hr]
        rfl
      · rw [if_pos ((lt_nI (by omega) (by omega)).mpr (by omega)), if_neg (fun z => c5 z.2), r_read_b hr]
        rfl
    · rw [if_pos (decide_eq_false (fun z => c4 (decide_eq_true z))), if_neg (fun z => c4 z.1), r_read_b hr]
      rfl
  · rw [if_pos (decide_eq_false c3)]
    unfold rb
    rw [if_neg c0, if_neg d2, if_pos c3]
    rw [neg_k 2 p]
    rfl
