/-! ===== numbers: small facts for the functions ===== -/
theorem fa_lit (n : Nat) : (OfNat.ofNat n : Int32) = nI n := Int32.toBitVec_inj.1 rfl
theorem bs {α β : Type} (a : α) (f : α → Option β) : Option.bind (some a) f = f a := of_eq_true (eq_self (f a))
theorem nme {α β : Type} (a : α) (f : α → β) : nm a f = f a := of_eq_true (eq_self (f a))
theorem lt_nI {a b : Nat} (ha : a < 2147483648) (hb : b < 2147483648) : nI a < nI b ↔ a < b := nI_ltI ha hb
theorem le_nI {a b : Nat} (ha : a < 2147483648) (hb : b < 2147483648) : nI a ≤ nI b ↔ a ≤ b := nI_leI ha hb
theorem eq_nI {a b : Nat} (ha : a < 2147483648) (hb : b < 2147483648) : nI a = nI b ↔ a = b := nI_eq ha hb
theorem cl_nI {n : Nat} (h : n < 2147483648) : (nI n).toNatClampNeg = n := nI_clamp h
theorem gd_nI {i n : Nat} (h : i < n) (hn : i < 2147483648) : gd (nI i) n = true := by
  unfold gd
  rw [nI_toInt hn, Bool.and_eq_true]
  exact ⟨decide_eq_true (by omega), decide_eq_true (by omega)⟩
theorem div_nI {a d : Nat} (ha : a < 2147483648) (h0 : 0 < d) (hd : d < 2147483648) : nI a / nI d = nI (a / d) := pk_div ha h0 hd
theorem m1_ne {a : Nat} (h : a < 2147483648) : (nI a = -nI 1) ↔ False := by
  constructor
  · intro e
    have h1 := congrArg Int32.toInt e
    rw [nI_toInt h] at h1
    have h2 : (-nI 1).toInt = -1 := by decide
    omega
  · exact False.elim
theorem m1_ne' {a : Nat} (h : a < 2147483648) : (-nI 1 = nI a) ↔ False := ⟨fun e => (m1_ne h).mp e.symm, False.elim⟩
theorem m1_lt : (-nI 1 < nI 0) ↔ True := by decide
def bI (b : Bool) : Int32 := if b = true then nI 1 else nI 0
theorem bI_0 (b : Bool) : (bI b = nI 0) ↔ b = false := by cases b <;> decide
theorem bI_zb (b : Bool) : zb (bI b) = true := by cases b <;> decide
theorem bI_t : bI true = nI 1 := rfl
theorem bI_f : bI false = nI 0 := rfl
/-- a for loop, told once: L F s i is the loop's function at its head with the fuel F, the state s, the counter i -/
def itr {σ : Type} (g : Nat → σ → σ) (s : σ) : Nat → σ
  | 0 => s
  | n + 1 => g n (itr g s n)
theorem loopA {σ ρ : Type} (L : Nat → σ → Int32 → ρ) (g : Nat → σ → σ) (s0 : σ) (n : Nat) (I : Nat → σ → Prop) (r : ρ) (h0 : I 0 s0)
    (hs : ∀ F i, i < n → I i (itr g s0 i) → L (F + 1) (itr g s0 i) (nI i) = L F (g i (itr g s0 i)) (nI (i + 1)) ∧ I (i + 1) (g i (itr g s0 i)))
    (he : ∀ F, I n (itr g s0 n) → L (F + 1) (itr g s0 n) (nI n) = r) : ∀ F, n < F → L F s0 (nI 0) = r := by
  have key : ∀ k i F, i + k = n → k < F → I i (itr g s0 i) → L F (itr g s0 i) (nI i) = r := by
    intro k
    induction k with
    | zero =>
      intro i F hi hF hI
      cases F with
      | zero => omega
      | succ F =>
        have e : i = n := by omega
        subst e
        exact he F hI
    | succ k ih =>
      intro i F hi hF hI
      cases F with
      | zero => omega
      | succ F =>
        obtain ⟨h1, h2⟩ := hs F i (by omega) hI
        rw [h1]
        exact ih (i + 1) F (by omega) (by omega) h2
  intro F hF
  exact key n 0 F (by omega) hF h0
theorem FU_big {n : Nat} (h : n < 6000) : n < FU := h
theorem FU_eq : FU = 6000 := rfl
/-- sums over the numbers below n -/
def sN (f : Nat → Nat) : Nat → Nat
  | 0 => 0
  | n + 1 => sN f n + f n
theorem sN_le {f : Nat → Nat} {c : Nat} : ∀ {n : Nat}, (∀ k, k < n → f k ≤ c) → sN f n ≤ n * c
  | 0, _ => Nat.zero_le _
  | n + 1, h => by
    have h1 := sN_le (n := n) (fun k hk => h k (by omega))
    have h2 := h n (by omega)
    show sN f n + f n ≤ (n + 1) * c
    rw [Nat.succ_mul]
    omega
theorem sN_cong {f g : Nat → Nat} : ∀ {n : Nat}, (∀ k, k < n → f k = g k) → sN f n = sN g n
  | 0, _ => rfl
  | n + 1, h => by
    show sN f n + f n = sN g n + g n
    rw [sN_cong (n := n) (fun k hk => h k (by omega)), h n (by omega)]
/-! ===== a drawing as numbers ===== -/
abbrev DR : Type := Nat × Int32 × (Nat → Nat) × (Nat → Nat) × (Nat → Nat) × (Nat → Nat)
def dN (D : DR) : Nat := D.1
def dT (D : DR) : Int32 := D.2.1
def dP (D : DR) : Nat → Nat := D.2.2.1
def dF (D : DR) : Nat → Nat := D.2.2.2.1
def dG (D : DR) : Nat → Nat := D.2.2.2.2.1
def dW (D : DR) : Nat → Nat := D.2.2.2.2.2
def on (D : DR) (r : Nat) : Bool := decide (dF D r / 4 < dG D r / 4)
/-- the rows hold the numbers g below n -/
def RR (f : Nat → Int32) (g : Nat → Nat) (n : Nat) : Prop := ∀ r, r < n → f r = nI (g r)
def WF (D : DR) : Prop := dN D ≤ 20 ∧ (∀ p, p < 16 → dP D p < 4) ∧ (∀ p q, p < 16 → q < 16 → p / 4 = q / 4 → dP D p = dP D q → p = q) ∧ ∀ r, r < dN D → dF D r < 16 ∧ dG D r < 16 ∧ dF D r / 4 ≠ dG D r / 4 ∧ dW D r ≤ 50
def DC (pl fr to wd : Nat → Int32) (n tr : Int32) (D : DR) : Prop := n = nI (dN D) ∧ tr = dT D ∧ RR pl (dP D) 16 ∧ RR fr (dF D) (dN D) ∧ RR to (dG D) (dN D) ∧ RR wd (dW D) (dN D)
/-! ===== the class: Drawing, the leaves ===== -/
theorem p_columnOf {a : Nat} (h : a < 16) : f_X6_columnOf (nI a) = some (nI (a / 4)) := by
  unfold f_X6_columnOf
  simp only [fa_lit]
  rw [div_nI (by omega) (by omega) (by omega)]
theorem p_isPost {a : Nat} (h : a < 2147483648) : f_X6_isPost (nI a) = some (bI (decide (a < 16))) := by
  unfold f_X6_isPost
  simp only [fa_lit]
  rw [if_neg (by rw [lt_nI h (by omega)]; omega)]
  by_cases h1 : a < 16
  · rw [if_neg (by rw [le_nI (by omega) h]; omega), decide_eq_true h1]; rfl
  · rw [if_pos (by rw [le_nI (by omega) h]; omega), decide_eq_false h1]; rfl
theorem p_isInner {a : Nat} (h : a < 2147483648) : f_X6_isInner (nI a) = some (bI (decide (4 ≤ a ∧ a < 12))) := by
  unfold f_X6_isInner
  simp only [fa_lit]
  by_cases h0 : a < 4
  · rw [if_pos (by rw [lt_nI h (by omega)]; omega), decide_eq_false (by omega)]; rfl
  · rw [if_neg (by rw [lt_nI h (by omega)]; omega)]
    by_cases h1 : a < 12
    · rw [if_neg (by rw [le_nI (by omega) h]; omega), decide_eq_true (by omega)]; rfl
    · rw [if_pos (by rw [le_nI (by omega) h]; omega), decide_eq_false (by omega)]; rfl
theorem p_placeOf {pl : Nat → Int32} {g : Nat → Nat} (h : RR pl g 16) {p : Nat} (hp : p < 16) : f_X1_placeOf pl (nI p) = some (nI (g p)) := by
  unfold f_X1_placeOf
  simp only [fa_lit]
  rw [if_neg (by rw [lt_nI (by omega) (by omega)]; omega), if_neg (by rw [le_nI (by omega) (by omega)]; omega), if_pos (gd_nI hp (by omega)), cl_nI (by omega), h p hp]
theorem p_fromOf {fr : Nat → Int32} {g : Nat → Nat} {n : Nat} (h : RR fr g n) (hn : n ≤ 20) {r : Nat} (hr : r < n) : f_X1_fromOf fr (nI r) = some (nI (g r)) := by
  unfold f_X1_fromOf
  simp only [fa_lit]
  rw [if_neg (by rw [lt_nI (by omega) (by omega)]; omega), if_neg (by rw [le_nI (by omega) (by omega)]; omega), if_pos (gd_nI (by omega) (by omega)), cl_nI (by omega), h r hr]
theorem p_toOf {to : Nat → Int32} {g : Nat → Nat} {n : Nat} (h : RR to g n) (hn : n ≤ 20) {r : Nat} (hr : r < n) : f_X1_toOf to (nI r) = some (nI (g r)) := by
  unfold f_X1_toOf
  simp only [fa_lit]
  rw [if_neg (by rw [lt_nI (by omega) (by omega)]; omega), if_neg (by rw [le_nI (by omega) (by omega)]; omega), if_pos (gd_nI (by omega) (by omega)), cl_nI (by omega), h r hr]
theorem p_widthOf {wd : Nat → Int32} {g : Nat → Nat} {n : Nat} (h : RR wd g n) (hn : n ≤ 20) {r : Nat} (hr : r < n) : f_X1_widthOf wd (nI r) = some (nI (g r)) := by
  unfold f_X1_widthOf
  simp only [fa_lit]
  rw [if_neg (by rw [lt_nI (by omega) (by omega)]; omega), if_neg (by rw [le_nI (by omega) (by omega)]; omega), if_pos (gd_nI (by omega) (by omega)), cl_nI (by omega), h r hr]
theorem p_hasRibbon {n a : Nat} (hn : n ≤ 20) (ha : a < 2147483648) : f_X1_hasRibbon (nI n) (nI a) = some (bI (decide (a < n))) := by
  unfold f_X1_hasRibbon
  simp only [fa_lit]
  rw [if_neg (by rw [lt_nI (by omega) (by omega)]; omega)]
  by_cases h : a < n
  · rw [if_neg (by rw [le_nI (by omega) (by omega)]; omega), if_neg (by rw [le_nI (by omega) (by omega)]; omega), decide_eq_true h]; rfl
  · rw [if_pos (by rw [le_nI (by omega) (by omega)]; omega), decide_eq_false h]; rfl
theorem p_goesOn {fr to : Nat → Int32} {D : DR} (hf : RR fr (dF D) (dN D)) (hg : RR to (dG D) (dN D)) (hw : WF D) {r : Nat} (hr : r < dN D) : f_X1_goesOn fr to (nI r) = some (bI (on D r)) := by
  have hn := hw.1
  obtain ⟨h1, h2, -, -⟩ := hw.2.2.2 r hr
  unfold f_X1_goesOn
  simp only [fa_lit]
  rw [if_neg (by rw [lt_nI (by omega) (by omega)]; omega), if_neg (by rw [le_nI (by omega) (by omega)]; omega), if_pos (gd_nI (by omega) (by omega)), if_pos (gd_nI (by omega) (by omega)), cl_nI (by omega), hf r hr, hg r hr, div_nI (by omega) (by omega) (by omega), div_nI (by omega) (by omega) (by omega)]
  unfold on
  by_cases h : dF D r / 4 < dG D r / 4
  · rw [if_neg (by rw [le_nI (by omega) (by omega)]; omega), decide_eq_true h]; rfl
  · rw [if_pos (by rw [le_nI (by omega) (by omega)]; omega), decide_eq_false h]; rfl
/-- goes on, between just these columns -/
def jn (D : DR) (r a b : Nat) : Bool := decide (a < b) && decide (dF D r / 4 = a) && decide (dG D r / 4 = b)
theorem p_joins {fr to : Nat → Int32} {D : DR} (hf : RR fr (dF D) (dN D)) (hg : RR to (dG D) (dN D)) (hw : WF D) {r a b : Nat} (hr : r < dN D) (ha : a < 16) (hb : b < 16) : f_X1_joins fr to (nI r) (nI a) (nI b) = some (bI (jn D r a b)) := by
  have hn := hw.1
  obtain ⟨h1, h2, -, -⟩ := hw.2.2.2 r hr
  unfold f_X1_joins jn
  rw [p_fromOf hf hn hr, p_toOf hg hn hr]
  simp only [fa_lit, bs]
  rw [p_columnOf h1, p_columnOf h2]
  simp only [bs]
  by_cases c : a < b
  · rw [if_neg (by rw [le_nI (by omega) (by omega)]; omega), decide_eq_true c]
    by_cases c1 : dF D r / 4 = a
    · rw [if_pos (by rw [c1]), decide_eq_true c1]
      by_cases c2 : dG D r / 4 = b
      · rw [if_pos (by rw [c2]), decide_eq_true c2]; rfl
      · rw [if_neg (by rw [eq_nI (by omega) (by omega)]; exact c2), decide_eq_false c2]; rfl
    · rw [if_neg (by rw [eq_nI (by omega) (by omega)]; exact c1), decide_eq_false c1]; rfl
  · rw [if_pos (by rw [le_nI (by omega) (by omega)]; omega), decide_eq_false c]; rfl
/-- two ribbons cross -/
def crs (D : DR) (r q : Nat) : Bool := jn D q (dF D r / 4) (dG D r / 4) && (decide (dP D (dF D r) < dP D (dF D q) ∧ dP D (dG D q) < dP D (dG D r)) || decide (dP D (dF D q) < dP D (dF D r) ∧ dP D (dG D r) < dP D (dG D q)))
theorem sub_lt0 {a b : Nat} (ha : a < 1000) (hb : b < 1000) : (nI a - nI b < nI 0) ↔ a < b := by
  rw [Int32.lt_iff_toInt_lt, pk_sub_toInt (by omega) (by omega), nI_toInt (by omega)]; omega
theorem sub_gt0 {a b : Nat} (ha : a < 1000) (hb : b < 1000) : (nI 0 < nI a - nI b) ↔ b < a := by
  rw [Int32.lt_iff_toInt_lt, pk_sub_toInt (by omega) (by omega), nI_toInt (by omega)]; omega
theorem sub_le0 {a b : Nat} (ha : a < 1000) (hb : b < 1000) : (nI a - nI b ≤ nI 0) ↔ a ≤ b := by
  rw [Int32.le_iff_toInt_le, pk_sub_toInt (by omega) (by omega), nI_toInt (by omega)]; omega
theorem sub_ge0 {a b : Nat} (ha : a < 1000) (hb : b < 1000) : (nI 0 ≤ nI a - nI b) ↔ b ≤ a := by
  rw [Int32.le_iff_toInt_le, pk_sub_toInt (by omega) (by omega), nI_toInt (by omega)]; omega
theorem crs_if (a b c d : Nat) : (if b ≤ a then (if a ≤ b then some (nI 0) else if d ≤ c then some (nI 0) else some (nI 1)) else (if d < c then some (nI 1) else (if a ≤ b then some (nI 0) else if d ≤ c then some (nI 0) else some (nI 1)))) = some (bI (decide (a < b ∧ d < c) || decide (b < a ∧ c < d))) := by
  by_cases h1 : b ≤ a
  · rw [if_pos h1, decide_eq_false (show ¬ (a < b ∧ d < c) by omega)]
    by_cases h2 : a ≤ b
    · rw [if_pos h2, decide_eq_false (show ¬ (b < a ∧ c < d) by omega)]; rfl
    · rw [if_neg h2]
      by_cases h3 : d ≤ c
      · rw [if_pos h3, decide_eq_false (show ¬ (b < a ∧ c < d) by omega)]; rfl
      · rw [if_neg h3, decide_eq_true (show b < a ∧ c < d by omega)]; rfl
  · rw [if_neg h1, decide_eq_false (show ¬ (b < a ∧ c < d) by omega)]
    by_cases h2 : d < c
    · rw [if_pos h2, decide_eq_true (show a < b ∧ d < c by omega)]; rfl
    · rw [if_neg h2, if_pos (show a ≤ b by omega), decide_eq_false (show ¬ (a < b ∧ d < c) by omega)]; rfl
set_option maxRecDepth 100000 in
theorem p_cross {pl fr to : Nat → Int32} {D : DR} (hp : RR pl (dP D) 16) (hf : RR fr (dF D) (dN D)) (hg : RR to (dG D) (dN D)) (hw : WF D) {r q : Nat} (hr : r < dN D) (hq : q < dN D) : f_X1_cross pl fr to (nI r) (nI q) = some (bI (crs D r q)) := by
  have hn := hw.1
  obtain ⟨h1, h2, -, -⟩ := hw.2.2.2 r hr
  obtain ⟨h3, h4, -, -⟩ := hw.2.2.2 q hq
  have b1 := hw.2.1 _ h1
  have b2 := hw.2.1 _ h2
  have b3 := hw.2.1 _ h3
  have b4 := hw.2.1 _ h4
  unfold f_X1_cross f_X1_cross_b77 f_X1_cross_b87 crs
  simp only [fa_lit, nme]
  rw [p_fromOf hf hn hr, p_toOf hg hn hr]
  simp only [bs]
  rw [p_columnOf h1, p_columnOf h2]
  simp only [bs]
  rw [p_joins hf hg hw hq (by omega) (by omega)]
  simp only [bs, bI_0]
  by_cases c : jn D q (dF D r / 4) (dG D r / 4) = false
  · rw [if_pos c, c]; rfl
  · rw [if_neg c]
    have c' : jn D q (dF D r / 4) (dG D r / 4) = true := by simpa using c
    rw [p_placeOf hp h1, p_fromOf hf hn hq, c']
    simp only [bs]
    rw [p_placeOf hp h3, p_placeOf hp h2, p_toOf hg hn hq]
    simp only [bs]
    rw [p_placeOf hp h4]
    simp only [bs, Bool.true_and]
    have e1 := sub_ge0 (a := dP D (dF D r)) (b := dP D (dF D q)) (by omega) (by omega)
    have e2 := sub_gt0 (a := dP D (dG D r)) (b := dP D (dG D q)) (by omega) (by omega)
    have e3 := sub_le0 (a := dP D (dF D r)) (b := dP D (dF D q)) (by omega) (by omega)
    have e4 := sub_ge0 (a := dP D (dG D r)) (b := dP D (dG D q)) (by omega) (by omega)
    simp only [e1, e2, e3, e4]
    exact crs_if _ _ _ _
