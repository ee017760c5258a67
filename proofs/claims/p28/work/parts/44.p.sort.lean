/-! ===== sorting by insertion, and ranks ===== -/
theorem crossT {a b c u v w : Nat} (hv : 0 < v) (h1 : a * v ≤ b * u) (h2 : b * w ≤ c * v) : a * w ≤ c * u := by
  refine Nat.le_of_mul_le_mul_right ?_ hv
  have e1 : a * w * v = a * v * w := Nat.mul_right_comm a w v
  have e2 : c * u * v = c * v * u := Nat.mul_right_comm c u v
  have e3 : b * u * w = b * w * u := Nat.mul_right_comm b u w
  have i1 := Nat.mul_le_mul_right w h1
  have i2 := Nat.mul_le_mul_right u h2
  omega
theorem crossL {a b c u v w : Nat} (hu : 0 < u) (h1 : a * v ≤ b * u) (h2 : b * w < c * v) : a * w < c * u := by
  apply Nat.lt_of_not_le
  intro h
  exact Nat.lt_irrefl _ (Nat.lt_of_lt_of_le h2 (crossT hu h h1))
theorem crossR {a b c u v w : Nat} (hw : 0 < w) (h1 : a * v < b * u) (h2 : b * w ≤ c * v) : a * w < c * u := by
  apply Nat.lt_of_not_le
  intro h
  exact Nat.lt_irrefl _ (Nat.lt_of_lt_of_le h1 (crossT hw h2 h))
def ls (D : DR) (c j k : Nat) : Bool := decide (mU D c j * mV D c k < mU D c k * mV D c j)
theorem ls_neg {D : DR} {c j k : Nat} (h : ls D c j k = false) : mU D c k * mV D c j ≤ mU D c j * mV D c k := Nat.le_of_not_lt (of_decide_eq_false h)
theorem ls_pos {D : DR} {c j k : Nat} (h : ls D c j k = true) : mU D c j * mV D c k < mU D c k * mV D c j := of_decide_eq_true h
/-- less, and less again -/
theorem ls_tt {D : DR} {c i j k : Nat} (h1 : ls D c k j = true) (h2 : ls D c j i = true) : ls D c k i = true :=
  decide_eq_true (crossR (mV_pos D c i) (ls_pos h1) (Nat.le_of_lt (ls_pos h2)))
theorem ls_ff {D : DR} {c i j k : Nat} (h1 : ls D c k j = false) (h2 : ls D c j i = false) : ls D c k i = false :=
  decide_eq_false (Nat.not_lt_of_le (crossT (mV_pos D c j) (ls_neg h2) (ls_neg h1)))
def insB (L : Nat → Nat → Bool) (x : Nat) : Nat → (Nat → Nat) → Nat → Nat
  | 0, row => fun k => if k = 0 then x else row k
  | f + 1, row => if L x (row f) = true then insB L x f (fun k => if k = f + 1 then row f else row k) else fun k => if k = f + 1 then x else row k
def srt (L : Nat → Nat → Bool) (r : Nat → Nat) : Nat → Nat :=
  let a := insB L (r 1) 1 r
  let b := insB L (a 2) 2 a
  insB L (b 3) 3 b
theorem insB_out (L : Nat → Nat → Bool) (x : Nat) : ∀ (f : Nat) (row : Nat → Nat) (k : Nat), f < k → insB L x f row k = row k
  | 0, row, k, h => by
    show (if k = 0 then x else row k) = _
    rw [if_neg (by omega)]
  | f + 1, row, k, h => by
    unfold insB
    by_cases c : L x (row f) = true
    · rw [if_pos c, insB_out L x f _ k (by omega), if_neg (by omega)]
    · rw [if_neg c, if_neg (by omega)]
theorem insB_P (L : Nat → Nat → Bool) (P : Nat → Prop) (x : Nat) (hx : P x) : ∀ (f : Nat) (row : Nat → Nat), (∀ k, k < f → P (row k)) → ∀ k, k ≤ f → P (insB L x f row k)
  | 0, row, _, k, h => by
    show P (if k = 0 then x else row k)
    rw [if_pos (by omega)]; exact hx
  | f + 1, row, hr, k, h => by
    unfold insB
    by_cases c : L x (row f) = true
    · rw [if_pos c]
      by_cases e : k = f + 1
      · rw [insB_out L x f _ k (by omega), if_pos e]; exact hr f (by omega)
      · exact insB_P L P x hx f _ (fun j hj => by rw [if_neg (by omega)]; exact hr j (by omega)) k (by omega)
    · rw [if_neg c]
      by_cases e : k = f + 1
      · rw [if_pos e]; exact hx
      · rw [if_neg e]; exact hr k (by omega)
theorem insB_nat (L B : Nat → Nat → Bool) (r : Nat → Nat) (x : Nat) : ∀ (f : Nat) (row ro : Nat → Nat), (∀ k, row k = r (ro k)) → (∀ k, k < f → L (r x) (r (ro k)) = B x (ro k)) → ∀ k, insB L (r x) f row k = r (insB B x f ro k)
  | 0, row, ro, h, _, k => by
    show (if k = 0 then r x else row k) = r (if k = 0 then x else ro k)
    by_cases c : k = 0
    · rw [if_pos c, if_pos c]
    · rw [if_neg c, if_neg c, h k]
  | f + 1, row, ro, h, hL, k => by
    unfold insB
    rw [h f, hL f (by omega)]
    by_cases c : B x (ro f) = true
    · rw [if_pos c, if_pos c]
      refine insB_nat L B r x f _ _ (fun j => ?_) (fun j hj => ?_) k
      · by_cases e : j = f + 1
        · rw [if_pos e, if_pos e]
        · rw [if_neg e, if_neg e, h j]
      · rw [if_neg (by omega)]; exact hL j (by omega)
    · rw [if_neg c, if_neg c]
      by_cases e : k = f + 1
      · rw [if_pos e, if_pos e]
      · rw [if_neg e, if_neg e, h k]
theorem srt_nat (L B : Nat → Nat → Bool) (r : Nat → Nat) (h : ∀ x y, y < x → x < 4 → L (r x) (r y) = B x y) (k : Nat) : srt L r k = r (srt B (fun j => j) k) := by
  have a1 := insB_nat L B r 1 1 r (fun j => j) (fun _ => rfl) (fun k hk => h 1 k (by omega) (by omega))
  have p1 := insB_P B (fun y => y < 2) 1 (by omega) 1 (fun j => j) (fun k hk => by show k < 2; omega)
  have q1 : insB B 1 1 (fun j => j) 2 = 2 := insB_out B 1 1 _ 2 (by omega)
  have q2 : insB B 1 1 (fun j => j) 3 = 3 := insB_out B 1 1 _ 3 (by omega)
  have a2 := insB_nat L B r 2 2 (insB L (r 1) 1 r) (insB B 1 1 (fun j => j)) a1 (fun k hk => h 2 _ (p1 k (by omega)) (by omega))
  have p2 := insB_P B (fun y => y < 3) 2 (by omega) 2 (insB B 1 1 (fun j => j)) (fun k hk => by have : insB B 1 1 (fun j => j) k < 2 := p1 k (by omega); show _ < 3; omega)
  have q3 : insB B 2 2 (insB B 1 1 (fun j => j)) 3 = 3 := (insB_out B 2 2 _ 3 (by omega)).trans q2
  have a3 := insB_nat L B r 3 3 _ (insB B 2 2 (insB B 1 1 (fun j => j))) a2 (fun k hk => h 3 _ (p2 k (by omega)) (by omega)) k
  have e2 : insB L (r 1) 1 r 2 = r 2 := insB_out L _ 1 _ 2 (by omega)
  have e3 : insB L (r 2) 2 (insB L (r 1) 1 r) 3 = r 3 := (insB_out L _ 2 _ 3 (by omega)).trans (insB_out L _ 1 _ 3 (by omega))
  unfold srt
  simp only []
  rw [e2, e3, q1, q3]
  exact a3
/-- which of two goes ahead, by places x > y -/
def lbx (b01 b02 b03 b12 b13 b23 : Bool) (x y : Nat) : Bool :=
  if x = 1 then b01 else if x = 2 then (if y = 0 then b02 else b12) else (if y = 0 then b03 else if y = 1 then b13 else b23)
def bN (b : Bool) : Nat := if b = true then 1 else 0
def rkB (b01 b02 b03 b12 b13 b23 : Bool) (t : Nat) : Nat :=
  if t = 0 then bN b01 + bN b02 + bN b03 else if t = 1 then bN (!b01) + bN b12 + bN b13 else if t = 2 then bN (!b02) + bN (!b12) + bN b23 else bN (!b03) + bN (!b13) + bN (!b23)
def triB (a b c : Bool) : Bool := (!(a && b) || c) && (!(!a && !b) || !c)
def pB (b01 b02 b03 b12 b13 b23 : Bool) (p : Nat) : Bool := Nat.blt (srt (lbx b01 b02 b03 b12 b13 b23) (fun j => j) p) 4 && Nat.beq (rkB b01 b02 b03 b12 b13 b23 (srt (lbx b01 b02 b03 b12 b13 b23) (fun j => j) p)) p
def allB (b01 b02 b03 b12 b13 b23 : Bool) : Bool := !(triB b01 b12 b02 && triB b01 b13 b03 && triB b02 b23 b03 && triB b12 b23 b13) || (pB b01 b02 b03 b12 b13 b23 0 && pB b01 b02 b03 b12 b13 b23 1 && pB b01 b02 b03 b12 b13 b23 2 && pB b01 b02 b03 b12 b13 b23 3)
theorem allB_t (b01 b02 b03 b12 b13 b23 : Bool) : allB b01 b02 b03 b12 b13 b23 = true := by
  cases b01 <;> cases b02 <;> cases b03 <;> cases b12 <;> cases b13 <;> cases b23 <;> decide +kernel
theorem triB_of {a b c : Bool} (h1 : a = true → b = true → c = true) (h2 : a = false → b = false → c = false) : triB a b c = true := by
  cases a <;> cases b <;> cases c <;> simp_all [triB]
theorem srt_rkB {b01 b02 b03 b12 b13 b23 : Bool} (h1 : triB b01 b12 b02 = true) (h2 : triB b01 b13 b03 = true) (h3 : triB b02 b23 b03 = true) (h4 : triB b12 b23 b13 = true) {p : Nat} (hp : p < 4) :
    srt (lbx b01 b02 b03 b12 b13 b23) (fun j => j) p < 4 ∧ rkB b01 b02 b03 b12 b13 b23 (srt (lbx b01 b02 b03 b12 b13 b23) (fun j => j) p) = p := by
  have h := allB_t b01 b02 b03 b12 b13 b23
  unfold allB at h
  rw [h1, h2, h3, h4] at h
  simp only [Bool.and_self, Bool.not_true, Bool.false_or, Bool.and_eq_true] at h
  obtain ⟨⟨⟨k0, k1⟩, k2⟩, k3⟩ := h
  have key : ∀ q, pB b01 b02 b03 b12 b13 b23 q = true → srt (lbx b01 b02 b03 b12 b13 b23) (fun j => j) q < 4 ∧ rkB b01 b02 b03 b12 b13 b23 (srt (lbx b01 b02 b03 b12 b13 b23) (fun j => j) q) = q := by
    intro q hq
    unfold pB at hq
    rw [Bool.and_eq_true] at hq
    exact ⟨Nat.le_of_ble_eq_true hq.1, Nat.eq_of_beq_eq_true hq.2⟩
  match p, hp with
  | 0, _ => exact key 0 k0
  | 1, _ => exact key 1 k1
  | 2, _ => exact key 2 k2
  | 3, _ => exact key 3 k3
