/-! ===== the world of the class ===== -/
abbrev XA : Type := Nat × Nat × Nat × Nat × Nat × Nat × Nat × Nat × Nat × Nat × Nat × Nat × Nat × Nat × Nat × Nat × Nat × Nat × Nat × Nat × Nat × Nat × Nat × Nat × Nat × Nat × Nat × Nat × Nat × Nat × Nat × Nat × Nat × Nat
abbrev XC : Type := (Nat → Int32) × (Nat → Int32) × (Nat → Int32) × (Nat → Int32) × Int32 × Int32 × (Nat → Int32) × (Nat → Int32) × (Nat → Int32) × (Nat → Int32) × Int32 × Int32 × (Nat → Option Nat) × (Nat → Option Nat) × Int32 × Int32 × (Nat → Int32) × Int32 × (Nat → Int32) × (Nat → Int32) × Int32 × (Nat → Int32) × (Nat → Int32) × (Nat → Int32) × (Nat → Int32) × (Nat → Int32) × (Nat → Int32) × (Nat → Int32) × (Nat → Int32) × (Nat → Int32) × (Nat → Int32) × (Nat → Int32) × (Nat → Int32) × Int32 × (Nat → Int32)
def XW (T : TY) (a : XA) (c : XC) : va_W := [(a.1, .inr (6, [.ref a.2.1, .ref a.2.2.2.2.2.2.1, .ref a.2.2.2.2.2.2.2.2.2.2.2.1, .ref a.2.2.2.2.2.2.2.2.2.2.2.2.1, .ref a.2.2.2.2.2.2.2.2.2.2.2.2.2.2.1, .ref a.2.2.2.2.2.2.2.2.2.2.2.2.2.2.2.2.1, .ref a.2.2.2.2.2.2.2.2.2.2.2.2.2.2.2.2.2.2.2.2.1, .ref a.2.2.2.2.2.2.2.2.2.2.2.2.2.2.2.2.2.2.2.2.2.2.2.2.2.2.1])), (a.2.1, .inr (1, [.ref a.2.2.1, .ref a.2.2.2.1, .ref a.2.2.2.2.1, .ref a.2.2.2.2.2.1, .int c.2.2.2.2.1, .int c.2.2.2.2.2.1])), (a.2.2.1, .inl (T.1, (16, .inl c.1))), (a.2.2.2.1, .inl (T.1, (20, .inl c.2.1))), (a.2.2.2.2.1, .inl (T.1, (20, .inl c.2.2.1))), (a.2.2.2.2.2.1, .inl (T.1, (20, .inl c.2.2.2.1))), (a.2.2.2.2.2.2.1, .inr (1, [.ref a.2.2.2.2.2.2.2.1, .ref a.2.2.2.2.2.2.2.2.1, .ref a.2.2.2.2.2.2.2.2.2.1, .ref a.2.2.2.2.2.2.2.2.2.2.1, .int c.2.2.2.2.2.2.2.2.2.2.1, .int c.2.2.2.2.2.2.2.2.2.2.2.1])), (a.2.2.2.2.2.2.2.1, .inl (T.1, (16, .inl c.2.2.2.2.2.2.1))), (a.2.2.2.2.2.2.2.2.1, .inl (T.1, (20, .inl c.2.2.2.2.2.2.2.1))), (a.2.2.2.2.2.2.2.2.2.1, .inl (T.1, (20, .inl c.2.2.2.2.2.2.2.2.1))), (a.2.2.2.2.2.2.2.2.2.2.1, .inl (T.1, (20, .inl c.2.2.2.2.2.2.2.2.2.1))), (a.2.2.2.2.2.2.2.2.2.2.2.1, .inl (T.2.2.1, (2, .inr (.inr (.inr (.inr c.2.2.2.2.2.2.2.2.2.2.2.2.1)))))), (a.2.2.2.2.2.2.2.2.2.2.2.2.1, .inr (3, [.ref a.2.2.2.2.2.2.2.2.2.2.2.2.2.1, .int c.2.2.2.2.2.2.2.2.2.2.2.2.2.2.1, .int c.2.2.2.2.2.2.2.2.2.2.2.2.2.2.2.1])), (a.2.2.2.2.2.2.2.2.2.2.2.2.2.1, .inl (T.2.2.1, (6, .inr (.inr (.inr (.inr c.2.2.2.2.2.2.2.2.2.2.2.2.2.1)))))), (a.2.2.2.2.2.2.2.2.2.2.2.2.2.2.1, .inr (4, [.ref a.2.2.2.2.2.2.2.2.2.2.2.2.2.2.2.1, .int c.2.2.2.2.2.2.2.2.2.2.2.2.2.2.2.2.2.1])), (a.2.2.2.2.2.2.2.2.2.2.2.2.2.2.2.1, .inl (T.1, (60, .inl c.2.2.2.2.2.2.2.2.2.2.2.2.2.2.2.2.1))), (a.2.2.2.2.2.2.2.2.2.2.2.2.2.2.2.2.1, .inr (0, [.ref a.2.2.2.2.2.2.2.2.2.2.2.2.2.2.2.2.2.1, .ref a.2.2.2.2.2.2.2.2.2.2.2.2.2.2.2.2.2.2.1, .int c.2.2.2.2.2.2.2.2.2.2.2.2.2.2.2.2.2.2.2.2.1, .ref a.2.2.2.2.2.2.2.2.2.2.2.2.2.2.2.2.2.2.2.1])), (a.2.2.2.2.2.2.2.2.2.2.2.2.2.2.2.2.2.1, .inl (T.1, (20, .inl c.2.2.2.2.2.2.2.2.2.2.2.2.2.2.2.2.2.2.1))), (a.2.2.2.2.2.2.2.2.2.2.2.2.2.2.2.2.2.2.1, .inl (T.1, (20, .inl c.2.2.2.2.2.2.2.2.2.2.2.2.2.2.2.2.2.2.2.1))), (a.2.2.2.2.2.2.2.2.2.2.2.2.2.2.2.2.2.2.2.1, .inl (T.1, (4, .inl c.2.2.2.2.2.2.2.2.2.2.2.2.2.2.2.2.2.2.2.2.2.1))), (a.2.2.2.2.2.2.2.2.2.2.2.2.2.2.2.2.2.2.2.2.1, .inr (2, [.ref a.2.2.2.2.2.2.2.2.2.2.2.2.2.2.2.2.2.2.2.2.2.1, .ref a.2.2.2.2.2.2.2.2.2.2.2.2.2.2.2.2.2.2.2.2.2.2.1, .ref a.2.2.2.2.2.2.2.2.2.2.2.2.2.2.2.2.2.2.2.2.2.2.2.1, .ref a.2.2.2.2.2.2.2.2.2.2.2.2.2.2.2.2.2.2.2.2.2.2.2.2.1, .ref a.2.2.2.2.2.2.2.2.2.2.2.2.2.2.2.2.2.2.2.2.2.2.2.2.2.1])), (a.2.2.2.2.2.2.2.2.2.2.2.2.2.2.2.2.2.2.2.2.2.1, .inl (T.1, (4, .inl c.2.2.2.2.2.2.2.2.2.2.2.2.2.2.2.2.2.2.2.2.2.2.1))), (a.2.2.2.2.2.2.2.2.2.2.2.2.2.2.2.2.2.2.2.2.2.2.1, .inl (T.1, (4, .inl c.2.2.2.2.2.2.2.2.2.2.2.2.2.2.2.2.2.2.2.2.2.2.2.1))), (a.2.2.2.2.2.2.2.2.2.2.2.2.2.2.2.2.2.2.2.2.2.2.2.1, .inl (T.1, (4, .inl c.2.2.2.2.2.2.2.2.2.2.2.2.2.2.2.2.2.2.2.2.2.2.2.2.1))), (a.2.2.2.2.2.2.2.2.2.2.2.2.2.2.2.2.2.2.2.2.2.2.2.2.1, .inl (T.1, (4, .inl c.2.2.2.2.2.2.2.2.2.2.2.2.2.2.2.2.2.2.2.2.2.2.2.2.2.1))), (a.2.2.2.2.2.2.2.2.2.2.2.2.2.2.2.2.2.2.2.2.2.2.2.2.2.1, .inl (T.1, (16, .inl c.2.2.2.2.2.2.2.2.2.2.2.2.2.2.2.2.2.2.2.2.2.2.2.2.2.2.1))), (a.2.2.2.2.2.2.2.2.2.2.2.2.2.2.2.2.2.2.2.2.2.2.2.2.2.2.1, .inr (5, [.ref a.2.2.2.2.2.2.2.2.2.2.2.2.2.2.2.2.2.2.2.2.2.2.2.2.2.2.2.1, .ref a.2.2.2.2.2.2.2.2.2.2.2.2.2.2.2.2.2.2.2.2.2.2.2.2.2.2.2.2.1, .ref a.2.2.2.2.2.2.2.2.2.2.2.2.2.2.2.2.2.2.2.2.2.2.2.2.2.2.2.2.2.1, .ref a.2.2.2.2.2.2.2.2.2.2.2.2.2.2.2.2.2.2.2.2.2.2.2.2.2.2.2.2.2.2.1, .ref a.2.2.2.2.2.2.2.2.2.2.2.2.2.2.2.2.2.2.2.2.2.2.2.2.2.2.2.2.2.2.2.1, .ref a.2.2.2.2.2.2.2.2.2.2.2.2.2.2.2.2.2.2.2.2.2.2.2.2.2.2.2.2.2.2.2.2.1, .int c.2.2.2.2.2.2.2.2.2.2.2.2.2.2.2.2.2.2.2.2.2.2.2.2.2.2.2.2.2.2.2.2.2.1, .ref a.2.2.2.2.2.2.2.2.2.2.2.2.2.2.2.2.2.2.2.2.2.2.2.2.2.2.2.2.2.2.2.2.2])), (a.2.2.2.2.2.2.2.2.2.2.2.2.2.2.2.2.2.2.2.2.2.2.2.2.2.2.2.1, .inl (T.1, (20, .inl c.2.2.2.2.2.2.2.2.2.2.2.2.2.2.2.2.2.2.2.2.2.2.2.2.2.2.2.1))), (a.2.2.2.2.2.2.2.2.2.2.2.2.2.2.2.2.2.2.2.2.2.2.2.2.2.2.2.2.1, .inl (T.1, (16, .inl c.2.2.2.2.2.2.2.2.2.2.2.2.2.2.2.2.2.2.2.2.2.2.2.2.2.2.2.2.1))), (a.2.2.2.2.2.2.2.2.2.2.2.2.2.2.2.2.2.2.2.2.2.2.2.2.2.2.2.2.2.1, .inl (T.1, (16, .inl c.2.2.2.2.2.2.2.2.2.2.2.2.2.2.2.2.2.2.2.2.2.2.2.2.2.2.2.2.2.1))), (a.2.2.2.2.2.2.2.2.2.2.2.2.2.2.2.2.2.2.2.2.2.2.2.2.2.2.2.2.2.2.1, .inl (T.1, (20, .inl c.2.2.2.2.2.2.2.2.2.2.2.2.2.2.2.2.2.2.2.2.2.2.2.2.2.2.2.2.2.2.1))), (a.2.2.2.2.2.2.2.2.2.2.2.2.2.2.2.2.2.2.2.2.2.2.2.2.2.2.2.2.2.2.2.1, .inl (T.1, (20, .inl c.2.2.2.2.2.2.2.2.2.2.2.2.2.2.2.2.2.2.2.2.2.2.2.2.2.2.2.2.2.2.2.1))), (a.2.2.2.2.2.2.2.2.2.2.2.2.2.2.2.2.2.2.2.2.2.2.2.2.2.2.2.2.2.2.2.2.1, .inl (T.1, (20, .inl c.2.2.2.2.2.2.2.2.2.2.2.2.2.2.2.2.2.2.2.2.2.2.2.2.2.2.2.2.2.2.2.2.1))), (a.2.2.2.2.2.2.2.2.2.2.2.2.2.2.2.2.2.2.2.2.2.2.2.2.2.2.2.2.2.2.2.2.2, .inl (T.1, (20, .inl c.2.2.2.2.2.2.2.2.2.2.2.2.2.2.2.2.2.2.2.2.2.2.2.2.2.2.2.2.2.2.2.2.2.2)))]
/-- the object tells the drawing E: its cells, its ring of saved drawings (only where they stand) -/
def XP (c : XC) (B : Nat → Option DB) (o h : Nat) (E : DR) : Prop := DC c.1 c.2.1 c.2.2.1 c.2.2.2.1 c.2.2.2.2.1 c.2.2.2.2.2.1 E ∧ o < 6 ∧ h ≤ 6 ∧ c.2.2.2.2.2.2.2.2.2.2.2.2.2.2.1 = nI o ∧ c.2.2.2.2.2.2.2.2.2.2.2.2.2.2.2.1 = nI h ∧ ∀ j, j < 6 → c.2.2.2.2.2.2.2.2.2.2.2.2.2.1 j = (B j).map dbA
def setB (B : Nat → Option DB) (j : Nat) (b : DB) : Nat → Option DB := fun i => if i = j then some b else B i
def rmB (B : Nat → Option DB) (j : Nat) : Nat → Option DB := fun i => if i = j then none else B i
theorem rm_none {B : Nat → Option DB} {j : Nat} (h : B j = none) : rmB B j = B := by
  funext i
  unfold rmB
  by_cases q : i = j
  · rw [if_pos q, q, h]
  · rw [if_neg q]
theorem rm_set (B : Nat → Option DB) (j : Nat) (b : DB) : rmB (setB B j b) j = rmB B j := by
  funext i
  unfold rmB setB
  by_cases q : i = j
  · rw [if_pos q, if_pos q]
  · rw [if_neg q, if_neg q, if_neg q]
theorem set_same {B : Nat → Option DB} {j : Nat} {b : DB} (h : B j = some b) : setB B j b = B := by
  funext i
  unfold setB
  by_cases q : i = j
  · rw [if_pos q, q, h]
  · rw [if_neg q]
theorem set_at (B : Nat → Option DB) (j : Nat) (b : DB) : setB B j b j = some b := if_pos rfl
theorem set_ne (B : Nat → Option DB) {j i : Nat} (b : DB) (h : i ≠ j) : setB B j b i = B i := if_neg h
theorem rm_ne (B : Nat → Option DB) {j i : Nat} (h : i ≠ j) : rmB B j i = B i := if_neg h
/-- the five cells of a drawing of the pool -/
def blk (T : TY) (b : DB) : va_W := [(b.1.1, .inr (1, [.ref b.1.2.1, .ref b.1.2.2.1, .ref b.1.2.2.2.1, .ref b.1.2.2.2.2, .int b.2.2.2.2.2.1, .int b.2.2.2.2.2.2])), (b.1.2.1, .inl (T.1, (16, .inl b.2.1))), (b.1.2.2.1, .inl (T.1, (20, .inl b.2.2.1))), (b.1.2.2.2.1, .inl (T.1, (20, .inl b.2.2.2.1))), (b.1.2.2.2.2, .inl (T.1, (20, .inl b.2.2.2.2.1)))]
def PBk (T : TY) : Option DB → va_W
  | none => []
  | some b => blk T b
def PWn (T : TY) (B : Nat → Option DB) : Nat → va_W
  | 0 => []
  | n + 1 => PBk T (B n) ++ PWn T B n
theorem PWn_out (T : TY) (B : Nat → Option DB) (j : Nat) : ∀ n, n ≤ j → PWn T (rmB B j) n = PWn T B n := by
  intro n
  induction n with
  | zero => intro _; rfl
  | succ n ih =>
    intro h
    show PBk T (rmB B j n) ++ PWn T (rmB B j) n = PBk T (B n) ++ PWn T B n
    rw [ih (by omega), rm_ne B (show n ≠ j by omega)]
theorem PWn_pull (T : TY) (B : Nat → Option DB) (j : Nat) : ∀ n, j < n → (PWn T B n).Perm (PBk T (B j) ++ PWn T (rmB B j) n) := by
  intro n
  induction n with
  | zero => intro h; exact absurd h (Nat.not_lt_zero j)
  | succ n ih =>
    intro h
    by_cases q : j = n
    · subst q
      show (PBk T (B j) ++ PWn T B j).Perm (PBk T (B j) ++ (PBk T (rmB B j j) ++ PWn T (rmB B j) j))
      rw [PWn_out T B j j (Nat.le_refl j), show rmB B j j = none from if_pos rfl]
      exact List.Perm.refl _
    · show (PBk T (B n) ++ PWn T B n).Perm (PBk T (B j) ++ (PBk T (rmB B j n) ++ PWn T (rmB B j) n))
      rw [rm_ne B (show n ≠ j from fun e => q e.symm)]
      exact ((ih (by omega)).append_left (PBk T (B n))).trans (List.perm_append_comm_assoc _ _ _)
def PW (T : TY) (B : Nat → Option DB) : va_W := PWn T B 8
theorem PW_some {T : TY} {B : Nat → Option DB} {j : Nat} {b : DB} (hj : j < 8) (h : B j = some b) : (PW T B).Perm (blk T b ++ PW T (rmB B j)) := by
  have q := PWn_pull T B j 8 hj
  rw [h] at q
  exact q
theorem PW_set {T : TY} {B : Nat → Option DB} {j : Nat} {b : DB} (hj : j < 8) : (PW T (setB B j b)).Perm (blk T b ++ PW T (rmB B j)) := by
  have q := PW_some (T := T) hj (set_at B j b)
  rw [rm_set] at q
  exact q
section
variable {D : va_G} {A : Nat → Prop} {T : TY} {B : Nat → Option DB} {X O R : va_W} {H : Heap} {j : Nat} {b b' : DB}
/-- a block of the pool to the front's end .. -/
theorem PB_in (hj : j < 8) (h : B j = some b) (hW : WD D A (X ++ (O ++ (PW T B ++ R))) H) : WD D A ((X ++ (blk T b ++ O)) ++ (PW T (rmB B j) ++ R)) H := by
  refine hW.perm ?_
  rw [List.append_assoc, List.append_assoc]
  refine List.Perm.append_left X ?_
  refine List.Perm.trans (List.Perm.append_left O ((PW_some hj h).append_right R)) ?_
  rw [List.append_assoc]
  exact List.perm_append_comm_assoc _ _ _
/-- .. and back, at new contents -/
theorem PB_out (hj : j < 8) (hW : WD D A ((X ++ (blk T b ++ O)) ++ (PW T (rmB B j) ++ R)) H) : WD D A (X ++ (O ++ (PW T (setB B j b) ++ R))) H := by
  refine hW.perm (List.Perm.symm ?_)
  rw [List.append_assoc, List.append_assoc]
  refine List.Perm.append_left X ?_
  refine List.Perm.trans (List.Perm.append_left O ((PW_set hj).append_right R)) ?_
  rw [List.append_assoc]
  exact List.perm_append_comm_assoc _ _ _
theorem PB_in' (hj : j < 8) (h : B j = some b) (hW : WD D A (X ++ (O ++ (PW T B ++ R))) H) : WD D A ((X ++ blk T b) ++ (O ++ (PW T (rmB B j) ++ R))) H := by
  refine (PB_in hj h hW).perm ?_
  rw [List.append_assoc, List.append_assoc, List.append_assoc]
theorem PB_out' (hj : j < 8) (hW : WD D A ((X ++ blk T b) ++ (O ++ (PW T (rmB B j) ++ R))) H) : WD D A (X ++ (O ++ (PW T (setB B j b) ++ R))) H := by
  refine PB_out hj (hW.perm ?_)
  rw [List.append_assoc, List.append_assoc, List.append_assoc]
/-- a new block into the pool's empty place -/
theorem PB_new (hj : j < 8) (h : B j = none) (hW : WD D A ((X ++ (O ++ blk T b)) ++ (PW T B ++ R)) H) : WD D A (X ++ (O ++ (PW T (setB B j b) ++ R))) H := by
  refine PB_out hj ?_
  rw [rm_none h]
  refine hW.perm ?_
  rw [List.append_assoc, List.append_assoc, List.append_assoc, List.append_assoc]
  exact List.Perm.append_left X (List.perm_append_comm_assoc _ _ _)
theorem PB_new' (hj : j < 8) (h : B j = none) (hW : WD D A ((X ++ blk T b) ++ (O ++ (PW T B ++ R))) H) : WD D A (X ++ (O ++ (PW T (setB B j b) ++ R))) H := by
  refine PB_out hj ?_
  rw [rm_none h]
  refine hW.perm ?_
  rw [List.append_assoc, List.append_assoc, List.append_assoc]
end
theorem WD.fst {D : va_G} {A : Nat → Prop} {W1 W2 : va_W} {H : Heap} (h : WD D A (W1 ++ W2) H) : WD D A W1 H := (WD.split.mp h).1
