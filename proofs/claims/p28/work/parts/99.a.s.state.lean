/-! ===== one state for both sides; arguments ===== -/
theorem i_lt {a : Int32} {n : Nat} (hn : n < 2147483648) : a < nI n ↔ a.toInt < (n : Int) := by rw [Int32.lt_iff_toInt_lt, nI_toInt hn]
theorem i_le {a : Int32} {n : Nat} (hn : n < 2147483648) : a ≤ nI n ↔ a.toInt ≤ (n : Int) := by rw [Int32.le_iff_toInt_le, nI_toInt hn]
theorem i_gt {a : Int32} {n : Nat} (hn : n < 2147483648) : nI n < a ↔ (n : Int) < a.toInt := by rw [Int32.lt_iff_toInt_lt, nI_toInt hn]
theorem i_ge {a : Int32} {n : Nat} (hn : n < 2147483648) : nI n ≤ a ↔ (n : Int) ≤ a.toInt := by rw [Int32.le_iff_toInt_le, nI_toInt hn]
/-- an argument: a number below n, or not -/
theorem arg_lt (x : Int32) (n : Nat) (hn : n < 2147483648) : (∃ p, p < n ∧ x = nI p) ∨ (x < nI 0 ∨ nI n ≤ x) := by
  by_cases h : x < nI 0
  · exact Or.inr (Or.inl h)
  · by_cases h2 : nI n ≤ x
    · exact Or.inr (Or.inr h2)
    · rw [i_lt (by omega)] at h
      rw [i_ge hn] at h2
      refine Or.inl ⟨x.toInt.toNat, by omega, ?_⟩
      refine Int32.toInt_inj.mp ?_
      rw [nI_toInt (by omega)]
      omega
/-- the reference: whether a number lies between two others -/
theorem r_inX (x : Int32) (a b : Nat) : f_X7_in x (nI a) (nI b) = some (bI (!decide (x < nI a) && !decide (nI b < x))) := by
  unfold f_X7_in
  simp only [fa_lit]
  by_cases h : x < nI a
  · rw [if_pos h, decide_eq_true h]; rfl
  · rw [if_neg h, decide_eq_false h]
    by_cases h2 : nI b < x
    · rw [if_pos h2, decide_eq_true h2]; rfl
    · rw [if_neg h2, decide_eq_false h2]; rfl
theorem r_in_out {x : Int32} {b : Nat} (hb : b + 1 < 2147483648) (h : x < nI 0 ∨ nI (b + 1) ≤ x) : f_X7_in x (nI 0) (nI b) = some (nI 0) := by
  rw [r_inX]
  rcases h with h | h
  · rw [decide_eq_true h]; rfl
  · have h2 : nI b < x := by rw [i_gt (by omega)]; rw [i_ge (by omega)] at h; omega
    rw [decide_eq_true h2]
    simp [bI]
/-- the state: the drawing, how many saved states, the saved drawings, the snapshots, the text -/
abbrev ST : Type := DR × Nat × (Nat → DR) × (Nat → Option DR) × Nat × (Nat → Nat)
def sD (S : ST) : DR := S.1
def sH (S : ST) : Nat := S.2.1
def sL (S : ST) : Nat → DR := S.2.2.1
def sK (S : ST) : Nat → Option DR := S.2.2.2.1
def sN' (S : ST) : Nat := S.2.2.2.2.1
def sT (S : ST) : Nat → Nat := S.2.2.2.2.2
def WS (S : ST) : Prop := WF (sD S) ∧ sH S ≤ 6 ∧ (∀ s, s < sH S → WF (sL S s)) ∧ (∀ i E, i < 2 → sK S i = some E → WF E) ∧ sN' S ≤ 60 ∧ ∀ k, k < sN' S → 33 ≤ sT S k ∧ sT S k ≤ 126
/-- the saved drawings after one more is saved -/
def sv1 (h : Nat) (L : Nat → DR) (D : DR) : Nat → DR := if h = 6 then (fun s => if s = 5 then D else L (s + 1)) else (fun s => if s = h then D else L s)
/-- the state is saved, then the drawing is E -/
def svS (S : ST) (E : DR) : ST := (E, nH (sH S), sv1 (sH S) (sL S) (sD S), sK S, sN' S, sT S)
theorem nH_le {h : Nat} (hh : h ≤ 6) : nH h ≤ 6 := by unfold nH; split <;> omega
theorem svS_ws {S : ST} (h : WS S) {E : DR} (hE : WF E) : WS (svS S E) := by
  obtain ⟨h1, h2, h3, h4, h5, h6⟩ := h
  refine ⟨hE, nH_le h2, fun s hs => ?_, h4, h5, h6⟩
  have hs : s < nH (sH S) := hs
  show WF (sv1 (sH S) (sL S) (sD S) s)
  unfold sv1
  unfold nH at hs
  by_cases c : sH S = 6
  · rw [if_pos c] at hs ⊢
    by_cases d : s = 5
    · rw [if_pos d]; exact h1
    · rw [if_neg d]; exact h3 (s + 1) (by omega)
  · rw [if_neg c] at hs ⊢
    by_cases d : s = sH S
    · rw [if_pos d]; exact h1
    · rw [if_neg d]; exact h3 s (by omega)
/-- the reference's contents tell the state -/
def RI (z sv sl kp tx : Nat → Int32) (sa ln : Int32) (S : ST) : Prop :=
  DZ z (sD S) ∧ SV sv (sL S) (sH S) ∧ sa = nI (sH S) ∧ (∀ i, i < 2 → kp i = bI (sK S i).isSome ∧ ∀ E, sK S i = some E → DZ (fun k => sl (78 * i + k)) E) ∧ RR tx (sT S) (sN' S) ∧ ln = nI (sN' S)
theorem r_save {z sv : Nat → Int32} {L : Nat → DR} {D : DR} {h : Nat} (hh : h ≤ 6) (hs : SV sv L h) (hz : DZ z D) (hw : WF D) : ∃ sv', f_X7_record z sv (nI h) = some (sv', nI (nH h)) ∧ SV sv' (sv1 h L D) (nH h) := by
  unfold nH sv1
  by_cases c : h = 6
  · subst c
    rw [if_pos rfl, if_pos rfl]
    exact r_save6 hs hz hw
  · rw [if_neg c, if_neg c]
    exact r_save5 (by omega) hs hz hw
/-- the class's contents that are told apart from the pool of drawings -/
def CI (pl fr to wd : Nat → Int32) (n tr : Int32) (po ph : Int32) (tc : Nat → Int32) (tl : Int32) (o : Nat) (S : ST) : Prop :=
  DC pl fr to wd n tr (sD S) ∧ o < 6 ∧ po = nI o ∧ ph = nI (sH S) ∧ RR tc (sT S) (sN' S) ∧ tl = nI (sN' S)
/-- the place of the ring where the next state is saved -/
def ix (o h : Nat) : Nat := (o + h) % 6
theorem ix_lt (o h : Nat) : ix o h < 6 := Nat.mod_lt _ (by omega)
theorem ix_n {o h : Nat} (ho : o < 6) (hh : h ≤ 6) : (nI o + nI h - (nI o + nI h) / (6 : Int32) * (6 : Int32)).toNatClampNeg = ix o h := by
  simp only [fa_lit]
  rw [nI_step, md6 (by omega), cl_nI (by have := ix_lt o h; unfold ix at this; omega)]
  rfl
/-- a drawing of the pool: its five addresses, its contents -/
abbrev DB : Type := (Nat × Nat × Nat × Nat × Nat) × (Nat → Int32) × (Nat → Int32) × (Nat → Int32) × (Nat → Int32) × Int32 × Int32
def dbA (b : DB) : Nat := b.1.1
def dbC (b : DB) (E : DR) : Prop := DC b.2.1 b.2.2.1 b.2.2.2.1 b.2.2.2.2.1 b.2.2.2.2.2.1 b.2.2.2.2.2.2 E
/-- the ring of saved states: its place (o + s) % 6 tells the saved drawing s -/
def RG (B : Nat → Option DB) (o h : Nat) (L : Nat → DR) : Prop := ∀ s, s < h → ∃ b, B (ix o s) = some b ∧ dbC b (L s)
theorem nO_lt {o h : Nat} (ho : o < 6) : nO o h < 6 := by
  unfold nO
  split
  · exact Nat.mod_lt _ (by omega)
  · exact ho
theorem RG_save {B : Nat → Option DB} {o h : Nat} {L : Nat → DR} {D : DR} (hB : RG B o h L) (ho : o < 6) (hh : h ≤ 6) {b : DB} (hb : dbC b D) : RG (fun j => if j = ix o h then some b else B j) (nO o h) (nH h) (sv1 h L D) := by
  intro s hs
  unfold nH at hs
  unfold nO sv1
  by_cases c : h = 6
  · rw [if_pos c] at hs ⊢
    rw [if_pos c]
    by_cases d : s = 5
    · refine ⟨b, if_pos ?_, by rw [if_pos d]; exact hb⟩
      unfold ix
      omega
    · obtain ⟨b', h1, h2⟩ := hB (s + 1) (by omega)
      refine ⟨b', ?_, by rw [if_neg d]; exact h2⟩
      have e : ix ((o + 1) % 6) s = ix o (s + 1) := by unfold ix; omega
      dsimp only
      rw [if_neg (show ¬ ix ((o + 1) % 6) s = ix o h by unfold ix; omega), e]
      exact h1
  · rw [if_neg c] at hs ⊢
    rw [if_neg c]
    by_cases d : s = h
    · refine ⟨b, if_pos (by rw [d]), by rw [if_pos d]; exact hb⟩
    · obtain ⟨b', h1, h2⟩ := hB s (by omega)
      refine ⟨b', ?_, by rw [if_neg d]; exact h2⟩
      dsimp only
      rw [if_neg (show ¬ ix o s = ix o h by unfold ix; omega)]
      exact h1
