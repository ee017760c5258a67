/-! ===== the class: Drawing, sums over the ribbons ===== -/
theorem itr_sN (f : Nat → Nat) (n : Nat) : itr (fun i s => s + f i) 0 n = sN f n := by
  induction n with
  | zero => rfl
  | succ n ih => show itr _ 0 n + f n = sN f n + f n; rw [ih]
/-- a loop that adds up: its function at the head, the sum so far as nI s -/
theorem loopS {ρ : Type} (L : Nat → Int32 → Int32 → ρ) (f : Nat → Nat) (n : Nat) (r : Nat → ρ)
    (hs : ∀ F i s, i < n → L (F + 1) (nI s) (nI i) = L F (nI (s + f i)) (nI (i + 1)))
    (he : ∀ F s, L (F + 1) (nI s) (nI n) = r s) {F : Nat} (hF : n < F) : L F (nI 0) (nI 0) = r (sN f n) := by
  have h := loopA (fun F (s : Nat) i => L F (nI s) i) (fun i s => s + f i) 0 n (fun _ _ => True) (r (itr (fun i s => s + f i) 0 n)) trivial
    (fun F i hi _ => ⟨hs F i _ hi, trivial⟩) (fun F _ => he F _) F hF
  rw [itr_sN] at h
  exact h
def comes (D : DR) (p : Nat) : Nat := sN (fun r => if dG D r = p ∧ on D r = true then dW D r else 0) (dN D)
def leav (D : DR) (p : Nat) : Nat := sN (fun r => if dF D r = p ∧ on D r = true then dW D r else 0) (dN D)
def rTo (D : DR) (p : Nat) : Nat := sN (fun r => if dG D r = p ∧ on D r = true then 1 else 0) (dN D)
def rFrom (D : DR) (p : Nat) : Nat := sN (fun r => if dF D r = p ∧ on D r = true then 1 else 0) (dN D)
def rBack (D : DR) (p : Nat) : Nat := sN (fun r => if (dF D r = p ∨ dG D r = p) ∧ on D r = false then 1 else 0) (dN D)
theorem nI_step (s f : Nat) : nI s + nI f = nI (s + f) := nI_add s f
theorem p_comesIn {fr to wd : Nat → Int32} {D : DR} (hf : RR fr (dF D) (dN D)) (hg : RR to (dG D) (dN D)) (hd : RR wd (dW D) (dN D)) (hw : WF D) {p : Nat} (hp : p < 16) : f_X1_comesIn fr to wd (nI (dN D)) (nI p) = some (nI (comes D p)) := by
  have hn := hw.1
  unfold f_X1_comesIn comes
  simp only [fa_lit]
  refine loopS (fun F s i => f_X1_comesIn_b4 fr to wd (nI (dN D)) (nI p) F s i) _ (dN D) (fun s => some (nI s)) ?_ ?_ (FU_big (by omega))
  · intro F i s hi
    obtain ⟨h1, h2, -, -⟩ := hw.2.2.2 i hi
    simp only [f_X1_comesIn_b4, f_X1_comesIn_b37, nme, fa_lit]
    rw [if_neg (by rw [le_nI (by omega) (by omega)]; omega), p_toOf hg hn hi]
    simp only [bs]
    by_cases c : dG D i = p
    · rw [if_pos (by rw [c]), p_goesOn hf hg hw hi]
      simp only [bs, bI_0]
      by_cases o : on D i = false
      · rw [if_pos o, if_neg (by rw [o]; simp), nI_step]; rfl
      · rw [if_neg o, if_pos ⟨c, by simpa using o⟩, p_widthOf hd hn hi]
        simp only [bs]
        rw [nI_step, nI_step]
    · rw [if_neg (by rw [eq_nI (by omega) (by omega)]; exact c), if_neg (fun z => c z.1), nI_step]; rfl
  · intro F s
    simp only [f_X1_comesIn_b4]
    rw [if_pos (by rw [le_nI (by omega) (by omega)]; omega)]
theorem p_leaves {fr to wd : Nat → Int32} {D : DR} (hf : RR fr (dF D) (dN D)) (hg : RR to (dG D) (dN D)) (hd : RR wd (dW D) (dN D)) (hw : WF D) {p : Nat} (hp : p < 16) : f_X1_leaves fr to wd (nI (dN D)) (nI p) = some (nI (leav D p)) := by
  have hn := hw.1
  unfold f_X1_leaves leav
  simp only [fa_lit]
  refine loopS (fun F s i => f_X1_leaves_b4 fr to wd (nI (dN D)) (nI p) F s i) _ (dN D) (fun s => some (nI s)) ?_ ?_ (FU_big (by omega))
  · intro F i s hi
    obtain ⟨h1, h2, -, -⟩ := hw.2.2.2 i hi
    simp only [f_X1_leaves_b4, f_X1_leaves_b37, nme, fa_lit]
    rw [if_neg (by rw [le_nI (by omega) (by omega)]; omega), p_fromOf hf hn hi]
    simp only [bs]
    by_cases c : dF D i = p
    · rw [if_pos (by rw [c]), p_goesOn hf hg hw hi]
      simp only [bs, bI_0]
      by_cases o : on D i = false
      · rw [if_pos o, if_neg (by rw [o]; simp), nI_step]; rfl
      · rw [if_neg o, if_pos ⟨c, by simpa using o⟩, p_widthOf hd hn hi]
        simp only [bs]
        rw [nI_step, nI_step]
    · rw [if_neg (by rw [eq_nI (by omega) (by omega)]; exact c), if_neg (fun z => c z.1), nI_step]; rfl
  · intro F s
    simp only [f_X1_leaves_b4]
    rw [if_pos (by rw [le_nI (by omega) (by omega)]; omega)]
theorem p_ribbonsTo {fr to : Nat → Int32} {D : DR} (hf : RR fr (dF D) (dN D)) (hg : RR to (dG D) (dN D)) (hw : WF D) {p : Nat} (hp : p < 16) : f_X1_ribbonsTo fr to (nI (dN D)) (nI p) = some (nI (rTo D p)) := by
  have hn := hw.1
  unfold f_X1_ribbonsTo rTo
  simp only [fa_lit]
  refine loopS (fun F s i => f_X1_ribbonsTo_b4 fr to (nI (dN D)) (nI p) F s i) _ (dN D) (fun s => some (nI s)) ?_ ?_ (FU_big (by omega))
  · intro F i s hi
    obtain ⟨h1, h2, -, -⟩ := hw.2.2.2 i hi
    simp only [f_X1_ribbonsTo_b4, f_X1_ribbonsTo_b32, nme, fa_lit]
    rw [if_neg (by rw [le_nI (by omega) (by omega)]; omega), p_toOf hg hn hi]
    simp only [bs]
    by_cases c : dG D i = p
    · rw [if_pos (by rw [c]), p_goesOn hf hg hw hi]
      simp only [bs, bI_0]
      by_cases o : on D i = false
      · rw [if_pos o, if_neg (by rw [o]; simp), nI_step]; rfl
      · rw [if_neg o, if_pos ⟨c, by simpa using o⟩, nI_step, nI_step]
    · rw [if_neg (by rw [eq_nI (by omega) (by omega)]; exact c), if_neg (fun z => c z.1), nI_step]; rfl
  · intro F s
    simp only [f_X1_ribbonsTo_b4]
    rw [if_pos (by rw [le_nI (by omega) (by omega)]; omega)]
theorem p_ribbonsFrom {fr to : Nat → Int32} {D : DR} (hf : RR fr (dF D) (dN D)) (hg : RR to (dG D) (dN D)) (hw : WF D) {p : Nat} (hp : p < 16) : f_X1_ribbonsFrom fr to (nI (dN D)) (nI p) = some (nI (rFrom D p)) := by
  have hn := hw.1
  unfold f_X1_ribbonsFrom rFrom
  simp only [fa_lit]
  refine loopS (fun F s i => f_X1_ribbonsFrom_b4 fr to (nI (dN D)) (nI p) F s i) _ (dN D) (fun s => some (nI s)) ?_ ?_ (FU_big (by omega))
  · intro F i s hi
    obtain ⟨h1, h2, -, -⟩ := hw.2.2.2 i hi
    simp only [f_X1_ribbonsFrom_b4, f_X1_ribbonsFrom_b32, nme, fa_lit]
    rw [if_neg (by rw [le_nI (by omega) (by omega)]; omega), p_fromOf hf hn hi]
    simp only [bs]
    by_cases c : dF D i = p
    · rw [if_pos (by rw [c]), p_goesOn hf hg hw hi]
      simp only [bs, bI_0]
      by_cases o : on D i = false
      · rw [if_pos o, if_neg (by rw [o]; simp), nI_step]; rfl
      · rw [if_neg o, if_pos ⟨c, by simpa using o⟩, nI_step, nI_step]
    · rw [if_neg (by rw [eq_nI (by omega) (by omega)]; exact c), if_neg (fun z => c z.1), nI_step]; rfl
  · intro F s
    simp only [f_X1_ribbonsFrom_b4]
    rw [if_pos (by rw [le_nI (by omega) (by omega)]; omega)]
/-- the same, from a first number i0 and a first sum s0 on -/
theorem loopS2 {ρ : Type} (L : Nat → Int32 → Int32 → ρ) (f : Nat → Nat) (i0 n s0 : Nat) (hi : i0 ≤ n) (r : Nat → ρ)
    (hs : ∀ F i s, i0 ≤ i → i < n → L (F + 1) (nI s) (nI i) = L F (nI (s + f i)) (nI (i + 1)))
    (he : ∀ F s, L (F + 1) (nI s) (nI n) = r s) (hz : ∀ k, k < i0 → f k = 0) {F : Nat} (hF : n < F) : L F (nI s0) (nI i0) = r (s0 + sN f n) := by
  have z : ∀ k, k ≤ i0 → sN f k = 0 := by
    intro k
    induction k with
    | zero => intro _; rfl
    | succ k ih => intro hk; show sN f k + f k = 0; rw [ih (by omega), hz k (by omega)]
  have key : ∀ k i F, i + k = n → k < F → i0 ≤ i → L F (nI (s0 + sN f i)) (nI i) = r (s0 + sN f n) := by
    intro k
    induction k with
    | zero =>
      intro i F hi hF h0
      cases F with
      | zero => omega
      | succ F =>
        have e : i = n := by omega
        subst e
        exact he F _
    | succ k ih =>
      intro i F hi hF h0
      cases F with
      | zero => omega
      | succ F =>
        rw [hs F i _ h0 (by omega), Nat.add_assoc]
        exact ih (i + 1) F (by omega) (by omega) (by omega)
  have h := key (n - i0) i0 F (by omega) (by omega) (Nat.le_refl _)
  rw [z i0 (Nat.le_refl _), Nat.add_zero] at h
  exact h
theorem p_ribbonsBack {fr to : Nat → Int32} {D : DR} (hf : RR fr (dF D) (dN D)) (hg : RR to (dG D) (dN D)) (hw : WF D) {p : Nat} (hp : p < 16) : f_X1_ribbonsBack fr to (nI (dN D)) (nI p) = some (nI (rBack D p)) := by
  have hn := hw.1
  unfold f_X1_ribbonsBack rBack
  simp only [fa_lit]
  refine loopS (fun F s i => f_X1_ribbonsBack_b4 fr to (nI (dN D)) (nI p) F s i) _ (dN D) (fun s => some (nI s)) ?_ ?_ (FU_big (by omega))
  · intro F i s hi
    obtain ⟨h1, h2, -, -⟩ := hw.2.2.2 i hi
    simp only [f_X1_ribbonsBack_b4, f_X1_ribbonsBack_b30, f_X1_ribbonsBack_b35, f_X1_ribbonsBack_b53, nme, fa_lit]
    rw [if_neg (by rw [le_nI (by omega) (by omega)]; omega), p_fromOf hf hn hi, p_toOf hg hn hi, p_goesOn hf hg hw hi]
    simp only [bs, bI_0, fa_lit]
    rw [if_neg (show ¬ nI 1 = nI 0 by decide), if_pos trivial]
    by_cases c : dF D i = p
    · rw [if_pos (by rw [c])]
      by_cases o : on D i = false
      · rw [if_pos o, if_pos ⟨Or.inl c, o⟩, nI_step, nI_step]
      · rw [if_neg o, if_neg (fun z => o z.2), nI_step]; rfl
    · rw [if_neg (by rw [eq_nI (by omega) (by omega)]; exact c)]
      by_cases c2 : dG D i = p
      · rw [if_pos (by rw [c2])]
        by_cases o : on D i = false
        · rw [if_pos o, if_pos ⟨Or.inr c2, o⟩, nI_step, nI_step]
        · rw [if_neg o, if_neg (fun z => o z.2), nI_step]; rfl
      · rw [if_neg (by rw [eq_nI (by omega) (by omega)]; exact c2), if_neg (fun z => z.1.elim c c2), nI_step]; rfl
  · intro F s
    simp only [f_X1_ribbonsBack_b4]
    rw [if_pos (by rw [le_nI (by omega) (by omega)]; omega)]
def wAll (D : DR) : Nat := sN (dW D) (dN D)
theorem p_allWidths {wd : Nat → Int32} {D : DR} (hd : RR wd (dW D) (dN D)) (hw : WF D) : f_X1_allWidths wd (nI (dN D)) = some (nI (wAll D)) := by
  have hn := hw.1
  unfold f_X1_allWidths wAll
  simp only [fa_lit]
  refine loopS (fun F s i => f_X1_allWidths_b4 wd (nI (dN D)) F s i) _ (dN D) (fun s => some (nI s)) ?_ ?_ (FU_big (by omega))
  · intro F i s hi
    simp only [f_X1_allWidths_b4, nme, fa_lit]
    rw [if_neg (by rw [le_nI (by omega) (by omega)]; omega), p_widthOf hd hn hi]
    simp only [bs]
    rw [nI_step, nI_step]
  · intro F s
    simp only [f_X1_allWidths_b4]
    rw [if_pos (by rw [le_nI (by omega) (by omega)]; omega)]
/-- what the crossing of two ribbons counts -/
def xW (D : DR) (r q : Nat) : Nat := if r < q ∧ crs D r q = true then (if dW D q < dW D r then dW D q else dW D r) else 0
def xRow (D : DR) (r : Nat) : Nat := sN (xW D r) (dN D)
def xAll (D : DR) : Nat := sN (xRow D) (dN D)
theorem p_allCrossings {pl fr to wd : Nat → Int32} {D : DR} (hp : RR pl (dP D) 16) (hf : RR fr (dF D) (dN D)) (hg : RR to (dG D) (dN D)) (hd : RR wd (dW D) (dN D)) (hw : WF D) : f_X1_allCrossings pl fr to wd (nI (dN D)) = some (nI (xAll D)) := by
  have hn := hw.1
  unfold f_X1_allCrossings xAll
  simp only [fa_lit]
  refine loopS (fun F s i => f_X1_allCrossings_b4 pl fr to wd (nI (dN D)) F s i) _ (dN D) (fun s => some (nI s)) ?_ ?_ (FU_big (by omega))
  · intro F i s hi
    simp only [f_X1_allCrossings_b4, nme, fa_lit]
    rw [if_neg (by rw [le_nI (by omega) (by omega)]; omega), nI_step]
    refine loopS2 (fun F s q => f_X1_allCrossings_b16 pl fr to wd (nI (dN D)) _ F s (nI i) q) (xW D i) (i + 1) (dN D) s (by omega) (fun z => f_X1_allCrossings_b4 pl fr to wd (nI (dN D)) F (nI z) (nI (i + 1))) ?_ ?_ ?_ (FU_big (by omega))
    · intro F q s hiq hq
      simp only [f_X1_allCrossings_b16, f_X1_allCrossings_b49, nme, fa_lit]
      rw [if_neg (by rw [le_nI (by omega) (by omega)]; omega), p_cross hp hf hg hw hi hq]
      simp only [bs, bI_0, fa_lit]
      unfold xW
      have w1 := (hw.2.2.2 i hi).2.2.2
      have w2 := (hw.2.2.2 q hq).2.2.2
      by_cases c : crs D i q = false
      · rw [if_pos c, if_neg (fun z => by rw [c] at z; exact absurd z.2 (by decide)), nI_step]; rfl
      · rw [if_neg c, if_pos ⟨by omega, by simpa using c⟩, p_widthOf hd hn hi, p_widthOf hd hn hq]
        simp only [bs]
        by_cases k : dW D q < dW D i
        · rw [if_pos (by rw [lt_nI (by omega) (by omega)]; exact k), if_pos k, nI_step, nI_step]
        · rw [if_neg (by rw [lt_nI (by omega) (by omega)]; exact k), if_neg k, nI_step, nI_step]
    · intro F s
      simp only [f_X1_allCrossings_b16, nme, fa_lit]
      rw [if_pos (by rw [le_nI (by omega) (by omega)]; omega), nI_step]
    · intro k hk
      unfold xW
      rw [if_neg (fun z => by omega)]
  · intro F s
    simp only [f_X1_allCrossings_b4]
    rw [if_pos (by rw [le_nI (by omega) (by omega)]; omega)]
/-- how many ribbons cross this one -/
def xBy (D : DR) (r : Nat) : Nat := sN (fun q => if crs D r q = true then 1 else 0) (dN D)
theorem p_ribbonsAcross {pl fr to : Nat → Int32} {D : DR} (hp : RR pl (dP D) 16) (hf : RR fr (dF D) (dN D)) (hg : RR to (dG D) (dN D)) (hw : WF D) {r : Nat} (hr : r < dN D) : f_X1_ribbonsAcross pl fr to (nI (dN D)) (nI r) = some (nI (xBy D r)) := by
  have hn := hw.1
  unfold f_X1_ribbonsAcross xBy
  simp only [fa_lit]
  refine loopS (fun F s i => f_X1_ribbonsAcross_b4 pl fr to (nI (dN D)) (nI r) F s i) _ (dN D) (fun s => some (nI s)) ?_ ?_ (FU_big (by omega))
  · intro F i s hi
    simp only [f_X1_ribbonsAcross_b4, f_X1_ribbonsAcross_b24, nme, fa_lit]
    rw [if_neg (by rw [le_nI (by omega) (by omega)]; omega), p_cross hp hf hg hw hr hi]
    simp only [bs, bI_0, fa_lit]
    by_cases c : crs D r i = false
    · rw [if_pos c, if_neg (by rw [c]; decide), nI_step]; rfl
    · rw [if_neg c, if_pos (by simpa using c), nI_step, nI_step]
  · intro F s
    simp only [f_X1_ribbonsAcross_b4]
    rw [if_pos (by rw [le_nI (by omega) (by omega)]; omega)]
def xPairs (D : DR) : Nat := sN (xBy D) (dN D) / 2
theorem p_crossingPairs {pl fr to : Nat → Int32} {D : DR} (hp : RR pl (dP D) 16) (hf : RR fr (dF D) (dN D)) (hg : RR to (dG D) (dN D)) (hw : WF D) : f_X1_crossingPairs pl fr to (nI (dN D)) = some (nI (xPairs D)) := by
  have hn := hw.1
  have hb : sN (xBy D) (dN D) ≤ 20 * 20 := by
    have h1 : ∀ k, k < dN D → xBy D k ≤ 20 := fun k _ => by
      have h2 := sN_le (f := fun q => if crs D k q = true then 1 else 0) (c := 1) (n := dN D) (fun q _ => by split <;> omega)
      unfold xBy
      omega
    have h3 := sN_le (f := xBy D) (c := 20) (n := dN D) h1
    have h4 : dN D * 20 ≤ 20 * 20 := Nat.mul_le_mul_right 20 hn
    omega
  unfold f_X1_crossingPairs xPairs
  simp only [fa_lit]
  have h := loopS (fun F s i => f_X1_crossingPairs_b4 pl fr to (nI (dN D)) F s i) (xBy D) (dN D) (fun s => some (nI s / nI 2)) ?_ ?_ (FU_big (n := dN D) (by omega))
  · rw [h, div_nI (by omega) (by omega) (by omega)]
  · intro F i s hi
    simp only [f_X1_crossingPairs_b4, nme, fa_lit]
    rw [if_neg (by rw [le_nI (by omega) (by omega)]; omega), p_ribbonsAcross hp hf hg hw hi]
    simp only [bs]
    rw [nI_step, nI_step]
  · intro F s
    simp only [f_X1_crossingPairs_b4]
    rw [if_pos (by rw [le_nI (by omega) (by omega)]; omega), fa_lit]
