/-! ===== both sides: looks at posts and ribbons ===== -/
theorem ite50 {D : DR} (hw : WF D) {r : Nat} (hr : r < dN D) (c : Prop) [Decidable c] : (if c then dW D r else 0) ≤ 50 := by
  have h := (hw.2.2.2 r hr).2.2.2
  split <;> omega
theorem comes_le {D : DR} (hw : WF D) (p : Nat) : comes D p ≤ 1000 := by
  have h1 := sN_le (f := fun r => if dG D r = p ∧ on D r = true then dW D r else 0) (c := 50) (n := dN D) (fun r hr => ite50 hw hr _)
  have h2 : dN D * 50 ≤ 20 * 50 := Nat.mul_le_mul_right 50 hw.1
  unfold comes; omega
theorem leav_le {D : DR} (hw : WF D) (p : Nat) : leav D p ≤ 1000 := by
  have h1 := sN_le (f := fun r => if dF D r = p ∧ on D r = true then dW D r else 0) (c := 50) (n := dN D) (fun r hr => ite50 hw hr _)
  have h2 : dN D * 50 ≤ 20 * 50 := Nat.mul_le_mul_right 50 hw.1
  unfold leav; omega
theorem sub_eq0 {a b : Nat} (ha : a < 1000000) (hb : b < 1000000) : (nI a - nI b = nI 0) ↔ a = b := by
  constructor
  · intro h
    have h1 := congrArg Int32.toInt h
    rw [pk_sub_toInt (by omega) (by omega), nI_toInt (by omega)] at h1
    omega
  · intro h
    subst h
    rw [pk_sub (Nat.le_refl _), Nat.sub_self]
theorem p_surplusOf {fr to wd : Nat → Int32} {D : DR} (hf : RR fr (dF D) (dN D)) (hg : RR to (dG D) (dN D)) (hd : RR wd (dW D) (dN D)) (hw : WF D) {p : Nat} (hp : p < 16) : f_X1_surplusOf fr to wd (nI (dN D)) (nI p) = some (nI (comes D p) - nI (leav D p)) := by
  unfold f_X1_surplusOf
  rw [p_comesIn hf hg hd hw hp, p_leaves hf hg hd hw hp]
  simp only [bs]
/-- inner posts that are not even -/
def uEv (D : DR) (p : Nat) : Bool := decide (4 ≤ p ∧ p < 12) && decide (comes D p ≠ leav D p)
def nUne (D : DR) : Nat := sN (fun p => if uEv D p = true then 1 else 0) 16
theorem sN_z {f : Nat → Nat} : ∀ {a b : Nat}, a ≤ b → (∀ k, a ≤ k → k < b → f k = 0) → sN f b = sN f a
  | a, 0, h, _ => by have e : a = 0 := by omega
                     rw [e]
  | a, b + 1, h, hz => by
    by_cases e : a = b + 1
    · rw [e]
    · show sN f b + f b = sN f a
      rw [hz b (by omega) (by omega), sN_z (a := a) (b := b) (by omega) (fun k h1 h2 => hz k h1 (by omega))]
      rfl
theorem p_unevenPosts {fr to wd : Nat → Int32} {D : DR} (hf : RR fr (dF D) (dN D)) (hg : RR to (dG D) (dN D)) (hd : RR wd (dW D) (dN D)) (hw : WF D) : f_X1_unevenPosts fr to wd (nI (dN D)) = some (nI (nUne D)) := by
  have hn := hw.1
  unfold f_X1_unevenPosts nUne
  simp only [fa_lit]
  rw [sN_z (a := 12) (b := 16) (by omega) (fun k h1 h2 => by rw [if_neg]; unfold uEv; simp; omega)]
  have h := loopS2 (fun F s i => f_X1_unevenPosts_b4 fr to wd (nI (dN D)) F s i) (fun p => if uEv D p = true then 1 else 0) 4 12 0 (by omega) (fun s => some (nI s)) ?_ ?_ ?_ (FU_big (n := 12) (by omega))
  · rw [h, Nat.zero_add]
  · intro F i s h4 hi
    simp only [f_X1_unevenPosts_b4, f_X1_unevenPosts_b21, nme, fa_lit]
    rw [if_neg (nle_nI (by omega) (by omega) hi), p_surplusOf hf hg hd hw (by omega)]
    simp only [bs]
    have e := sub_eq0 (a := comes D i) (b := leav D i) (by have := comes_le hw i; omega) (by have := leav_le hw i; omega)
    by_cases c : comes D i = leav D i
    · rw [if_pos (e.mpr c), if_neg (by unfold uEv; simp [c]), nI_step]; rfl
    · rw [if_neg (fun z => c (e.mp z)), if_pos (by unfold uEv; simp [c]; omega), nI_step, nI_step]
  · intro F s
    simp only [f_X1_unevenPosts_b4, fa_lit]
    rw [if_pos ((le_nI (by omega) (by omega)).mpr (Nat.le_refl _))]
  · intro k hk
    rw [if_neg]
    unfold uEv
    simp; omega
def imax (a b : Nat) : Nat := if a < b then b else a
def pV (D : DR) (p k : Nat) : Nat := if k = 0 then dP D p else if k = 1 then comes D p else if k = 2 then leav D p else if k = 3 then rTo D p else if k = 4 then rFrom D p else if k = 5 then rBack D p else if k = 6 then (if uEv D p = true then 0 else 1) else imax (comes D p) (leav D p)
theorem xbs {α β : Type} (a : α) (f : α → Option (String ⊕ β)) : xb (some (.inr a)) f = f a := of_eq_true (eq_self (f a))
theorem xbe {α β : Type} (e : String) (f : α → Option (String ⊕ β)) : xb (some (.inl e)) f = some (.inl e) := by
  unfold xb
  rw [bs]
theorem p_checkPost {p : Nat} (h : p < 16) : f_X6_checkPost (nI p) = some (.inr ()) := by
  unfold f_X6_checkPost
  rw [p_isPost (by omega)]
  simp only [bs, fa_lit, bI_0]
  rw [if_neg (by rw [decide_eq_true h]; decide)]
theorem p_postOf {pl fr to wd : Nat → Int32} {D : DR} (hpl : RR pl (dP D) 16) (hf : RR fr (dF D) (dN D)) (hg : RR to (dG D) (dN D)) (hd : RR wd (dW D) (dN D)) (hw : WF D) {p k : Nat} (hp : p < 16) (hk : k < 8) : f_X6_postOf pl fr to wd (nI (dN D)) (nI p) (nI k) = some (.inr (nI (pV D p k))) := by
  unfold f_X6_postOf pV
  rw [p_checkPost hp]
  simp only [xbs, fa_lit]
  have ek : ∀ j, j < 8 → ((nI k = nI j) ↔ k = j) := fun j hj => eq_nI (by omega) (by omega)
  simp only [ek 0 (by omega), ek 1 (by omega), ek 2 (by omega), ek 3 (by omega), ek 4 (by omega), ek 5 (by omega), ek 6 (by omega), ek 7 (by omega)]
  have c1 := comes_le hw p
  have c2 := leav_le hw p
  by_cases h0 : k = 0
  · rw [if_pos h0, if_pos h0, p_placeOf hpl hp]; simp only [bs]
  rw [if_neg h0, if_neg h0]
  by_cases h1 : k = 1
  · rw [if_pos h1, if_pos h1, p_comesIn hf hg hd hw hp]; simp only [bs]
  rw [if_neg h1, if_neg h1]
  by_cases h2 : k = 2
  · rw [if_pos h2, if_pos h2, p_leaves hf hg hd hw hp]; simp only [bs]
  rw [if_neg h2, if_neg h2]
  by_cases h3 : k = 3
  · rw [if_pos h3, if_pos h3, p_ribbonsTo hf hg hw hp]; simp only [bs]
  rw [if_neg h3, if_neg h3]
  by_cases h4 : k = 4
  · rw [if_pos h4, if_pos h4, p_ribbonsFrom hf hg hw hp]; simp only [bs]
  rw [if_neg h4, if_neg h4]
  by_cases h5 : k = 5
  · rw [if_pos h5, if_pos h5, p_ribbonsBack hf hg hw hp]; simp only [bs]
  rw [if_neg h5, if_neg h5]
  by_cases h6 : k = 6
  · rw [if_pos h6, if_pos h6, p_isInner (by omega), p_surplusOf hf hg hd hw hp]
    simp only [bs, bI_0, sub_eq0 (a := comes D p) (b := leav D p) (by omega) (by omega)]
    unfold uEv
    by_cases i : 4 ≤ p ∧ p < 12
    · rw [if_neg (by rw [decide_eq_true i]; decide), decide_eq_true i]
      by_cases c : comes D p = leav D p
      · rw [if_pos c, if_neg (by simp [c])]
      · rw [if_neg c, if_pos (by simp [c])]
    · rw [if_pos (decide_eq_false i), if_neg (by simp [i])]
  rw [if_neg h6, if_neg h6, if_pos (show k = 7 by omega), p_comesIn hf hg hd hw hp, p_leaves hf hg hd hw hp]
  simp only [bs]
  unfold imax
  by_cases c : comes D p < leav D p
  · rw [if_pos ((lt_nI (by omega) (by omega)).mpr c), if_pos c]
  · rw [if_neg (nlt_nI (by omega) (by omega) (by omega)), if_neg c]
def rV (D : DR) (r k : Nat) : Nat := if k = 0 then dF D r else if k = 1 then dG D r else if k = 2 then dW D r else if k = 3 then (if on D r = true then 1 else 0) else xBy D r
theorem p_checkRibbon {n r : Nat} (hn : n ≤ 20) (h : r < n) : f_X6_checkRibbon (nI n) (nI r) = some (.inr ()) := by
  unfold f_X6_checkRibbon
  rw [p_hasRibbon hn (by omega)]
  simp only [bs, fa_lit, bI_0]
  rw [if_neg (by rw [decide_eq_true h]; decide)]
theorem p_ribbonOf {pl fr to wd : Nat → Int32} {D : DR} (hpl : RR pl (dP D) 16) (hf : RR fr (dF D) (dN D)) (hg : RR to (dG D) (dN D)) (hd : RR wd (dW D) (dN D)) (hw : WF D) {r k : Nat} (hr : r < dN D) (hk : k < 5) : f_X6_ribbonOf pl fr to wd (nI (dN D)) (nI r) (nI k) = some (.inr (nI (rV D r k))) := by
  have hn := hw.1
  unfold f_X6_ribbonOf rV
  rw [p_checkRibbon hn hr]
  simp only [xbs, fa_lit]
  have ek : ∀ j, j < 5 → ((nI k = nI j) ↔ k = j) := fun j hj => eq_nI (by omega) (by omega)
  simp only [ek 0 (by omega), ek 1 (by omega), ek 2 (by omega), ek 3 (by omega), ek 4 (by omega)]
  by_cases h0 : k = 0
  · rw [if_pos h0, if_pos h0, p_fromOf hf hn hr]; simp only [bs]
  rw [if_neg h0, if_neg h0]
  by_cases h1 : k = 1
  · rw [if_pos h1, if_pos h1, p_toOf hg hn hr]; simp only [bs]
  rw [if_neg h1, if_neg h1]
  by_cases h2 : k = 2
  · rw [if_pos h2, if_pos h2, p_widthOf hd hn hr]; simp only [bs]
  rw [if_neg h2, if_neg h2]
  by_cases h3 : k = 3
  · rw [if_pos h3, if_pos h3, p_goesOn hf hg hw hr]
    simp only [bs, bI_0]
    by_cases o : on D r = false
    · rw [if_pos o, if_neg (by rw [o]; decide)]
    · rw [if_neg o, if_pos (by simpa using o)]
  rw [if_neg h3, if_neg h3, if_pos (show k = 4 by omega), p_ribbonsAcross hpl hf hg hw hr]
  simp only [bs]
theorem r_crossings {z : Nat → Int32} {D : DR} (hz : DZ z D) (hw : WF D) : f_X7_crossings z = some (nI (xAll D)) := by
  have hn := hw.1
  unfold f_X7_crossings xAll
  simp only [fa_lit]
  refine loopS (fun F s i => f_X7_crossings_b4 z F s i) _ (dN D) (fun s => some (nI s)) ?_ ?_ (FU_big (by omega))
  · intro F9 i s hi
    simp only [f_X7_crossings_b4, nme, fa_lit]
    rw [z0, hz.1, if_neg (nle_nI (by omega) (by omega) hi), nI_step]
    refine loopS2 (fun F s q => f_X7_crossings_b18 z _ F s (nI i) q) (xW D i) (i + 1) (dN D) s (by omega) (fun w => f_X7_crossings_b4 z F9 (nI w) (nI (i + 1))) ?_ ?_ ?_ (FU_big (by omega))
    · intro F q s hiq hq
      have w1 := (hw.2.2.2 i hi).2.2.2
      have w2 := (hw.2.2.2 q hq).2.2.2
      simp only [f_X7_crossings_b18, f_X7_crossings_b58, f_X7_crossings_b76, nme, fa_lit]
      rw [z0, hz.1, if_neg (nle_nI (by omega) (by omega) hq), r_of2 hz hw hi, r_of2 hz hw hq, r_cross hz hw hi hq]
      simp only [bs, bI_0]
      unfold xW
      have key : ∀ v : Nat, v = (if dW D q < dW D i then dW D q else dW D i) → (if crs D i q = false then f_X7_crossings_b18 z (f_X7_crossings_b4 z F9) F (nI s + nI 0) (nI i) (nI q + nI 1) else f_X7_crossings_b18 z (f_X7_crossings_b4 z F9) F (nI s + nI v) (nI i) (nI q + nI 1)) = f_X7_crossings_b18 z (f_X7_crossings_b4 z F9) F (nI (s + if i < q ∧ crs D i q = true then if dW D q < dW D i then dW D q else dW D i else 0)) (nI i) (nI (q + 1)) := by
        intro v hv
        by_cases c : crs D i q = false
        · rw [if_pos c, if_neg (fun z => by rw [c] at z; exact absurd z.2 (by decide)), nI_step, nI_step]
        · rw [if_neg c, if_pos ⟨by omega, by simpa using c⟩, hv, nI_step, nI_step]
      by_cases k2 : dW D q ≤ dW D i
      · rw [if_pos ((le_nI (by omega) (by omega)).mpr k2)]
        exact key _ (by split <;> omega)
      · rw [if_neg (nle_nI (by omega) (by omega) (by omega))]
        exact key _ (by split <;> omega)
    · intro F s
      simp only [f_X7_crossings_b18, nme, fa_lit]
      rw [z0, hz.1, if_pos ((le_nI (by omega) (by omega)).mpr (Nat.le_refl _)), nI_step]
    · intro k hk
      unfold xW
      rw [if_neg (fun z => by omega)]
  · intro F s
    simp only [f_X7_crossings_b4, fa_lit]
    rw [z0, hz.1, if_pos ((le_nI (by omega) (by omega)).mpr (Nat.le_refl _))]
theorem r_crossedBy {z : Nat → Int32} {D : DR} (hz : DZ z D) (hw : WF D) {r : Nat} (hr : r < dN D) : f_X7_crossedBy z (nI r) = some (nI (xBy D r)) := by
  have hn := hw.1
  unfold f_X7_crossedBy xBy
  simp only [fa_lit]
  refine loopS (fun F s i => f_X7_crossedBy_b4 z (nI r) F s i) _ (dN D) (fun s => some (nI s)) ?_ ?_ (FU_big (by omega))
  · intro F i s hi
    simp only [f_X7_crossedBy_b4, f_X7_crossedBy_b29, nme, fa_lit]
    rw [z0, hz.1, if_neg (nle_nI (by omega) (by omega) hi), r_cross hz hw hr hi]
    simp only [bs, bI_0]
    by_cases c : crs D r i = false
    · rw [if_pos c, if_neg (by rw [c]; decide), nI_step, nI_step]
    · rw [if_neg c, if_pos (by simpa using c), nI_step, nI_step]
  · intro F s
    simp only [f_X7_crossedBy_b4, fa_lit]
    rw [z0, hz.1, if_pos ((le_nI (by omega) (by omega)).mpr (Nat.le_refl _))]
