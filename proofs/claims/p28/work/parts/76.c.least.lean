/-! ===== cuts: the least cut, and the ribbon that matters (the class) ===== -/
def lmN (f : Nat → Nat) : Nat → Nat
  | 0 => f 0
  | n + 1 => if f (n + 1) < lmN f n then f (n + 1) else lmN f n
theorem lmN_le (f : Nat → Nat) (c : Nat) (h : ∀ k, f k ≤ c) : ∀ n, lmN f n ≤ c
  | 0 => h 0
  | n + 1 => by
    show (if f (n + 1) < lmN f n then f (n + 1) else lmN f n) ≤ c
    have h1 := h (n + 1)
    have h2 := lmN_le f c h n
    split <;> omega
/-- how much can go through, without a ribbon -/
def thr (D : DR) (wo : Nat) : Nat := lmN (fun x => cuT D x wo) 255
theorem thr_le {D : DR} (hw : WF D) (wo : Nat) : thr D wo ≤ 1000 := lmN_le _ 1000 (fun x => cuT_le hw x wo) 255
def lst (f : Nat → Nat) (i : Nat) : Nat := match i with
  | 0 => 1000000
  | k + 1 => lmN f k
theorem lst_s {f : Nat → Nat} (h : ∀ k, f k ≤ 1000) (i : Nat) : (if f i < lst f i then f i else lst f i) = lst f (i + 1) := by
  match i with
  | 0 =>
    have := h 0
    show (if f 0 < 1000000 then f 0 else 1000000) = f 0
    rw [if_pos (by omega)]
  | k + 1 => rfl
theorem lst_le {f : Nat → Nat} (h : ∀ k, f k ≤ 1000) (i : Nat) : lst f i ≤ 1000000 := by
  match i with
  | 0 => exact Nat.le_refl _
  | k + 1 =>
    have := lmN_le f 1000 h k
    show lmN f k ≤ 1000000
    omega
theorem ite_mn {a b : Nat} (ha : a < 2147483648) (hb : b < 2147483648) : (if nI a < nI b then nI a else nI b) = nI (if a < b then a else b) := by
  by_cases c : a < b
  · rw [if_pos ((lt_nI ha hb).mpr c), if_pos c]
  · rw [if_neg (nlt_nI ha hb (by omega)), if_neg c]
theorem p_mostByCuts {fr to wd : Nat → Int32} {D : DR} (hf : RR fr (dF D) (dN D)) (hg : RR to (dG D) (dN D)) (hd : RR wd (dW D) (dN D)) (hw : WF D) (be en wi : Nat → Int32) (sz : Int32) :
    ∃ be' en' wi' sz', f_X5_mostByCuts fr to wd (nI (dN D)) be en wi sz = some (nI (thr D 100), be', en', wi', sz') := by
  obtain ⟨b, e, w, h1, h2⟩ := p_readCuttable hf hg hd hw be en wi sz
  unfold f_X5_mostByCuts
  simp only [fa_lit]
  rw [h1]
  simp only [bs]
  have h := loopI (fun F i (s : Int32) => f_X5_mostByCuts_b10 fr to wd (nI (dN D)) F s i b e w (nI (dN D))) (fun s => some (s, b, e, w, nI (dN D))) (fun i s => s = nI (lst (fun x => cuT D x 100) i)) 256 ?_ ?_ 256 0 FU (nI 1000000) (by omega) (FU_big (by omega)) rfl
  · obtain ⟨s, k1, k2⟩ := h
    exact ⟨b, e, w, _, k1.trans (by rw [k2]; rfl)⟩
  · intro F i s hi hs
    have hl := lst_le (f := fun x => cuT D x 100) (fun x => cuT_le hw x 100) i
    have hc := cuT_le hw i 100
    refine ⟨nI (lst (fun x => cuT D x 100) (i + 1)), ?_, rfl⟩
    simp only [f_X5_mostByCuts_b10, fa_lit, nme]
    rw [if_neg (nle_nI (by omega) (by omega) hi), p_sideWith]
    simp only [bs]
    rw [p_cutOf hw h2 hi]
    simp only [bs]
    rw [hs, ite_mn (by omega) (by omega), nI_step]
    exact congrArg (fun z => f_X5_mostByCuts_b10 fr to wd (nI (dN D)) F (nI z) (nI (i + 1)) b e w (nI (dN D))) (lst_s (f := fun x => cuT D x 100) (fun x => cuT_le hw x 100) i)
  · intro F s _
    simp only [f_X5_mostByCuts_b10, fa_lit]
    rw [if_pos ((le_nI (by omega) (by omega)).mpr (Nat.le_refl _))]
theorem cuT_wo {D : DR} (x : Nat) {r : Nat} (hr : r < dN D) (hn : dN D ≤ 20) : cuT D x r + (if cuR D x r = true then dW D r else 0) = cuT D x 100 := by
  have key : ∀ n, n ≤ 20 → sN (fun k => if k ≠ r ∧ cuR D x k = true then dW D k else 0) n + (if r < n ∧ cuR D x r = true then dW D r else 0) = sN (fun k => if k ≠ 100 ∧ cuR D x k = true then dW D k else 0) n := by
    intro n
    induction n with
    | zero => intro _; rw [if_neg (by omega)]; rfl
    | succ n ih =>
      intro hn
      have h := ih (by omega)
      show sN _ n + (if n ≠ r ∧ cuR D x n = true then dW D n else 0) + _ = sN _ n + (if n ≠ 100 ∧ cuR D x n = true then dW D n else 0)
      rw [← h]
      by_cases c : n = r
      · subst c
        rw [if_neg (show ¬ (n ≠ n ∧ cuR D x n = true) from fun z => z.1 rfl), if_neg (show ¬ (n < n ∧ cuR D x n = true) by omega)]
        by_cases d : cuR D x n = true
        · rw [if_pos ⟨by omega, d⟩, if_pos ⟨by omega, d⟩]
        · rw [if_neg (fun z => d z.2), if_neg (fun z => d z.2)]
      · by_cases d : cuR D x n = true
        · rw [if_pos ⟨c, d⟩, if_pos (show n ≠ 100 ∧ cuR D x n = true from ⟨by omega, d⟩)]
          by_cases e : r < n ∧ cuR D x r = true
          · rw [if_pos ⟨by omega, e.2⟩, if_pos e]; omega
          · rw [if_neg (fun z => e ⟨by omega, z.2⟩), if_neg e]; omega
        · rw [if_neg (show ¬ (n ≠ r ∧ cuR D x n = true) from fun z => d z.2), if_neg (show ¬ (n ≠ 100 ∧ cuR D x n = true) from fun z => d z.2)]
          by_cases e : r < n ∧ cuR D x r = true
          · rw [if_pos ⟨by omega, e.2⟩, if_pos e]; omega
          · rw [if_neg (fun z => e ⟨by omega, z.2⟩), if_neg e]
  have h := key (dN D) hn
  unfold cuT
  rw [← h]
  by_cases d : cuR D x r = true
  · rw [if_pos d, if_pos ⟨hr, d⟩]
  · rw [if_neg d, if_neg (fun z => d z.2)]
/-- the ribbon without which the least goes through, the first of such -/
def mnS (D : DR) (i : Nat) (o : Option Nat) : Option Nat := if on D i = true then (match o with
  | none => some i
  | some j => if thr D i < thr D j then some i else some j) else o
def mnO (D : DR) : Option Nat := itr (mnS D) none (dN D)
def mnL (D : DR) (o : Option Nat) : Nat := match o with
  | none => 1000000
  | some j => thr D j
theorem p_leastThatGoesOn {fr to lw : Nat → Int32} {D : DR} (hf : RR fr (dF D) (dN D)) (hg : RR to (dG D) (dN D)) (hw : WF D) (hl : ∀ r, r < dN D → lw r = nI (thr D r)) :
    f_X5_leastThatGoesOn lw fr to (nI (dN D)) = some (oI (mnO D)) := by
  have hn := hw.1
  unfold f_X5_leastThatGoesOn
  simp only [fa_lit]
  have h := loopI (fun F i (s : Option Nat) => f_X5_leastThatGoesOn_b8 lw fr to (nI (dN D)) F (oI s) (nI (mnL D s)) i) (fun s => some (oI s)) (fun i s => s = itr (mnS D) none i) (dN D) ?_ ?_ (dN D) 0 FU none (by omega) (FU_big (by omega)) rfl
  · obtain ⟨s, h1, h2⟩ := h
    rw [h2] at h1
    exact h1
  · intro F i s hi hs
    refine ⟨mnS D i s, ?_, by rw [hs]; rfl⟩
    have hb := thr_le hw i
    simp only [f_X5_leastThatGoesOn_b8, f_X5_leastThatGoesOn_b55, fa_lit, nme]
    rw [if_neg (nle_nI (by omega) (by omega) hi), if_neg (nle_nI (by omega) (by omega) (by omega)), p_goesOn hf hg hw hi, if_pos (gd_nI (by omega) (by omega)), if_pos (gd_nI (by omega) (by omega)), cl_nI (by omega), hl i hi, nI_step]
    simp only [bs, bI_0]
    unfold mnS
    by_cases c : on D i = false
    · rw [if_pos c, if_neg (show ¬ on D i = true by rw [c]; decide)]
    · rw [if_neg c, if_pos (show on D i = true by simpa using c)]
      match s with
      | none =>
        show (if nI 1000000 ≤ nI (thr D i) then _ else _) = _
        rw [if_neg (nle_nI (by omega) (by omega) (by omega))]
        rfl
      | some j =>
        have hj := thr_le hw j
        show (if nI (thr D j) ≤ nI (thr D i) then _ else _) = _
        dsimp only
        by_cases d : thr D i < thr D j
        · rw [if_neg (nle_nI (by omega) (by omega) d), if_pos d]
          rfl
        · rw [if_pos ((le_nI (by omega) (by omega)).mpr (by omega)), if_neg d]
  · intro F s _
    simp only [f_X5_leastThatGoesOn_b8, fa_lit]
    rw [if_pos ((le_nI (by omega) (by omega)).mpr (Nat.le_refl _))]
