/-! ===== what the law asks of the drawing: posts, ribbons, numbers ===== -/
theorem loop3 {ρ : Type} (L : Nat → Int32 → Int32 → Int32 → Int32 → ρ) (a b c : Nat → Nat) (n : Nat) (r : ρ)
    (hs : ∀ F i x y z, i < n → L (F + 1) (nI x) (nI y) (nI z) (nI i) = L F (nI (x + a i)) (nI (y + b i)) (nI (z + c i)) (nI (i + 1)))
    (he : ∀ F, L (F + 1) (nI (sN a n)) (nI (sN b n)) (nI (sN c n)) (nI n) = r) {F : Nat} (hF : n < F) : L F (nI 0) (nI 0) (nI 0) (nI 0) = r := by
  have key : ∀ k i F, i + k = n → k < F → L F (nI (sN a i)) (nI (sN b i)) (nI (sN c i)) (nI i) = r := by
    intro k
    induction k with
    | zero =>
      intro i F hi hF
      obtain rfl : i = n := by omega
      cases F with
      | zero => omega
      | succ F => exact he F
    | succ k ih =>
      intro i F hi hF
      cases F with
      | zero => omega
      | succ F =>
        rw [hs F i _ _ _ (by omega)]
        exact ih (i + 1) F (by omega) (by omega)
  exact key n 0 F (by omega) hF
theorem loopV {ρ : Type} (L : Nat → Int32 → ρ) (a n : Nat) (ha : a ≤ n) (r : ρ) (hs : ∀ F i, a ≤ i → i < n → L (F + 1) (nI i) = L F (nI (i + 1))) (he : ∀ F, L (F + 1) (nI n) = r) {F : Nat} (hF : n < F) : L F (nI a) = r := by
  have key : ∀ k i F, i + k = n → a ≤ i → k < F → L F (nI i) = r := by
    intro k
    induction k with
    | zero =>
      intro i F hi _ hF
      obtain rfl : i = n := by omega
      cases F with
      | zero => omega
      | succ F => exact he F
    | succ k ih =>
      intro i F hi h1 hF
      cases F with
      | zero => omega
      | succ F =>
        rw [hs F i h1 (by omega)]
        exact ih (i + 1) F (by omega) (by omega) (by omega)
  exact key (n - a) a F (by omega) (Nat.le_refl _) (by omega)
theorem loop2 {ρ : Type} (L : Nat → Int32 → Int32 → Int32 → ρ) (a b : Nat → Nat) (n : Nat) (r : ρ)
    (hs : ∀ F i x y, i < n → L (F + 1) (nI x) (nI y) (nI i) = L F (nI (x + a i)) (nI (y + b i)) (nI (i + 1)))
    (he : ∀ F, L (F + 1) (nI (sN a n)) (nI (sN b n)) (nI n) = r) {F : Nat} (hF : n < F) : L F (nI 0) (nI 0) (nI 0) = r :=
  loop3 (fun F x y _ i => L F x y i) a b (fun _ => 0) n r (fun F i x y _ hi => hs F i x y hi) he hF
theorem kq_postOf {D : DR} {p k : Nat} (hp : p < 16) (hk : k < 8) : f_K_postOf D (nI p) (nI k) = some (nI (pV D p k)) := by
  unfold f_K_postOf
  rw [ar_in hp (by omega), ar_in hk (by omega)]
theorem kq_ribbonOf {D : DR} (hw : WF D) {p k : Nat} (hp : p < dN D) (hk : k < 5) : f_K_ribbonOf D (nI p) (nI k) = some (nI (rV D p k)) := by
  have := hw.1
  unfold f_K_ribbonOf
  rw [ar_in hp (by omega), ar_in hk (by omega)]
theorem kq_count {D : DR} {k : Nat} (hk : k < 9) : f_K_count D (nI k) = some (cV D 0 k) := by
  unfold f_K_count
  rw [ar_in hk (by omega)]
theorem kq_height {D : DR} {c : Nat} (hc : c < 4) : f_K_height D (nI c) = some (nI (hgt D c)) := by
  unfold f_K_height
  rw [ar_in hc (by omega)]
theorem l_postAsk {zr za : Nat → Int32} {D : DR} (hp : RR za (dP D) 16) (hw : WF D) {p : Nat} (hp6 : p < 16) (x3 : Int32) (K3 : Int32 → Option Int32) :
    f_L_arePosts_b184 zr za D x3 K3 (nI (pV D p 6)) (nI p) (nI (comes D p)) (nI (leav D p)) (nI (rTo D p)) (nI (rFrom D p)) (nI (rBack D p)) = K3 (nI (p + 1)) := by
  have c1 := comes_le hw p
  have c2 := leav_le hw p
  simp only [f_L_arePosts_b184, f_L_arePosts_b278, f_L_arePosts_b303, nme, fa_lit]
  rw [kq_postOf hp6 (show 0 < 8 by omega), kq_postOf hp6 (show 1 < 8 by omega), kq_postOf hp6 (show 2 < 8 by omega), kq_postOf hp6 (show 3 < 8 by omega), kq_postOf hp6 (show 4 < 8 by omega), kq_postOf hp6 (show 5 < 8 by omega), kq_postOf hp6 (show 6 < 8 by omega), kq_postOf hp6 (show 7 < 8 by omega)]
  simp only [bs]
  rw [if_pos (gd_nI hp6 (by omega)), cl_nI (show p < 2147483648 by omega), hp p hp6, show pV D p 0 = dP D p from rfl, show pV D p 1 = comes D p from rfl, show pV D p 2 = leav D p from rfl, show pV D p 3 = rTo D p from rfl, show pV D p 4 = rFrom D p from rfl, show pV D p 5 = rBack D p from rfl, show pV D p 7 = imax (comes D p) (leav D p) from rfl,
    if_pos rfl, if_pos rfl, if_pos rfl, if_pos rfl, if_pos rfl, if_pos rfl]
  have h7 : (if nI (comes D p) ≤ nI (leav D p) then (if nI (imax (comes D p) (leav D p)) = nI (leav D p) then K3 (nI p + nI 1) else some (nI 0)) else (if nI (imax (comes D p) (leav D p)) = nI (comes D p) then K3 (nI p + nI 1) else some (nI 0))) = K3 (nI (p + 1)) := by
    by_cases c : comes D p ≤ leav D p
    · rw [if_pos ((le_nI (by omega) (by omega)).mpr c), show imax (comes D p) (leav D p) = leav D p from by unfold imax; split <;> omega, if_pos rfl, nI_step]
    · rw [if_neg (nle_nI (by omega) (by omega) (by omega)), show imax (comes D p) (leav D p) = comes D p from by unfold imax; split <;> omega, if_pos rfl, nI_step]
  rw [h7]
  have h6 : pV D p 6 = 0 ∨ pV D p 6 = 1 := by
    show (if uEv D p = true then 0 else 1) = 0 ∨ (if uEv D p = true then 0 else 1) = 1
    split
    · exact Or.inl rfl
    · exact Or.inr rfl
  rcases h6 with h6 | h6
  · rw [h6, if_pos rfl, if_pos rfl]
  · rw [h6, if_neg (by decide), if_pos rfl]
theorem l_postSum {zr za : Nat → Int32} {D : DR} (hz : LZ zr D) (hp : RR za (dP D) 16) (hw : WF D) {p : Nat} (hp6 : p < 16) (K3 : Int32 → Option Int32) :
    f_L_arePosts_b42 zr za D (nI (dN D)) K3 FU (nI p) (nI (comes D p)) (nI (leav D p)) (nI 0) (nI 0) (nI 0) (nI 0) = K3 (nI (p + 1)) := by
  have hn := hw.1
  have c1 := comes_le hw p
  have c2 := leav_le hw p
  refine loop3 (fun F x y z i => f_L_arePosts_b42 zr za D (nI (dN D)) K3 F (nI p) (nI (comes D p)) (nI (leav D p)) x y z i) (fun r => if dG D r = p ∧ on D r = true then 1 else 0) (fun r => if dF D r = p ∧ on D r = true then 1 else 0) (fun r => if (dF D r = p ∨ dG D r = p) ∧ on D r = false then 1 else 0) (dN D) (K3 (nI (p + 1))) ?_ ?_ (FU_big (by omega))
  · intro F i x y z hi
    obtain ⟨h1, h2, -, h4⟩ := hw.2.2.2 i hi
    obtain ⟨z1, z2, z3⟩ := hz i hi
    have e0 : nI 3 * nI i = nI (3 * i) := pk_mul _ _
    simp only [f_L_arePosts_b42, f_L_arePosts_b76, f_L_arePosts_b77, f_L_arePosts_b106, f_L_arePosts_b107, f_L_arePosts_b145, f_L_arePosts_b149, f_L_arePosts_b150, nme, fa_lit]
    rw [if_neg (nle_nI (by omega) (by omega) hi)]
    simp only [l_goesOn hz hw hi, bs, bI_0, e0, nI_step, gd_nI (show 3 * i < 60 by omega) (by omega), gd_nI (show 3 * i + 1 < 60 by omega) (by omega), cl_nI (show 3 * i < 2147483648 by omega), cl_nI (show 3 * i + 1 < 2147483648 by omega), z1, z2, eq_nI (show dF D i < 2147483648 by omega) (show p < 2147483648 by omega), eq_nI (show dG D i < 2147483648 by omega) (show p < 2147483648 by omega), if_true]
    cases o : on D i
    · by_cases a : dF D i = p
      · simp [a]
      · by_cases b : dG D i = p
        · simp [a, b]
        · simp [a, b]
    · by_cases a : dF D i = p
      · by_cases b : dG D i = p
        · simp [a, b]
        · simp [a, b]
      · by_cases b : dG D i = p
        · simp [a, b]
        · simp [a, b]
  · intro F
    have key := l_postAsk (zr := zr) hp hw hp6 (nI (dN D)) K3
    have k6 : pV D p 6 = if uEv D p = true then 0 else 1 := rfl
    simp only [f_L_arePosts_b42, f_L_arePosts_b179, fa_lit]
    rw [if_pos ((le_nI (by omega) (by omega)).mpr (Nat.le_refl _))]
    have h1 : uEv D p = false → f_L_arePosts_b184 zr za D (nI (dN D)) K3 (nI 1) (nI p) (nI (comes D p)) (nI (leav D p)) (nI (rTo D p)) (nI (rFrom D p)) (nI (rBack D p)) = K3 (nI (p + 1)) := by
      intro h
      rw [k6, h, if_neg (by decide)] at key
      exact key
    show (if nI p < nI 4 then f_L_arePosts_b184 zr za D (nI (dN D)) K3 (nI 1) (nI p) (nI (comes D p)) (nI (leav D p)) (nI (rTo D p)) (nI (rFrom D p)) (nI (rBack D p)) else (if nI 11 < nI p then f_L_arePosts_b184 zr za D (nI (dN D)) K3 (nI 1) (nI p) (nI (comes D p)) (nI (leav D p)) (nI (rTo D p)) (nI (rFrom D p)) (nI (rBack D p)) else (if nI (comes D p) = nI (leav D p) then f_L_arePosts_b184 zr za D (nI (dN D)) K3 (nI 1) (nI p) (nI (comes D p)) (nI (leav D p)) (nI (rTo D p)) (nI (rFrom D p)) (nI (rBack D p)) else f_L_arePosts_b184 zr za D (nI (dN D)) K3 (nI 0) (nI p) (nI (comes D p)) (nI (leav D p)) (nI (rTo D p)) (nI (rFrom D p)) (nI (rBack D p))))) = K3 (nI (p + 1))
    by_cases a : p < 4
    · rw [if_pos ((lt_nI (by omega) (by omega)).mpr a)]
      exact h1 (by unfold uEv; rw [decide_eq_false (by omega), Bool.false_and])
    · rw [if_neg (nlt_nI (by omega) (by omega) (by omega))]
      by_cases b : 11 < p
      · rw [if_pos ((lt_nI (by omega) (by omega)).mpr b)]
        exact h1 (by unfold uEv; rw [decide_eq_false (by omega), Bool.false_and])
      · rw [if_neg (nlt_nI (by omega) (by omega) (by omega))]
        by_cases c : comes D p = leav D p
        · rw [if_pos (by rw [c])]
          exact h1 (by unfold uEv; rw [decide_eq_false (show ¬ comes D p ≠ leav D p from fun z => z c), Bool.and_false])
        · rw [if_neg (by rw [eq_nI (by omega) (by omega)]; exact c)]
          rw [k6, show uEv D p = true from by unfold uEv; rw [decide_eq_true (show 4 ≤ p ∧ p < 12 by omega), decide_eq_true c]; rfl, if_pos rfl] at key
          exact key
theorem l_heights {zr za : Nat → Int32} {D : DR} (hw : WF D) (x3 : Int32) : f_L_arePosts_b317 zr za D x3 FU (nI 0) = some (nI 1) := by
  refine loopV (fun F i => f_L_arePosts_b317 zr za D x3 F i) 0 4 (by omega) _ ?_ ?_ (FU_big (by omega))
  · intro F c _ hc
    simp only [f_L_arePosts_b317, nme, fa_lit]
    rw [if_neg (nle_nI (by omega) (by omega) hc)]
    have e0 : nI 4 * nI c = nI (4 * c) := pk_mul _ _
    simp only [e0, nI_step]
    rw [kq_height hc, kq_postOf (show 4 * c < 16 by omega) (show 7 < 8 by omega), kq_postOf (show 4 * c + 1 < 16 by omega) (show 7 < 8 by omega), kq_postOf (show 4 * c + 2 < 16 by omega) (show 7 < 8 by omega), kq_postOf (show 4 * c + 3 < 16 by omega) (show 7 < 8 by omega)]
    simp only [bs, nI_step]
    rw [if_pos]
    have e : hgt D c = pV D (4 * c) 7 + pV D (4 * c + 1) 7 + pV D (4 * c + 2) 7 + pV D (4 * c + 3) 7 := by
      show 0 + imax (comes D (4 * c + 0)) (leav D (4 * c + 0)) + imax (comes D (4 * c + 1)) (leav D (4 * c + 1)) + imax (comes D (4 * c + 2)) (leav D (4 * c + 2)) + imax (comes D (4 * c + 3)) (leav D (4 * c + 3)) = _
      rw [Nat.zero_add]
      rfl
    rw [e]
  · intro F
    simp only [f_L_arePosts_b317, fa_lit]
    rw [if_pos ((le_nI (by omega) (by omega)).mpr (Nat.le_refl _))]
theorem l_arePosts {zr za : Nat → Int32} {D : DR} (hz : LZ zr D) (hp : RR za (dP D) 16) (hw : WF D) : f_L_arePosts zr za D (nI (dN D)) = some (nI 1) := by
  unfold f_L_arePosts
  simp only [fa_lit]
  refine loopV (fun F i => f_L_arePosts_b3 zr za D (nI (dN D)) F i) 0 16 (by omega) _ ?_ ?_ (FU_big (by omega))
  · intro F p _ hp6
    have s1 : f_L_side zr (nI (dN D)) (nI p) (nI 1) = some (nI (comes D p)) := by rw [← sSum_t]; exact l_side hz hw hp6 true
    have s0 : f_L_side zr (nI (dN D)) (nI p) (nI 0) = some (nI (leav D p)) := by rw [← sSum_f]; exact l_side hz hw hp6 false
    simp only [f_L_arePosts_b3, fa_lit]
    rw [if_neg (nle_nI (by omega) (by omega) hp6), s1, s0]
    simp only [bs]
    exact l_postSum hz hp hw hp6 _
  · intro F
    simp only [f_L_arePosts_b3, fa_lit]
    rw [if_pos ((le_nI (by omega) (by omega)).mpr (Nat.le_refl _))]
    exact l_heights hw _
theorem crs_self (D : DR) (r : Nat) : crs D r r = false := by
  unfold crs
  rw [decide_eq_false (fun z => Nat.lt_irrefl _ z.1)]
  rw [Bool.or_false, Bool.and_false]
theorem xBy_le {D : DR} (hw : WF D) (r : Nat) : xBy D r ≤ 20 := by
  have h : xBy D r ≤ dN D * 1 := sN_le (fun k _ => by split <;> omega)
  have := hw.1
  omega
theorem l_soOne {zr za zg : Nat → Int32} {D : DR} (hz : LZ zr D) (hp : RR za (dP D) 16) (hw : WF D) {k : Nat} (hk : k < dN D) (K17 : Int32 → Int32 → Int32 → Int32 → Int32 → Option Int32) (x y : Nat) (x7 : Int32) :
    f_L_isSo_b30 zr za zg D K17 FU (nI (dN D)) (nI x) (nI y) x7 (nI k) (nI 0) (nI 0) = K17 (nI (dN D)) (nI (x + dW D k)) (nI (y + xBy D k)) x7 (nI (k + 1)) := by
  have hn := hw.1
  have hx := xBy_le hw k
  obtain ⟨h1, h2, -, h4⟩ := hw.2.2.2 k hk
  obtain ⟨z1, z2, z3⟩ := hz k hk
  have h := loopS (fun F s i => f_L_isSo_b30 zr za zg D K17 F (nI (dN D)) (nI x) (nI y) x7 (nI k) s i) (fun i => if i ≠ k ∧ crs D i k = true then 1 else 0) (dN D) (fun s => f_L_isSo_b30 zr za zg D K17 1 (nI (dN D)) (nI x) (nI y) x7 (nI k) (nI s) (nI (dN D))) ?_ ?_ (FU_big (by omega))
  · rw [h]
    have e : sN (fun i => if i ≠ k ∧ crs D i k = true then 1 else 0) (dN D) = xBy D k := by
      unfold xBy
      refine sN_cong (fun i hi => ?_)
      by_cases c : i = k
      · rw [if_neg (fun z => z.1 c), c, crs_self, if_neg (by decide)]
      · rw [crs_comm D k i]
        by_cases d : crs D i k = true
        · rw [if_pos ⟨c, d⟩, if_pos d]
        · rw [if_neg (fun z => d z.2), if_neg d]
    rw [e]
    have e0 : nI 3 * nI k = nI (3 * k) := pk_mul _ _
    simp only [f_L_isSo_b30, f_L_isSo_b145, nme, fa_lit]
    rw [if_pos ((le_nI (by omega) (by omega)).mpr (Nat.le_refl _)), kq_ribbonOf hw hk (show 0 < 5 by omega), kq_ribbonOf hw hk (show 1 < 5 by omega), kq_ribbonOf hw hk (show 2 < 5 by omega), kq_ribbonOf hw hk (show 3 < 5 by omega), kq_ribbonOf hw hk (show 4 < 5 by omega), l_goesOn hz hw hk]
    simp only [bs, e0, nI_step, gd_nI (show 3 * k < 60 by omega) (by omega), gd_nI (show 3 * k + 1 < 60 by omega) (by omega), gd_nI (show 3 * k + 2 < 60 by omega) (by omega), cl_nI (show 3 * k < 2147483648 by omega), cl_nI (show 3 * k + 1 < 2147483648 by omega), cl_nI (show 3 * k + 2 < 2147483648 by omega), z1, z2, z3, if_true, bI_0]
    rw [show rV D k 0 = dF D k from rfl, show rV D k 1 = dG D k from rfl, show rV D k 2 = dW D k from rfl, show rV D k 3 = (if on D k = true then 1 else 0) from rfl, show rV D k 4 = xBy D k from rfl, if_pos rfl, if_pos rfl, if_pos rfl]
    cases o : on D k
    · simp
    · simp
  · intro F i s hi
    simp only [f_L_isSo_b30, f_L_isSo_b62, f_L_isSo_b63, nme, fa_lit]
    rw [if_neg (nle_nI (by omega) (by omega) hi), l_cross hz hp hw hi hk]
    simp only [bs, bI_0, nI_step, eq_nI (show i < 2147483648 by omega) (show k < 2147483648 by omega)]
    by_cases c : i = k
    · rw [if_pos c, if_neg (fun z => z.1 c)]
    · rw [if_neg c]
      cases d : crs D i k
      · simp
      · simp [c]
  · intro F s
    simp only [f_L_isSo_b30]
    rw [if_pos ((le_nI (by omega) (by omega)).mpr (Nat.le_refl _)), if_pos ((le_nI (by omega) (by omega)).mpr (Nat.le_refl _))]
theorem l_soEnd {zr za zg : Nat → Int32} {D : DR} (hz : LZ zr D) (hp : RR za (dP D) 16) (hw : WF D) (hg : zg 1 = dT D) : f_L_isSo_b191 zr za zg D FU (nI (dN D)) (nI (sN (dW D) (dN D))) (nI (sN (xBy D) (dN D))) (nI 0) (nI 4) = some (nI 1) := by
  have hn := hw.1
  have hx : sN (xBy D) (dN D) ≤ dN D * 20 := sN_le (fun k _ => xBy_le hw k)
  have h := loopS2 (fun F s i => f_L_isSo_b191 zr za zg D F (nI (dN D)) (nI (sN (dW D) (dN D))) (nI (sN (xBy D) (dN D))) s i) (fun p => if uEv D p = true then 1 else 0) 4 12 0 (by omega) (fun s => f_L_isSo_b191 zr za zg D 1 (nI (dN D)) (nI (sN (dW D) (dN D))) (nI (sN (xBy D) (dN D))) (nI s) (nI 12)) ?_ ?_ ?_ (FU_big (n := 12) (by omega))
  · refine h.trans ?_
    have e : 0 + sN (fun p => if uEv D p = true then 1 else 0) 12 = nUne D := by
      rw [Nat.zero_add]
      unfold nUne
      refine (sN_z (by omega) (fun k h1 _ => if_neg ?_)).symm
      unfold uEv
      rw [decide_eq_false (by omega), Bool.false_and]
      decide
    rw [e]
    simp only [f_L_isSo_b191, fa_lit]
    rw [if_pos ((le_nI (by omega) (by omega)).mpr (Nat.le_refl _)), l_crossings hz hp hw, l_arePosts hz hp hw, kq_count (show 0 < 9 by omega), kq_count (show 1 < 9 by omega), kq_count (show 2 < 9 by omega), kq_count (show 3 < 9 by omega), kq_count (show 4 < 9 by omega), kq_count (show 5 < 9 by omega), kq_count (show 8 < 9 by omega), div_nI (show sN (xBy D) (dN D) < 2147483648 by omega) (show 0 < 2 by omega) (by omega), cl_nI (show 1 < 2147483648 by omega), hg]
    simp only [bs]
    rw [if_neg (by decide), show cV D 0 0 = nI (dN D) from rfl, show cV D 0 1 = nI (sN (dW D) (dN D)) from rfl, show cV D 0 2 = nI (xAll D) from rfl, show cV D 0 3 = nI (xAll D) from rfl, show cV D 0 4 = nI (sN (xBy D) (dN D) / 2) from rfl, show cV D 0 5 = nI (nUne D) from rfl, show cV D 0 8 = dT D from rfl,
      if_pos rfl, if_pos rfl, if_pos rfl, if_pos rfl, if_pos rfl, if_pos rfl, if_pos rfl]
  · intro F p s h4 h12
    have c1 := comes_le hw p
    have c2 := leav_le hw p
    have s1 : f_L_side zr (nI (dN D)) (nI p) (nI 1) = some (nI (comes D p)) := by rw [← sSum_t]; exact l_side hz hw (by omega) true
    have s0 : f_L_side zr (nI (dN D)) (nI p) (nI 0) = some (nI (leav D p)) := by rw [← sSum_f]; exact l_side hz hw (by omega) false
    simp only [f_L_isSo_b191, f_L_isSo_b226, nme, fa_lit]
    rw [if_neg (nle_nI (by omega) (by omega) h12), s1, s0]
    simp only [bs, nI_step, eq_nI (show leav D p < 2147483648 by omega) (show comes D p < 2147483648 by omega)]
    unfold uEv
    rw [decide_eq_true (show 4 ≤ p ∧ p < 12 from ⟨h4, h12⟩), Bool.true_and]
    by_cases c : leav D p = comes D p
    · rw [if_pos c, if_neg (by rw [decide_eq_true_eq]; exact fun z => z c.symm)]
    · rw [if_neg c, if_pos (decide_eq_true (show comes D p ≠ leav D p from fun z => c z.symm))]
  · intro F s
    simp only [f_L_isSo_b191, fa_lit]
    rw [if_pos ((le_nI (by omega) (by omega)).mpr (Nat.le_refl _)), if_pos ((le_nI (by omega) (by omega)).mpr (Nat.le_refl _))]
  · intro k hk
    refine if_neg ?_
    unfold uEv
    rw [decide_eq_false (by omega), Bool.false_and]
    decide
theorem l_isSo {zr za zg : Nat → Int32} {D : DR} (hz : LZ zr D) (hp : RR za (dP D) 16) (hw : WF D) (h0 : zg 0 = nI (dN D)) (h1 : zg 1 = dT D) : f_L_isSo zr za zg D = some (nI 1) := by
  have hn := hw.1
  unfold f_L_isSo
  simp only [nme, fa_lit]
  rw [cl_nI (show 0 < 2147483648 by omega), h0]
  refine loop2 (fun F x y i => f_L_isSo_b17 zr za zg D F (nI (dN D)) x y (nI 0) i) (dW D) (xBy D) (dN D) _ ?_ ?_ (FU_big (by omega))
  · intro F i x y hi
    simp only [f_L_isSo_b17, fa_lit]
    rw [if_neg (nle_nI (by omega) (by omega) hi)]
    exact l_soOne hz hp hw hi _ x y (nI 0)
  · intro F
    simp only [f_L_isSo_b17, fa_lit]
    rw [if_pos ((le_nI (by omega) (by omega)).mpr (Nat.le_refl _))]
    exact l_soEnd hz hp hw h1
