/-! ===== what an act of the law does: to its own numbers as to the class ===== -/
def LIv (zr za zg : Nat → Int32) (D : DR) : Prop := LZ zr D ∧ RR za (dP D) 16 ∧ zg 0 = nI (dN D) ∧ zg 1 = dT D ∧ WF D
/-- an act answers yes and keeps the two sides together -/
def AOk (x : Option (Int32 × (Nat → Int32) × (Nat → Int32) × (Nat → Int32) × DR)) : Prop := ∃ zr za zg E, x = some (nI 1, zr, za, zg, E) ∧ LIv zr za zg E
theorem and31 (x : Int32) : ∃ m, m < 2147483648 ∧ x &&& nI 2147483647 = nI m := by
  refine ⟨(x.toBitVec &&& 2147483647#32).toNat, ?_, ?_⟩
  · rw [BitVec.toNat_and]
    exact Nat.lt_succ_of_le Nat.and_le_right
  · refine Int32.toBitVec_inj.1 ?_
    rw [Int32.toBitVec_and]
    show x.toBitVec &&& 2147483647#32 = BitVec.ofNat 32 (x.toBitVec &&& 2147483647#32).toNat
    rw [BitVec.ofNat_toNat, BitVec.setWidth_eq]
theorem l_low (x : Int32) {n : Nat} (h0 : 0 < n) (hn : n < 2147483648) : ∃ a, a < n ∧ f_L_low x (nI n) = some (nI a) := by
  obtain ⟨m, hm, e⟩ := and31 x
  refine ⟨m % n, Nat.mod_lt _ h0, ?_⟩
  unfold f_L_low
  simp only [fa_lit]
  rw [e, if_neg (by rw [eq_nI hn (by omega)]; omega), pk_rem hm h0 hn]
theorem fk_ribbon {D : DR} {a b : Nat} (ha : a < 16) (hb : b < 16) (x : Int32) : f_K_ribbon D (nI a) (nI b) x = if a / 4 = b / 4 then some (-nI 32, D) else if x < nI 1 ∨ ¬ x ≤ nI 50 then some (-nI 32, D) else if 20 ≤ dN D then some (-nI 33, D) else some (nI (dN D), adD D a b x.toNatClampNeg) := by
  unfold f_K_ribbon
  rw [ar_in ha (by omega), ar_in hb (by omega)]
theorem ar_top {n k : Nat} (h : n ≤ k) (hn : n < 2147483648) (hk : k < 2147483648) : ar n (nI k) = none := ar_out (Or.inr ((le_nI hn hk).mpr h))
theorem fk_ribbon16 {D : DR} (b x : Int32) : f_K_ribbon D (nI 16) b x = some (-nI 31, D) := by
  unfold f_K_ribbon
  rw [ar_top (n := 16) (k := 16) (by omega) (by omega) (by omega)]
theorem fk_widen {D : DR} {r : Nat} (hr : r < dN D) (hn : dN D ≤ 20) (x : Int32) : f_K_widen D (nI r) x = if x < nI 0 ∨ ¬ x ≤ nI 50 then some (-nI 32, D) else some (nI (dW D r), setW D r x.toNatClampNeg) := by
  unfold f_K_widen
  rw [ar_in hr (by omega)]
theorem w_no51 : nI 51 < nI 0 ∨ ¬ nI 51 ≤ nI 50 := by decide
theorem w1_no51 : nI 51 < nI 1 ∨ ¬ nI 51 ≤ nI 50 := by decide
theorem w_ok {w : Nat} (h : w ≤ 50) : ¬ (nI w < nI 0 ∨ ¬ nI w ≤ nI 50) := fun z => z.elim (nlt_nI (by omega) (by omega) (by omega)) (fun y => y ((le_nI (by omega) (by omega)).mpr h))
theorem w1_ok {w : Nat} (h1 : 1 ≤ w) (h : w ≤ 50) : ¬ (nI w < nI 1 ∨ ¬ nI w ≤ nI 50) := fun z => z.elim (nlt_nI (by omega) (by omega) (by omega)) (fun y => y ((le_nI (by omega) (by omega)).mpr h))
section
variable {zr za zg : Nat → Int32} {D : DR}
theorem a_ribbon (x1 x2 : Int32) (h : LIv zr za zg D) {m a b : Nat} (s1 : Int32) (hm : m = 9 ∨ m = 50) (ha : a < 16) (hb : b < 16) : AOk (f_L_act_b105 x1 x2 (nI m) s1 (nI 1) (nI (dN D)) (nI a) (nI b) zr za zg D) := by
  obtain ⟨hz, hp, h0, h1, hw⟩ := h
  have hn := hw.1
  obtain ⟨w, hwm, el⟩ := l_low s1 (n := m) (by omega) (by omega)
  simp only [f_L_act_b105, nme, fa_lit]
  rw [el]
  simp only [bs, nI_step]
  rw [div_nI (show a < 2147483648 by omega) (show 0 < 4 by omega) (by omega), div_nI (show b < 2147483648 by omega) (show 0 < 4 by omega) (by omega)]
  by_cases c : a / 4 = b / 4
  · rw [if_pos (by rw [c]), fk_ribbon ha hb, if_pos c]
    simp only [bs, if_true]
    rw [fk_ribbon16]
    simp only [bs, if_true]
    rw [fk_ribbon (show 0 < 16 by omega) (show 15 < 16 by omega), if_neg (by omega), if_pos w1_no51]
    simp only [bs, if_true]
    exact ⟨zr, za, zg, D, rfl, hz, hp, h0, h1, hw⟩
  · rw [if_neg (by rw [eq_nI (by omega) (by omega)]; exact c)]
    by_cases d : dN D = 20
    · rw [if_pos (by rw [d]), fk_ribbon ha hb, if_neg c, if_neg (w1_ok (show 1 ≤ 1 + w by omega) (by omega)), if_pos (by omega)]
      simp only [bs, if_true]
      exact ⟨zr, za, zg, D, rfl, hz, hp, h0, h1, hw⟩
    · have hn2 : dN D < 20 := by omega
      have e0 : nI 3 * nI (dN D) = nI (3 * dN D) := pk_mul _ _
      rw [if_neg (by rw [eq_nI (by omega) (by omega)]; exact d), fk_ribbon ha hb, if_neg c, if_neg (w1_ok (show 1 ≤ 1 + w by omega) (by omega)), if_neg (show ¬ 20 ≤ dN D by omega), e0, nI_step, nI_step, cl_nI (show 1 + w < 2147483648 by omega), cl_nI (show 3 * dN D < 2147483648 by omega), cl_nI (show 3 * dN D + 1 < 2147483648 by omega), cl_nI (show 3 * dN D + 2 < 2147483648 by omega), cl_nI (show 0 < 2147483648 by omega), h0, nI_step, if_pos (gd_nI (show 3 * dN D < 60 by omega) (by omega)), if_pos (gd_nI (show 3 * dN D + 1 < 60 by omega) (by omega)), if_pos (gd_nI (show 3 * dN D + 2 < 60 by omega) (by omega))]
      simp only [bs, if_true]
      refine ⟨_, za, _, adD D a b (1 + w), rfl, fun r hr => ?_, hp, upd_q _ _ _, (upd_w (by omega)).trans h1, adD_wf hw hn2 ha hb c (by omega)⟩
      have hr : r < dN D + 1 := hr
      show _ = nI (if r = dN D then a else dF D r) ∧ _ = nI (if r = dN D then b else dG D r) ∧ _ = nI (if r = dN D then 1 + w else dW D r)
      by_cases q : r = dN D
      · subst q
        rw [if_pos rfl, if_pos rfl, if_pos rfl]
        refine ⟨?_, ?_, upd_q _ _ _⟩
        · rw [upd_w (by omega), upd_w (by omega), upd_q]
        · rw [upd_w (by omega), upd_q]
      · rw [if_neg q, if_neg q, if_neg q]
        obtain ⟨z1, z2, z3⟩ := hz r (by omega)
        refine ⟨?_, ?_, ?_⟩
        · rw [upd_w (by omega), upd_w (by omega), upd_w (by omega), z1]
        · rw [upd_w (by omega), upd_w (by omega), upd_w (by omega), z2]
        · rw [upd_w (by omega), upd_w (by omega), upd_w (by omega), z3]
theorem a_to (x1 x2 : Int32) (h : LIv zr za zg D) {a b : Nat} (ha : a < 16) (hb : b < 16) : AOk (f_L_act_b82 x1 x2 (nI b) (nI (dN D)) (nI a) zr za zg D) := by
  simp only [f_L_act_b82, fa_lit]
  by_cases c : x2 >>> (nI 7 &&& nI 31) &&& nI 1 = nI 0
  · rw [if_pos c]
    exact a_ribbon x1 x2 h _ (Or.inl rfl) ha hb
  · rw [if_neg c]
    exact a_ribbon x1 x2 h _ (Or.inr rfl) ha hb
theorem a_from (x1 x2 : Int32) (h : LIv zr za zg D) {m : Nat} (s1 : Int32) (hm : m = 16 ∨ m = 12) : AOk (f_L_act_b38 x1 x2 (nI m) s1 (nI (dN D)) zr za zg D) := by
  obtain ⟨a, ha, el⟩ := l_low s1 (n := m) (by omega) (by omega)
  simp only [f_L_act_b38, fa_lit]
  rw [el]
  simp only [bs]
  by_cases c : x2 >>> (nI 14 &&& nI 31) &&& nI 3 = nI 0
  · rw [if_pos c]
    obtain ⟨b, hb, el⟩ := l_low (x2 >>> (nI 4 &&& nI 31)) (n := 16) (by omega) (by omega)
    rw [el]
    simp only [bs]
    exact a_to x1 x2 h (by omega) hb
  · rw [if_neg c]
    obtain ⟨b, hb, el⟩ := l_low (x2 >>> (nI 4 &&& nI 31)) (n := 4) (by omega) (by omega)
    rw [el]
    simp only [bs]
    rw [div_nI (show a < 2147483648 by omega) (show 0 < 4 by omega) (by omega), nI_step, pk_mul, pk_rem (show 4 * (a / 4 + 1) < 2147483648 by omega) (show 0 < 16 by omega) (by omega), nI_step]
    exact a_to x1 x2 h (by omega) (by omega)
theorem a_widen (x1 x2 : Int32) (h : LIv zr za zg D) {k : Nat} (hk : k < dN D) : AOk (f_L_act_b326 x1 x2 (nI k) (nI (dW D k)) zr za zg D) := by
  obtain ⟨hz, hp, h0, h1, hw⟩ := h
  have hn := hw.1
  obtain ⟨w, hwm, el⟩ := l_low (x2 >>> (nI 5 &&& nI 31)) (n := 51) (by omega) (by omega)
  have e0 : nI 3 * nI k = nI (3 * k) := pk_mul _ _
  simp only [f_L_act_b326, fa_lit]
  rw [el]
  simp only [bs]
  rw [e0, nI_step, cl_nI (show 3 * k + 2 < 2147483648 by omega), if_pos (gd_nI (show 3 * k + 2 < 60 by omega) (by omega)), if_pos (gd_nI (show 3 * k + 2 < 60 by omega) (by omega)), upd_q, fk_widen hk hn, if_neg (w_ok (show w ≤ 50 by omega)), cl_nI (show w < 2147483648 by omega)]
  simp only [bs, if_true]
  rw [fk_widen (D := setW D k w) hk hn, if_pos w_no51]
  simp only [bs, if_true]
  exact ⟨_, za, zg, setW D k w, rfl, LZ_setW hz, hp, h0, h1, setW_wf hw (by omega)⟩
theorem a_remove (x1 x2 : Int32) (h : LIv zr za zg D) {k : Nat} (hk : k < dN D) : AOk (f_L_act_b394 x1 x2 FU (nI k) (nI (dW D k)) (nI (3 * k)) zr za (upd zg 0 (nI (dN D - 1))) D) := by
  obtain ⟨hz, hp, h0, h1, hw⟩ := h
  have hn := hw.1
  have hg0 : upd zg 0 (nI (dN D - 1)) 0 = nI (dN D - 1) := upd_q _ _ _
  have e3 : nI 3 * nI (dN D - 1) = nI (3 * (dN D - 1)) := pk_mul _ _
  have hl := loopI (fun F i (z : Nat → Int32) => f_L_act_b394 x1 x2 F (nI k) (nI (dW D k)) i z za (upd zg 0 (nI (dN D - 1))) D) (fun z => some (nI 1, z, za, upd zg 0 (nI (dN D - 1)), rmD D k)) (fun i z => 3 * k ≤ i ∧ ∀ j, j < 60 → z j = if 3 * k ≤ j ∧ j < i then zr (j + 3) else zr j) (3 * (dN D - 1)) ?_ ?_ (3 * (dN D - 1) - 3 * k) (3 * k) FU zr (by omega) (FU_big (by omega)) ⟨Nat.le_refl _, fun j _ => (if_neg (by omega)).symm⟩
  · obtain ⟨z, e1, -, e2⟩ := hl
    refine ⟨z, za, _, rmD D k, e1, fun r hr => ?_, hp, hg0, (upd_w (by omega)).trans h1, rmD_wf hw hk⟩
    have hr : r < dN D - 1 := hr
    show _ = nI (shf k (dF D) r) ∧ _ = nI (shf k (dG D) r) ∧ _ = nI (shf k (dW D) r)
    unfold shf
    rw [e2 (3 * r) (by omega), e2 (3 * r + 1) (by omega), e2 (3 * r + 2) (by omega)]
    by_cases q : r < k
    · obtain ⟨z1, z2, z3⟩ := hz r (by omega)
      rw [if_pos q, if_pos q, if_pos q, if_neg (by omega), if_neg (by omega), if_neg (by omega)]
      exact ⟨z1, z2, z3⟩
    · obtain ⟨z1, z2, z3⟩ := hz (r + 1) (by omega)
      rw [if_neg q, if_neg q, if_neg q, if_pos (by omega), if_pos (by omega), if_pos (by omega)]
      exact ⟨z1, z2, z3⟩
  · intro F i z hi ⟨hki, hz9⟩
    refine ⟨upd z i (z (i + 3)), ?_, by omega, fun j hj => ?_⟩
    · simp only [f_L_act_b394, nme, fa_lit]
      rw [cl_nI (show 0 < 2147483648 by omega), hg0, e3, if_neg (nle_nI (by omega) (by omega) hi), nI_step, nI_step, if_pos (gd_nI (show i + 3 < 60 by omega) (by omega)), if_pos (gd_nI (show i < 60 by omega) (by omega)), cl_nI (show i < 2147483648 by omega), cl_nI (show i + 3 < 2147483648 by omega)]
    · by_cases q : j = i
      · subst q
        rw [upd_q, hz9 (j + 3) (by omega), if_neg (by omega)]
        rw [if_pos ⟨hki, by omega⟩]
      · rw [upd_w q, hz9 j hj]
        by_cases q2 : 3 * k ≤ j ∧ j < i
        · rw [if_pos q2, if_pos ⟨q2.1, by omega⟩]
        · rw [if_neg q2, if_neg (fun y => q2 ⟨y.1, by omega⟩)]
  · intro F z _
    simp only [f_L_act_b394, fa_lit]
    rw [cl_nI (show 0 < 2147483648 by omega), hg0, e3, if_pos ((le_nI (by omega) (by omega)).mpr (Nat.le_refl _))]
    have e1 : f_K_remove D (nI k) = some (nI (dW D k), rmD D k) := by
      unfold f_K_remove
      rw [ar_in hk (by omega)]
    have e2 : f_K_remove (rmD D k) (nI (dN D - 1)) = some (-nI 31, rmD D k) := by
      unfold f_K_remove
      rw [ar_top (n := dN (rmD D k)) (k := dN D - 1) (Nat.le_refl _) (show dN D - 1 < 2147483648 by omega) (by omega)]
    rw [e1]
    simp only [bs, if_true]
    rw [e2]
    simp only [bs, if_true]
theorem fk_swap {a b : Nat} (ha : a < 16) (hb : b < 16) : f_K_swap D (nI a) (nI b) = if a = b then some (-nI 32, D) else if a / 4 = b / 4 then some (nI (xAll (exP D a b)), exP D a b) else some (-nI 32, D) := by
  unfold f_K_swap
  rw [ar_in ha (by omega), ar_in hb (by omega)]
theorem fk_swap16 (x : Int32) : f_K_swap D (nI 16) x = some (-nI 31, D) := by
  unfold f_K_swap
  rw [ar_top (n := 16) (k := 16) (by omega) (by omega) (by omega)]
theorem fk_trimNo {p : Nat} (hp : p < 16) (h : ¬ (4 ≤ p ∧ p < 12)) : f_K_trim D (nI p) = some (-nI 31, D) := by
  unfold f_K_trim
  rw [ar_in hp (by omega)]
  exact if_neg h
theorem fk_trim {p : Nat} (h : 4 ≤ p ∧ p < 12) : f_K_trim D (nI p) = some (nI (trK D p), trD D p) := by
  unfold f_K_trim
  rw [ar_in (show p < 16 by omega) (by omega)]
  exact if_pos h
theorem a_exch (hp : RR za (dP D) 16) {a b : Nat} (ha : a < 16) (hb : b < 16) : RR (upd (upd za a (za b)) b (za a)) (dP (exP D a b)) 16 := by
  intro p hp6
  show _ = nI (if p = b then dP D a else if p = a then dP D b else dP D p)
  by_cases c : p = b
  · subst c
    rw [upd_q, if_pos rfl, hp a ha]
  · rw [upd_w c, if_neg c]
    by_cases d : p = a
    · subst d
      rw [upd_q, if_pos rfl, hp b hb]
    · rw [upd_w d, if_neg d, hp p hp6]
theorem a_order (hp : RR za (dP D) 16) {c : Nat} (hc : c < 4) {d : Nat → Nat} (hd : ∀ i, i < 4 → d i < 4) (hu : unl d = true) : RR (upd (upd (upd (upd za (4 * c + d 0) (nI 0)) (4 * c + d 1) (nI 1)) (4 * c + d 2) (nI 2)) (4 * c + d 3) (nI 3)) (dP (orD D c d)) 16 := by
  have d0 := hd 0 (by omega)
  have d1 := hd 1 (by omega)
  have d2 := hd 2 (by omega)
  have d3 := hd 3 (by omega)
  intro p hp6
  show _ = nI (if p / 4 = c then ps d (p % 4) else dP D p)
  by_cases q : p / 4 = c
  · rw [if_pos q]
    unfold ps
    by_cases q3 : d 3 = p % 4
    · rw [if_pos q3, show p = 4 * c + d 3 by omega, upd_q]
    · rw [if_neg q3, upd_w (by omega)]
      by_cases q2 : d 2 = p % 4
      · rw [if_pos q2, show p = 4 * c + d 2 by omega, upd_q]
      · rw [if_neg q2, upd_w (by omega)]
        by_cases q1 : d 1 = p % 4
        · rw [if_pos q1, show p = 4 * c + d 1 by omega, upd_q]
        · rw [if_neg q1, upd_w (by omega)]
          obtain ⟨u1, u2, u3, u4, u5, u6⟩ := unl_of hu
          rw [show p = 4 * c + d 0 by omega, upd_q]
  · rw [if_neg q, upd_w (by omega), upd_w (by omega), upd_w (by omega), upd_w (by omega), hp p hp6]
theorem nUne_even (h : ∀ q, 4 ≤ q → q < 12 → comes D q = leav D q) : nUne D = 0 := by
  unfold nUne
  refine sN_0 _ 16 (fun p hp => if_neg ?_)
  unfold uEv
  by_cases c : 4 ≤ p ∧ p < 12
  · rw [decide_eq_false (show ¬ comes D p ≠ leav D p from fun z => z (h p c.1 c.2)), Bool.and_false]
    decide
  · rw [decide_eq_false c, Bool.false_and]
    decide
theorem l_act (x1 x2 : Int32) (h : LIv zr za zg D) : AOk (f_L_act x1 x2 zr za zg D) := by
  have hI := h
  obtain ⟨hz, hp, h0, h1, hw⟩ := h
  have hn := hw.1
  obtain ⟨how, hhow, el⟩ := l_low x1 (n := 14) (by omega) (by omega)
  have c0 : (nI 0).toNatClampNeg = 0 := cl_nI (by omega)
  have c1 : (nI 1).toNatClampNeg = 1 := cl_nI (by omega)
  unfold f_L_act
  simp only [nme, fa_lit]
  rw [el, c0, c1, h0, h1]
  simp only [bs]
  by_cases k5 : 5 ≤ how
  rotate_left
  · rw [if_neg (nle_nI (by omega) (by omega) (by omega))]
    by_cases c : x2 >>> (nI 14 &&& nI 31) &&& nI 7 = nI 0
    · rw [if_pos c]
      exact a_from x1 x2 hI _ (Or.inl rfl)
    · rw [if_neg c]
      exact a_from x1 x2 hI _ (Or.inr rfl)
  rw [if_pos ((le_nI (by omega) (by omega)).mpr k5)]
  by_cases k7 : 7 ≤ how
  rotate_left
  · rw [if_neg (nle_nI (by omega) (by omega) (by omega))]
    by_cases cn : dN D = 0
    · have e1 : f_K_widen D (nI 0) (nI 51) = some (-nI 31, D) := by
        unfold f_K_widen
        rw [ar_top (n := dN D) (k := 0) (by omega) (by omega) (by omega)]
      have e2 : f_K_remove D (nI 0) = some (-nI 31, D) := by
        unfold f_K_remove
        rw [ar_top (n := dN D) (k := 0) (by omega) (by omega) (by omega)]
      rw [if_pos (by rw [cn]), e1]
      simp only [bs, if_true]
      rw [e2]
      simp only [bs, if_true]
      exact ⟨zr, za, zg, D, rfl, hI⟩
    · obtain ⟨k, hk, ek⟩ := l_low x2 (n := dN D) (by omega) (by omega)
      have e0 : nI 3 * nI k = nI (3 * k) := pk_mul _ _
      rw [if_neg (by rw [eq_nI (by omega) (by omega)]; exact cn), ek]
      simp only [bs]
      rw [e0, nI_step, cl_nI (show 3 * k + 2 < 2147483648 by omega), if_pos (gd_nI (show 3 * k + 2 < 60 by omega) (by omega)), (hz k hk).2.2]
      by_cases q : how = 5
      · rw [if_pos (by rw [q])]
        exact a_widen x1 x2 hI hk
      · rw [if_neg (by rw [eq_nI (by omega) (by omega)]; exact q)]
        by_cases q2 : x2 &&& nI 1 = nI 0
        · rw [if_pos q2]
          exact a_widen x1 x2 hI hk
        · rw [if_neg q2, pk_sub (by omega)]
          exact a_remove x1 x2 hI hk
  rw [if_pos ((le_nI (by omega) (by omega)).mpr k7)]
  by_cases k9 : 9 ≤ how
  rotate_left
  · rw [if_neg (nle_nI (by omega) (by omega) (by omega))]
    obtain ⟨a, ha, ea⟩ := l_low x2 (n := 16) (by omega) (by omega)
    obtain ⟨b, hb, eb⟩ := l_low (x2 >>> (nI 4 &&& nI 31)) (n := 4) (by omega) (by omega)
    rw [ea, eb]
    simp only [bs]
    rw [div_nI (show a < 2147483648 by omega) (show 0 < 4 by omega) (by omega), pk_mul, nI_step]
    have hb6 : a / 4 * 4 + b < 16 := by omega
    have hc : a / 4 = (a / 4 * 4 + b) / 4 := by omega
    generalize a / 4 * 4 + b = b at hb6 hc
    by_cases q : a = b
    · subst q
      rw [if_pos rfl, fk_swap ha ha, if_pos rfl]
      simp only [bs, if_true]
      rw [nI_step, pk_rem (show a + 4 < 2147483648 by omega) (show 0 < 16 by omega) (by omega), fk_swap ha (show (a + 4) % 16 < 16 by omega), if_neg (by omega), if_neg (by omega)]
      simp only [bs, if_true]
      rw [fk_swap16]
      simp only [bs, if_true]
      exact ⟨zr, za, zg, D, rfl, hI⟩
    · have hwf := exP_wf hw ha hb6 hc
      have hpx := a_exch hp ha hb6
      have e1 : f_K_ifSwapped D (nI a) (nI b) = some (nI (xAll (exP D a b))) := by
        unfold f_K_ifSwapped
        rw [ar_in ha (by omega), ar_in hb6 (by omega)]
        exact if_pos ⟨hc, q⟩
      have e2 : f_L_crossings zr (upd (upd za a (za b)) b (za a)) (nI (dN D)) = some (nI (xAll (exP D a b))) := l_crossings (D := exP D a b) hz hpx hwf
      rw [if_neg (by rw [eq_nI (by omega) (by omega)]; exact q), cl_nI (show a < 2147483648 by omega), cl_nI (show b < 2147483648 by omega), if_pos (gd_nI ha (by omega)), if_pos (gd_nI hb6 (by omega)), if_pos (gd_nI ha (by omega)), if_pos (gd_nI hb6 (by omega)), e2, e1, fk_swap ha hb6, if_neg q, if_pos hc]
      simp only [bs, if_true]
      exact ⟨zr, _, zg, exP D a b, rfl, hz, hpx, h0, h1, hwf⟩
  rw [if_pos ((le_nI (by omega) (by omega)).mpr k9)]
  by_cases k10 : how = 9
  · obtain ⟨za', e1, hp'⟩ := l_sweep hz hw hp
    have hwf := swA_wf hw
    have e2 : f_L_crossings zr za' (nI (dN D)) = some (nI (xAll (swA D))) := l_crossings (D := swA D) hz hp' hwf
    rw [if_pos (by rw [k10]), e1]
    simp only [bs]
    rw [e2, show f_K_sweep D = some (nI (xAll (swA D)), swA D) from rfl]
    simp only [bs, if_true]
    exact ⟨zr, za', zg, swA D, rfl, hz, hp', h0, h1, hwf⟩
  rw [if_neg (by rw [eq_nI (by omega) (by omega)]; exact k10)]
  by_cases k11 : how = 10
  · obtain ⟨c, hc, ec⟩ := l_low x2 (n := 4) (by omega) (by omega)
    obtain ⟨hd, hu⟩ := bO_ok hw c
    have hwf := orD_wf (c := c) hw hd hu
    have e1 : f_K_bestOrder D (nI c) = some (nI (tell4 (bO D c))) := by
      unfold f_K_bestOrder
      rw [ar_in hc (by omega)]
    have e2 : f_K_order D (nI c) = some (nI (xAll (orD D c (bO D c))), orD D c (bO D c)) := by
      unfold f_K_order
      rw [ar_in hc (by omega)]
    have e3 : ∀ E : DR, f_K_order E (nI 4) = some (-nI 31, E) := by
      intro E
      unfold f_K_order
      rw [ar_top (n := 4) (k := 4) (by omega) (by omega) (by omega)]
    have hpx := a_order hp hc hd hu
    have e4 := l_crossings (D := orD D c (bO D c)) (za := upd (upd (upd (upd za (4 * c + bO D c 0) (nI 0)) (4 * c + bO D c 1) (nI 1)) (4 * c + bO D c 2) (nI 2)) (4 * c + bO D c 3) (nI 3)) hz hpx hwf
    have e5 : f_L_crossings zr (upd (upd (upd (upd za (4 * c + bO D c 0) (nI 0)) (4 * c + bO D c 1) (nI 1)) (4 * c + bO D c 2) (nI 2)) (4 * c + bO D c 3) (nI 3)) (nI (dN D)) = some (nI (xAll (orD D c (bO D c)))) := e4
    have d0 := hd 0 (by omega)
    have d1 := hd 1 (by omega)
    have d2 := hd 2 (by omega)
    have d3 := hd 3 (by omega)
    have ht := tell4_eq (bO D c)
    rw [if_pos (by rw [k11]), ec]
    simp only [bs]
    rw [l_bestOrder hz hp hw hc, e1]
    simp only [bs]
    generalize tell4 (bO D c) = t at ht
    have t4 : t < 10000 := by omega
    have t0 : nI t / nI 1000 = nI (bO D c 0) := by rw [div_nI (by omega) (by omega) (by omega), show t / 1000 = bO D c 0 by omega]
    have t1 : nI t / nI 100 - nI t / nI 100 / nI 10 * nI 10 = nI (bO D c 1) := by rw [div_nI (show t < 2147483648 by omega) (show 0 < 100 by omega) (by omega), pk_rem (show t / 100 < 2147483648 by omega) (show 0 < 10 by omega) (by omega), show t / 100 % 10 = bO D c 1 by omega]
    have t2 : nI t / nI 10 - nI t / nI 10 / nI 10 * nI 10 = nI (bO D c 2) := by rw [div_nI (show t < 2147483648 by omega) (show 0 < 10 by omega) (by omega), pk_rem (show t / 10 < 2147483648 by omega) (show 0 < 10 by omega) (by omega), show t / 10 % 10 = bO D c 2 by omega]
    have t3 : nI t - nI t / nI 10 * nI 10 = nI (bO D c 3) := by rw [pk_rem (show t < 2147483648 by omega) (show 0 < 10 by omega) (by omega), show t % 10 = bO D c 3 by omega]
    rw [if_pos trivial, t0, t1, t2, t3, pk_mul]
    simp only [nI_step]
    rw [cl_nI (show 4 * c + bO D c 0 < 2147483648 by omega), cl_nI (show 4 * c + bO D c 1 < 2147483648 by omega), cl_nI (show 4 * c + bO D c 2 < 2147483648 by omega), cl_nI (show 4 * c + bO D c 3 < 2147483648 by omega), if_pos (gd_nI (show 4 * c + bO D c 0 < 16 by omega) (by omega)), if_pos (gd_nI (show 4 * c + bO D c 1 < 16 by omega) (by omega)), if_pos (gd_nI (show 4 * c + bO D c 2 < 16 by omega) (by omega)), if_pos (gd_nI (show 4 * c + bO D c 3 < 16 by omega) (by omega)), e2, e5]
    simp only [bs, if_true]
    rw [e3]
    simp only [bs, if_true]
    exact ⟨zr, _, zg, orD D c (bO D c), rfl, hz, hpx, h0, h1, hwf⟩
  rw [if_neg (by rw [eq_nI (by omega) (by omega)]; exact k11)]
  by_cases k13 : 13 ≤ how
  rotate_left
  · obtain ⟨a, ha, ea⟩ := l_low x2 (n := 8) (by omega) (by omega)
    obtain ⟨zr', e1, hz'⟩ := l_trimmed hz hw (show 4 + a < 16 by omega)
    obtain ⟨hwf, g1, g2, g3, g4⟩ := trD_wf hw (4 + a)
    rw [if_neg (nle_nI (by omega) (by omega) (by omega)), ea]
    simp only [bs]
    rw [nI_step, e1, fk_trim (show 4 ≤ 4 + a ∧ 4 + a < 12 by omega)]
    simp only [bs, if_true]
    rw [fk_trimNo (show 3 < 16 by omega) (by omega)]
    simp only [bs, if_true]
    rw [fk_trimNo (show 12 < 16 by omega) (by omega)]
    simp only [bs, if_true]
    exact ⟨zr', za, _, trD D (4 + a), rfl, hz', by rw [g4]; exact hp, by rw [g1]; exact (upd_w (by omega)).trans h0, upd_q _ _ _, hwf⟩
  · obtain ⟨hwf, g1, g2, g3, g4, g5, g6, -, -, g9⟩ := st_spec hw
    obtain ⟨-, -, -, -, -, -, -, g7, -⟩ := st_spec hwf
    obtain ⟨zr', e1, hz'⟩ := g9 zr hz
    have e2 : f_K_ifSettled (stE D) = some (nI 0) := by
      show some (nI (stS (stE D))) = some (nI 0)
      rw [g7 g6]
    have e3 : f_K_count (stE D) (nI 5) = some (nI 0) := by
      rw [kq_count (show 5 < 9 by omega)]
      show some (nI (nUne (stE D))) = some (nI 0)
      rw [nUne_even g6]
    rw [if_pos ((le_nI (by omega) (by omega)).mpr k13), e1, show f_K_ifSettled D = some (nI (stS D)) from rfl, show f_K_settle D = some (nI (stS D), stE D) from rfl]
    simp only [bs, if_true]
    rw [e2]
    simp only [bs, if_true]
    rw [e3]
    simp only [bs, if_true]
    exact ⟨zr', za, _, stE D, rfl, hz', by rw [g4]; exact hp, by rw [g1]; exact (upd_w (by omega)).trans h0, (upd_q _ _ _).trans g5.symm, hwf⟩
end
