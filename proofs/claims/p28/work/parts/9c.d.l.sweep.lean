/-! ===== the law's rows: a sweep ===== -/
theorem lcm20 : ∀ v, v < 21 → 0 < v → 232792560 / v * v = 232792560 := by decide +kernel
def mE (D : DR) (c k : Nat) : Nat := 232792560 / mV D c k * mU D c k
theorem mS_3 {D : DR} (hw : WF D) (c k : Nat) : ∀ n, n ≤ dN D → mS D c k n ≤ 3 * mN D c k n
  | 0, _ => Nat.le_refl _
  | n + 1, h => by
    have ih := mS_3 hw c k n (by omega)
    have b := hw.2.1 _ (hw.2.2.2 n (by omega)).1
    rw [mS_s, mN_s]
    by_cases q : dG D n = c * 4 + k ∧ on D n = true
    · rw [if_pos q, if_pos q]; omega
    · rw [if_neg q, if_neg q]; omega
theorem mU_3 {D : DR} (hw : WF D) {c k : Nat} (hc : c < 4) (hk : k < 4) : mU D c k ≤ 3 * mV D c k := by
  unfold mU mV
  by_cases q : mN D c k (dN D) = 0
  · rw [if_pos q, if_pos q]; have := hw.2.1 (c * 4 + k) (by omega); omega
  · rw [if_neg q, if_neg q]; exact mS_3 hw c k _ (Nat.le_refl _)
theorem mE_le {D : DR} (hw : WF D) {c k : Nat} (hc : c < 4) (hk : k < 4) : mE D c k ≤ 698377680 := by
  have h1 := mU_3 hw hc hk
  have h2 := lcm20 (mV D c k) (by have := mV_le hw (c := c) (k := k); omega) (mV_pos D c k)
  have h3 := Nat.mul_le_mul_left (232792560 / mV D c k) h1
  have h4 : 232792560 / mV D c k * (3 * mV D c k) = 3 * (232792560 / mV D c k * mV D c k) := by rw [← Nat.mul_assoc, Nat.mul_comm _ 3, Nat.mul_assoc]
  unfold mE
  omega
theorem mE_lt {D : DR} (hw : WF D) (c x y : Nat) : (mE D c x < mE D c y) ↔ ls D c x y = true := by
  have px := mV_pos D c x
  have py := mV_pos D c y
  have hx := lcm20 (mV D c x) (by have := mV_le hw (c := c) (k := x); omega) px
  have hy := lcm20 (mV D c y) (by have := mV_le hw (c := c) (k := y); omega) py
  have e1 : mE D c x * (mV D c x * mV D c y) = 232792560 * (mU D c x * mV D c y) := by
    unfold mE
    calc 232792560 / mV D c x * mU D c x * (mV D c x * mV D c y) = (232792560 / mV D c x * mV D c x) * (mU D c x * mV D c y) := by rw [Nat.mul_mul_mul_comm]
      _ = _ := by rw [hx]
  have e2 : mE D c y * (mV D c x * mV D c y) = 232792560 * (mU D c y * mV D c x) := by
    unfold mE
    calc 232792560 / mV D c y * mU D c y * (mV D c x * mV D c y) = (232792560 / mV D c y * mV D c y) * (mU D c y * mV D c x) := by rw [Nat.mul_comm (mV D c x), Nat.mul_mul_mul_comm]
      _ = _ := by rw [hy]
  have hp : 0 < mV D c x * mV D c y := Nat.mul_pos px py
  unfold ls
  rw [decide_eq_true_eq]
  constructor
  · intro h
    have h1 := Nat.mul_lt_mul_of_pos_right h hp
    rw [e1, e2] at h1
    exact Nat.lt_of_mul_lt_mul_left h1
  · intro h
    have h1 := Nat.mul_lt_mul_of_pos_left h (show 0 < 232792560 by omega)
    rw [← e1, ← e2] at h1
    exact Nat.lt_of_mul_lt_mul_right h1
theorem c4i (c k : Nat) : nI 4 * nI c + nI k = nI (c * 4 + k) := by rw [pk_mul, nI_add, Nat.mul_comm]
set_option maxRecDepth 100000 in
theorem l_mean {zr za : Nat → Int32} {D : DR} (hz : LZ zr D) (hp : RR za (dP D) 16) (hw : WF D) {c p : Nat} (hc : c < 4) (hpp : p < 4) (K2 : Int32 → (Nat → Int32) → Option (Nat → Int32)) (K20 : Int32 → Int32 → (Nat → Int32) → (Nat → Int32) → (Nat → Int32) → Option (Nat → Int32)) (me st : Nat → Int32) :
    f_L_sweep_b35 zr (nI (dN D)) K2 K20 FU (nI c) (nI p) (nI 0) (nI 0) (nI 0) za me st = K20 (nI c) (nI (p + 1)) za (upd me p (nI (mE D c p))) (upd st (dP D (c * 4 + p)) (nI p)) := by
  have hn := hw.1
  have hb := hw.2.1 (c * 4 + p) (by omega)
  have h := loopI (fun F i (s : Int32 × Int32) => f_L_sweep_b35 zr (nI (dN D)) K2 K20 F (nI c) (nI p) s.1 s.2 i za me st) (fun _ => K20 (nI c) (nI (p + 1)) za (upd me p (nI (mE D c p))) (upd st (dP D (c * 4 + p)) (nI p))) (fun i s => s.1 = nI (mS D c p i) ∧ s.2 = nI (mN D c p i)) (dN D) (fun F i s hi hI => ?_) (fun F s hI => ?_) (dN D) 0 FU (nI 0, nI 0) (by omega) (FU_big (by omega)) ⟨rfl, rfl⟩
  · obtain ⟨s, e, -⟩ := h
    exact e
  · obtain ⟨x7, x8⟩ := s
    obtain ⟨e7, e8⟩ := hI
    have e7 : x7 = nI (mS D c p i) := e7
    have e8 : x8 = nI (mN D c p i) := e8
    subst e7 e8
    obtain ⟨h1, h2, -, -⟩ := hw.2.2.2 i hi
    obtain ⟨z1, z2, -⟩ := hz i hi
    refine ⟨(nI (mS D c p (i + 1)), nI (mN D c p (i + 1))), ?_, rfl, rfl⟩
    show f_L_sweep_b35 zr (nI (dN D)) K2 K20 (F + 1) (nI c) (nI p) (nI (mS D c p i)) (nI (mN D c p i)) (nI i) za me st = f_L_sweep_b35 zr (nI (dN D)) K2 K20 F (nI c) (nI p) (nI (mS D c p (i + 1))) (nI (mN D c p (i + 1))) (nI (i + 1)) za me st
    rw [mS_s, mN_s]
    simp only [f_L_sweep_b35, f_L_sweep_b86, fa_lit, nme]
    rw [if_neg (nle_nI (by omega) (by omega) hi), l_goesOn hz hw hi]
    simp only [bs, bI_0]
    by_cases o : on D i = false
    · rw [if_pos o, if_neg (fun z => by rw [o] at z; exact absurd z.2 (by decide)), if_neg (fun z => by rw [o] at z; exact absurd z.2 (by decide)), nI_step]
      rfl
    · rw [if_neg o, l_idx i 1, pk_mul 3 i, if_pos (gd_nI (show 3 * i + 1 < 60 by omega) (by omega)), if_pos (gd_nI (show 3 * i < 60 by omega) (by omega)), cl_nI (show 3 * i + 1 < 2147483648 by omega), cl_nI (show 3 * i < 2147483648 by omega), z1, z2, c4i]
      by_cases q : dG D i = c * 4 + p
      · rw [if_pos (by rw [q]), if_pos (gd_nI h1 (by omega)), cl_nI (show dF D i < 2147483648 by omega), hp _ h1, if_pos ⟨q, by simpa using o⟩, if_pos ⟨q, by simpa using o⟩, nI_step, nI_step, nI_step]
      · rw [if_neg (by rw [eq_nI (by omega) (by omega)]; exact q), if_neg (fun z => q z.1), if_neg (fun z => q z.1), nI_step]
        rfl
  · obtain ⟨x7, x8⟩ := s
    obtain ⟨e7, e8⟩ := hI
    have e7 : x7 = nI (mS D c p (dN D)) := e7
    have e8 : x8 = nI (mN D c p (dN D)) := e8
    subst e7 e8
    have b1 := mN_le hw c p (dN D) (Nat.le_refl _)
    show f_L_sweep_b35 zr (nI (dN D)) K2 K20 (F + 1) (nI c) (nI p) (nI (mS D c p (dN D))) (nI (mN D c p (dN D))) (nI (dN D)) za me st = _
    simp only [f_L_sweep_b35, f_L_sweep_b136, fa_lit, nme]
    rw [if_pos ((le_nI (by omega) (by omega)).mpr (Nat.le_refl _)), c4i, if_pos (gd_nI (show c * 4 + p < 16 by omega) (by omega)), cl_nI (show c * 4 + p < 2147483648 by omega), hp _ (show c * 4 + p < 16 by omega), if_pos (gd_nI hb (by omega)), cl_nI (show dP D (c * 4 + p) < 2147483648 by omega)]
    unfold mE mU mV
    by_cases q : mN D c p (dN D) = 0
    · rw [if_pos (by rw [q]), if_pos q, if_pos q, if_pos (gd_nI (show c * 4 + p < 16 by omega) (by omega)), if_pos (gd_nI hpp (by omega)), cl_nI (show p < 2147483648 by omega), pk_mul, nI_step, Nat.div_one]
    · have q2 : ¬ nI (mN D c p (dN D)) = nI 0 := by rw [eq_nI (by omega) (by omega)]; exact q
      rw [if_neg q2, if_neg q2, if_neg q, if_neg q, if_pos (gd_nI hpp (by omega)), cl_nI (show p < 2147483648 by omega), div_nI (by omega) (by omega) (by omega), pk_mul, nI_step]
theorem l_means {zr za : Nat → Int32} {D : DR} (hz : LZ zr D) (hp : RR za (dP D) 16) (hw : WF D) {c : Nat} (hc : c < 4) (K2 : Int32 → (Nat → Int32) → Option (Nat → Int32)) (me st : Nat → Int32) :
    ∃ me' st', f_L_sweep_b20 zr (nI (dN D)) K2 FU (nI c) (nI 0) za me st = f_L_sweep_b146 zr (nI (dN D)) K2 FU (nI c) (nI 1) za me' st' ∧ (∀ k, k < 4 → me' k = nI (mE D c k)) ∧ RR st' (inv D c) 4 := by
  have h := loopI (fun F i (s : (Nat → Int32) × (Nat → Int32)) => f_L_sweep_b20 zr (nI (dN D)) K2 F (nI c) i za s.1 s.2) (fun s => f_L_sweep_b146 zr (nI (dN D)) K2 FU (nI c) (nI 1) za s.1 s.2) (fun i s => (∀ k, k < i → s.1 k = nI (mE D c k)) ∧ ∀ k, k < i → s.2 (dP D (c * 4 + k)) = nI k) 4 (fun F i s hi hI => ?_) (fun F s hI => ?_) 4 0 FU (me, st) (by omega) (FU_big (by omega)) ⟨fun k hk => absurd hk (Nat.not_lt_zero k), fun k hk => absurd hk (Nat.not_lt_zero k)⟩
  · obtain ⟨⟨me', st'⟩, e, h1, h2⟩ := h
    refine ⟨me', st', e, h1, fun j hj => ?_⟩
    obtain ⟨i1, i2⟩ := inv_ok hw hc hj
    have h3 := h2 _ i1
    rw [i2] at h3
    exact h3
  · obtain ⟨s1, s2⟩ := s
    obtain ⟨i1, i2⟩ := hI
    refine ⟨(upd s1 i (nI (mE D c i)), upd s2 (dP D (c * 4 + i)) (nI i)), ?_, fun k hk => ?_, fun k hk => ?_⟩
    · show f_L_sweep_b20 zr (nI (dN D)) K2 (F + 1) (nI c) (nI i) za s1 s2 = _
      simp only [f_L_sweep_b20, fa_lit]
      rw [if_neg (nle_nI (by omega) (by omega) hi), l_mean hz hp hw hc hi]
    · show upd s1 i (nI (mE D c i)) k = _
      by_cases q : k = i
      · rw [q, upd_q]
      · rw [upd_w q]; exact i1 k (by omega)
    · show upd s2 (dP D (c * 4 + i)) (nI i) (dP D (c * 4 + k)) = _
      by_cases q : k = i
      · rw [q, upd_q]
      · rw [upd_w (fun e => q (by have := hw.2.2.1 _ _ (by omega) (by omega) (by omega) e; omega))]; exact i2 k (by omega)
  · show f_L_sweep_b20 zr (nI (dN D)) K2 (F + 1) (nI c) (nI 4) za s.1 s.2 = _
    simp only [f_L_sweep_b20, fa_lit]
    rw [if_pos ((le_nI (by omega) (by omega)).mpr (Nat.le_refl _))]
theorem l_insert {zr za me : Nat → Int32} {D : DR} (hw : WF D) {c x i : Nat} (hc : c < 4) (hx : x < 4) (hm : ∀ k, k < 4 → me k = nI (mE D c k)) (x2 : Int32) (K2 : Int32 → (Nat → Int32) → Option (Nat → Int32)) (K : Int32 → Int32 → (Nat → Int32) → (Nat → Int32) → (Nat → Int32) → Option (Nat → Int32)) :
    ∀ (f F : Nat) (row : Nat → Int32) (R : Nat → Nat), f < 4 → f < F → RR row (fun k => if k = f then x else R k) 4 → (∀ k, k < 4 → R k < 4) → ∃ row', f_L_sweep_b156 zr x2 K2 K F (nI c) (nI i) (nI f) za me row = K (nI c) (nI (i + 1)) za me row' ∧ RR row' (insB (ls D c) x f R) 4 := by
  intro f
  induction f with
  | zero =>
    intro F row R hf hF hr hR
    cases F with
    | zero => omega
    | succ F =>
      refine ⟨row, ?_, hr⟩
      simp only [f_L_sweep_b156, f_L_sweep_b216, fa_lit, nme]
      rw [if_pos ((le_nI (by omega) (by omega)).mpr (Nat.le_refl _)), nI_step]
  | succ f ih =>
    intro F row R hf hF hr hR
    cases F with
    | zero => omega
    | succ F =>
      have e1 : nI (f + 1) - nI 1 = nI f := pk_sub (show 1 ≤ f + 1 by omega)
      have r1 : row (f + 1) = nI x := by
        have := hr (f + 1) hf
        dsimp only at this
        rw [if_pos rfl] at this
        exact this
      have r0 : row f = nI (R f) := by
        have := hr f (by omega)
        dsimp only at this
        rw [if_neg (show ¬ f = f + 1 by omega)] at this
        exact this
      have hRf := hR f (by omega)
      have m1 := mE_le hw hc hx
      have m0 := mE_le hw hc hRf
      have key := mE_lt hw c x (R f)
      simp only [f_L_sweep_b156, f_L_sweep_b216, fa_lit, nme]
      rw [if_neg (nle_nI (by omega) (by omega) (by omega)), e1]
      simp only [if_pos (gd_nI (show f < 4 by omega) (show f < 2147483648 by omega)), if_pos (gd_nI hf (show f + 1 < 2147483648 by omega))]
      rw [cl_nI (show f + 1 < 2147483648 by omega), cl_nI (show f < 2147483648 by omega), r1, r0, if_pos (gd_nI hx (by omega)), if_pos (gd_nI hRf (by omega)), cl_nI (show x < 2147483648 by omega), cl_nI (show R f < 2147483648 by omega), hm x hx, hm _ hRf]
      by_cases q : ls D c x (R f) = true
      · have q2 := key.mpr q
        rw [if_neg (nle_nI (by omega) (by omega) q2), dn1 (by omega)]
        have e3 : insB (ls D c) x (f + 1) R = insB (ls D c) x f (fun k => if k = f + 1 then R f else R k) := if_pos q
        rw [e3]
        refine ih F _ _ (by omega) (by omega) (fun k hk => ?_) (fun k hk => ?_)
        · show upd (upd row (f + 1) (nI (R f))) f (nI x) k = nI (if k = f then x else if k = f + 1 then R f else R k)
          by_cases h0 : k = f
          · rw [h0, upd_q, if_pos rfl]
          · rw [upd_w h0, if_neg h0]
            by_cases h1 : k = f + 1
            · rw [h1, upd_q, if_pos rfl]
            · rw [upd_w h1, if_neg h1]
              have := hr k hk
              dsimp only at this
              rw [if_neg h1] at this
              exact this
        · show (if k = f + 1 then R f else R k) < 4
          by_cases h : k = f + 1
          · rw [if_pos h]; exact hRf
          · rw [if_neg h]; exact hR k hk
      · have q2 : ¬ mE D c x < mE D c (R f) := fun z => q (key.mp z)
        rw [if_pos ((le_nI (by omega) (by omega)).mpr (by omega)), nI_step]
        have e3 : insB (ls D c) x (f + 1) R = (fun k => if k = f + 1 then x else R k) := if_neg q
        rw [e3]
        exact ⟨row, rfl, hr⟩
theorem l_sort {zr za me row : Nat → Int32} {D : DR} (hw : WF D) {c : Nat} (hc : c < 4) (hm : ∀ k, k < 4 → me k = nI (mE D c k)) (x2 : Int32) (K2 : Int32 → (Nat → Int32) → Option (Nat → Int32)) (hr : RR row (inv D c) 4) :
    ∃ row', f_L_sweep_b146 zr x2 K2 FU (nI c) (nI 1) za me row = f_L_sweep_b225 zr x2 K2 FU (nI c) (nI 0) za me row' ∧ RR row' (srR D c) 4 := by
  have h0 : ∀ k, k < 4 → inv D c k < 4 := fun k hk => (inv_ok hw hc hk).1
  have st : ∀ i F row R, i < 4 → RR row R 4 → (∀ k, k < 4 → R k < 4) → ∃ row', f_L_sweep_b146 zr x2 K2 (F + 1) (nI c) (nI i) za me row = f_L_sweep_b146 zr x2 K2 F (nI c) (nI (i + 1)) za me row' ∧ RR row' (insB (ls D c) (R i) i R) 4 ∧ ∀ k, k < 4 → insB (ls D c) (R i) i R k < 4 := by
    intro i F row R hi hr hR
    obtain ⟨row', e1, e2⟩ := l_insert (zr := zr) (za := za) hw (i := i) hc (hR i hi) hm x2 K2 (f_L_sweep_b146 zr x2 K2 F) i FU row R hi (FU_big (by omega)) (fun k hk => by
      rw [hr k hk]
      dsimp only
      by_cases q : k = i
      · rw [if_pos q, q]
      · rw [if_neg q]) hR
    refine ⟨row', ?_, e2, fun k hk => ?_⟩
    · rw [← e1]
      simp only [f_L_sweep_b146, fa_lit]
      rw [if_neg (nle_nI (by omega) (by omega) hi)]
    · by_cases h : k ≤ i
      · exact insB_P (ls D c) (fun y => y < 4) (R i) (hR i hi) i R (fun j hj => hR j (by omega)) k h
      · rw [insB_out (ls D c) (R i) i R k (by omega)]; exact hR k hk
  obtain ⟨G, e⟩ : ∃ G, FU = G + 1 + 1 + 1 + 1 := ⟨5996, rfl⟩
  obtain ⟨r1, e1, q1, b1⟩ := st 1 (G + 1 + 1 + 1) row (inv D c) (by omega) hr h0
  obtain ⟨r2, e2, q2, b2⟩ := st 2 (G + 1 + 1) r1 _ (by omega) q1 b1
  obtain ⟨r3, e3, q3, b3⟩ := st 3 (G + 1) r2 _ (by omega) q2 b2
  refine ⟨r3, ?_, q3⟩
  have e4 : f_L_sweep_b146 zr x2 K2 (G + 1) (nI c) (nI 4) za me r3 = f_L_sweep_b225 zr x2 K2 FU (nI c) (nI 0) za me r3 := by
    simp only [f_L_sweep_b146, fa_lit]
    rw [if_pos ((le_nI (by omega) (by omega)).mpr (Nat.le_refl _))]
  rw [← e4, ← e3, ← e2, ← e1, ← e]
theorem l_putRow {D : DR} (hw : WF D) {c : Nat} (hc : c < 4) {pl : Nat → Int32} {i : Nat} (hi : i < 4) (h : RR pl (fun p => if p / 4 = c ∧ rk D c (p % 4) < i then rk D c (p % 4) else dP D p) 16) :
    RR (upd pl (c * 4 + srR D c i) (nI i)) (fun p => if p / 4 = c ∧ rk D c (p % 4) < i + 1 then rk D c (p % 4) else dP D p) 16 := by
  obtain ⟨k1, k2⟩ := srR_ok hw hc hi
  intro p hp
  show upd pl (c * 4 + srR D c i) (nI i) p = nI (if p / 4 = c ∧ rk D c (p % 4) < i + 1 then rk D c (p % 4) else dP D p)
  by_cases q : p = c * 4 + srR D c i
  · have q1 : p % 4 = srR D c i := by omega
    rw [q1, k2, if_pos ⟨by omega, by omega⟩, q, upd_q]
  · rw [upd_w q, h p hp]
    apply congrArg nI
    show (if p / 4 = c ∧ rk D c (p % 4) < i then rk D c (p % 4) else dP D p) = if p / 4 = c ∧ rk D c (p % 4) < i + 1 then rk D c (p % 4) else dP D p
    by_cases q2 : p / 4 = c
    · have x := srR_of hw hc (k := p % 4) (by omega)
      have q3 : rk D c (p % 4) ≠ i := fun e => by
        rw [e] at x
        omega
      by_cases q4 : rk D c (p % 4) < i
      · rw [if_pos ⟨q2, q4⟩, if_pos ⟨q2, by omega⟩]
      · rw [if_neg (fun h => q4 h.2), if_neg (fun h => q3 (by omega))]
    · rw [if_neg (fun h => q2 h.1), if_neg (fun h => q2 h.1)]
theorem l_column {zr me row pl : Nat → Int32} {D : DR} (hw : WF D) {c : Nat} (hc : c < 4) (x2 : Int32) (K2 : Int32 → (Nat → Int32) → Option (Nat → Int32)) (hr : RR row (srR D c) 4) (hp : RR pl (dP D) 16) :
    ∃ pl', f_L_sweep_b225 zr x2 K2 FU (nI c) (nI 0) pl me row = K2 (nI (c + 1)) pl' ∧ RR pl' (dP (swC D c)) 16 := by
  have h := loopI (fun F i x => f_L_sweep_b225 zr x2 K2 F (nI c) i x me row) (fun x => K2 (nI (c + 1)) x)
    (fun i x => RR x (fun p => if p / 4 = c ∧ rk D c (p % 4) < i then rk D c (p % 4) else dP D p) 16) 4 (fun F i x hi hI => ?_) (fun F x _ => ?_) 4 0 FU pl (by omega) (FU_big (by omega)) (fun p hp2 => ?_)
  · obtain ⟨pl', e1, e2⟩ := h
    refine ⟨pl', e1, fun p hp2 => ?_⟩
    rw [e2 p hp2]
    apply congrArg nI
    show (if p / 4 = c ∧ rk D c (p % 4) < 4 then rk D c (p % 4) else dP D p) = if p / 4 = c then rk D c (p % 4) else dP D p
    have := rk_lt D (c := c) (k := p % 4) (by omega)
    by_cases q : p / 4 = c
    · rw [if_pos q, if_pos ⟨q, this⟩]
    · rw [if_neg q, if_neg (fun h => q h.1)]
  · obtain ⟨k1, k2⟩ := srR_ok hw hc hi
    refine ⟨upd x (c * 4 + srR D c i) (nI i), ?_, l_putRow hw hc hi hI⟩
    show f_L_sweep_b225 zr x2 K2 (F + 1) (nI c) (nI i) x me row = _
    simp only [f_L_sweep_b225, fa_lit, nme]
    rw [if_neg (nle_nI (by omega) (by omega) hi), if_pos (gd_nI hi (by omega)), cl_nI (by omega), hr i hi, c4i, if_pos (gd_nI (show c * 4 + srR D c i < 16 by omega) (by omega)), cl_nI (by omega), nI_step]
  · show f_L_sweep_b225 zr x2 K2 (F + 1) (nI c) (nI 4) x me row = _
    simp only [f_L_sweep_b225, fa_lit, nme]
    rw [if_pos ((le_nI (by omega) (by omega)).mpr (Nat.le_refl _)), nI_step]
  · show pl p = nI (if p / 4 = c ∧ rk D c (p % 4) < 0 then rk D c (p % 4) else dP D p)
    rw [if_neg (fun h => Nat.not_lt_zero _ h.2)]
    exact hp p hp2
theorem l_sweepOne {zr pl : Nat → Int32} {D : DR} (hz : LZ zr D) (hw : WF D) (hp : RR pl (dP D) 16) {c : Nat} (hc : c < 4) (F : Nat) :
    ∃ pl', f_L_sweep_b2 zr (nI (dN D)) (F + 1) (nI c) pl = f_L_sweep_b2 zr (nI (dN D)) F (nI (c + 1)) pl' ∧ RR pl' (dP (swC D c)) 16 := by
  obtain ⟨me, st, e1, a1, a2⟩ := l_means hz hp hw hc (f_L_sweep_b2 zr (nI (dN D)) F) (fun _ => nI 0) (fun _ => nI 0)
  obtain ⟨r2, e3, a4⟩ := l_sort (zr := zr) (za := pl) hw hc a1 (nI (dN D)) (f_L_sweep_b2 zr (nI (dN D)) F) a2
  obtain ⟨pl', e4, a5⟩ := l_column (zr := zr) (me := me) hw hc (nI (dN D)) (f_L_sweep_b2 zr (nI (dN D)) F) a4 hp
  refine ⟨pl', ?_, a5⟩
  rw [← e4, ← e3, ← e1]
  simp only [f_L_sweep_b2, fa_lit]
  rw [if_neg (nle_nI (by omega) (by omega) hc)]
theorem l_sweep {zr za : Nat → Int32} {D : DR} (hz : LZ zr D) (hw : WF D) (hp : RR za (dP D) 16) : ∃ za', f_L_sweep zr (nI (dN D)) za = some za' ∧ RR za' (dP (swA D)) 16 := by
  obtain ⟨p1, e1, h1⟩ := l_sweepOne hz hw hp (c := 1) (by omega) 7
  obtain ⟨p2, e2, h2⟩ := l_sweepOne (D := swC D 1) hz (swC_wf hw (by omega)) h1 (c := 2) (by omega) 6
  obtain ⟨p3, e3, h3⟩ := l_sweepOne (D := swC (swC D 1) 2) hz (swC_wf (swC_wf hw (by omega)) (by omega)) h2 (c := 3) (by omega) 5
  refine ⟨p3, ?_, h3⟩
  have e4 : f_L_sweep_b2 zr (nI (dN D)) 5 (nI 4) p3 = some p3 := by
    rw [show (5 : Nat) = 4 + 1 from rfl]
    simp only [f_L_sweep_b2, fa_lit]
    rw [if_pos ((le_nI (by omega) (by omega)).mpr (Nat.le_refl _))]
  unfold f_L_sweep
  rw [fa_lit, show FUS = 7 + 1 from rfl, e1]
  exact e2.trans (e3.trans e4)
