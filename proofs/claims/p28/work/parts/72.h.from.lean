/-! ===== what stands ahead: crossings from a width on ===== -/
def cE (K V : Nat → Nat) (w i e : Nat) : Nat := sN (fun j => if w ≤ V j ∧ K j % 4 = e then 1 else 0) i
def cA (K V : Nat → Nat) (w i : Nat) : Nat := sN (fun j => if w ≤ V j ∧ K i % 4 < K j % 4 then 1 else 0) i
def cF (K V : Nat → Nat) (w m : Nat) : Nat := sN (fun i => if w ≤ V i then cA K V w i else 0) m
theorem sN_0 (f : Nat → Nat) : ∀ n, (∀ k, k < n → f k = 0) → sN f n = 0
  | 0, _ => rfl
  | n + 1, h => by
    show sN f n + f n = 0
    rw [sN_0 f n (fun k hk => h k (by omega)), h n (by omega)]
theorem cE_sum (K V : Nat → Nat) (w i e : Nat) : sN (fun p => if e < p then cE K V w i p else 0) 4 = sN (fun j => if w ≤ V j ∧ e < K j % 4 then 1 else 0) i := by
  have h1 : sN (fun p => if e < p then cE K V w i p else 0) 4 = sN (fun p => sN (fun j => if e < p ∧ w ≤ V j ∧ K j % 4 = p then 1 else 0) i) 4 := by
    refine sN_cong (fun p _ => ?_)
    by_cases c : e < p
    · rw [if_pos c]
      refine sN_cong (fun j _ => ?_)
      by_cases d : w ≤ V j ∧ K j % 4 = p
      · rw [if_pos d, if_pos ⟨c, d⟩]
      · rw [if_neg d, if_neg (fun z => d z.2)]
    · rw [if_neg c]
      exact (sN_0 _ i (fun j _ => if_neg (fun z => c z.1))).symm
  rw [h1, sN_swap]
  refine sN_cong (fun j _ => ?_)
  have hm : K j % 4 < 4 := Nat.mod_lt _ (by omega)
  generalize K j % 4 = x at hm
  show 0 + (if e < 0 ∧ w ≤ V j ∧ x = 0 then 1 else 0) + (if e < 1 ∧ w ≤ V j ∧ x = 1 then 1 else 0) + (if e < 2 ∧ w ≤ V j ∧ x = 2 then 1 else 0) + (if e < 3 ∧ w ≤ V j ∧ x = 3 then 1 else 0) = if w ≤ V j ∧ e < x then 1 else 0
  by_cases c : w ≤ V j
  · by_cases c0 : e < x
    · match x, hm, c0 with
      | 0, _, c0 => omega
      | 1, _, c0 => rw [if_neg (by omega), if_pos ⟨c0, c, rfl⟩, if_neg (by omega), if_neg (by omega), if_pos ⟨c, c0⟩]
      | 2, _, c0 => rw [if_neg (by omega), if_neg (by omega), if_pos ⟨c0, c, rfl⟩, if_neg (by omega), if_pos ⟨c, c0⟩]
      | 3, _, c0 => rw [if_neg (by omega), if_neg (by omega), if_neg (by omega), if_pos ⟨c0, c, rfl⟩, if_pos ⟨c, c0⟩]
    · rw [if_neg (by omega), if_neg (by omega), if_neg (by omega), if_neg (by omega), if_neg (fun z => c0 z.2)]
  · rw [if_neg (fun z => c z.2.1), if_neg (fun z => c z.2.1), if_neg (fun z => c z.2.1), if_neg (fun z => c z.2.1), if_neg (fun z => c z.1)]
theorem p_crossingsFrom {rk wi en : Nat → Int32} {K V : Nat → Nat} {m w : Nat} (hk : RR rk K m) (hv : RR wi V m) (hm : m ≤ 20) (hb : ∀ k, k < m → K k < 16 ∧ V k ≤ 50) (hw : w < 100) :
    ∃ en', f_X0_crossingsFrom rk wi (nI m) (nI w) en = some (nI (cF K V w m), en') := by
  unfold f_X0_crossingsFrom
  obtain ⟨a, ha, ha2⟩ := p_fill 4 (nI 0) en (by omega)
  simp only [fa_lit] at ha ⊢
  rw [ha]
  simp only [bs]
  have h := loopI (fun F i (s : Int32 × (Nat → Int32)) => f_X0_crossingsFrom_b12 rk wi (nI m) (nI w) F s.1 i s.2) some (fun i s => s.1 = nI (cF K V w i) ∧ ∀ e, e < 4 → s.2 e = nI (cE K V w i e)) m ?_ ?_ m 0 FU (nI 0, a) (by omega) (FU_big (by omega)) ⟨rfl, fun e he => (ha2 e he).trans rfl⟩
  · obtain ⟨s, h1, h2, h3⟩ := h
    exact ⟨s.2, h1.trans (by rw [← h2])⟩
  · intro F i s hi ⟨h1, h2⟩
    obtain ⟨b1, b2⟩ := hb i hi
    by_cases c : w ≤ V i
    · refine ⟨(nI (cF K V w (i + 1)), upd s.2 (K i % 4) (nI (cE K V w i (K i % 4) + 1))), ?_, rfl, fun e he => ?_⟩
      · simp only [f_X0_crossingsFrom_b12, fa_lit, nme]
        rw [if_neg (nle_nI (by omega) (by omega) hi), if_neg (nle_nI (by omega) (by omega) (by omega)), if_pos (gd_nI (by omega) (by omega)), if_pos (gd_nI (by omega) (by omega)), cl_nI (by omega), hv i hi, hk i hi, if_neg (nlt_nI (by omega) (by omega) c), md4 (by omega), if_neg (nlt_nI (by omega) (by omega) (by omega)), nI_step, h1]
        have hl2 := loopS2 (fun G z p => f_X0_crossingsFrom_b57 rk wi (nI m) (nI w) (f_X0_crossingsFrom_b12 rk wi (nI m) (nI w) F) G z (nI i) (nI (K i % 4)) p s.2) (fun p => if K i % 4 < p then cE K V w i p else 0) (K i % 4 + 1) 4 (cF K V w i) (by omega)
          (fun z => f_X0_crossingsFrom_b12 rk wi (nI m) (nI w) F (nI z) (nI (i + 1)) (upd s.2 (K i % 4) (nI (cE K V w i (K i % 4) + 1)))) ?_ ?_ (fun k hk => if_neg (by omega)) (F := FU) (FU_big (by omega))
        · rw [hl2, cE_sum]
          show _ = f_X0_crossingsFrom_b12 rk wi (nI m) (nI w) F (nI (cF K V w i + if w ≤ V i then cA K V w i else 0)) _ _
          rw [if_pos c]
          rfl
        · intro G p z h5 h6
          simp only [f_X0_crossingsFrom_b57, fa_lit, nme]
          rw [if_neg (nle_nI (by omega) (by omega) h6), if_pos (gd_nI (by omega) (by omega)), cl_nI (by omega), h2 p h6, nI_step, nI_step, if_pos (show K i % 4 < p by omega)]
        · intro G z
          simp only [f_X0_crossingsFrom_b57, f_X0_crossingsFrom_b90, fa_lit, nme]
          rw [if_pos ((le_nI (by omega) (by omega)).mpr (Nat.le_refl _)), if_pos (gd_nI (by omega) (by omega)), if_pos (gd_nI (by omega) (by omega)), cl_nI (by omega), h2 _ (by omega), nI_step, nI_step]
      · show upd s.2 (K i % 4) (nI (cE K V w i (K i % 4) + 1)) e = nI (cE K V w i e + if w ≤ V i ∧ K i % 4 = e then 1 else 0)
        by_cases d : e = K i % 4
        · subst d
          rw [upd_q, if_pos ⟨c, rfl⟩]
        · rw [upd_w d, h2 e he, if_neg (fun z => d z.2.symm)]
          rfl
    · refine ⟨s, ?_, ?_, fun e he => ?_⟩
      · simp only [f_X0_crossingsFrom_b12, f_X0_crossingsFrom_b90, fa_lit, nme]
        rw [if_neg (nle_nI (by omega) (by omega) hi), if_neg (nle_nI (by omega) (by omega) (by omega)), if_pos (gd_nI (by omega) (by omega)), if_pos (gd_nI (by omega) (by omega)), cl_nI (by omega), hv i hi, if_pos ((lt_nI (by omega) (by omega)).mpr (by omega)), nI_step]
      · rw [h1]
        show _ = nI (cF K V w i + if w ≤ V i then cA K V w i else 0)
        rw [if_neg c]
        rfl
      · rw [h2 e he]
        show _ = nI (cE K V w i e + if w ≤ V i ∧ K i % 4 = e then 1 else 0)
        rw [if_neg (fun z => c z.1)]
        rfl
  · intro F s _
    simp only [f_X0_crossingsFrom_b12, fa_lit]
    rw [if_pos ((le_nI (by omega) (by omega)).mpr (Nat.le_refl _))]
