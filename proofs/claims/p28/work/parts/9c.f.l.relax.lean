/-! ===== the law's rows: ways, labels at the posts ===== -/
def wE (D : DR) (wo : Nat) : DR := setW D wo 0
theorem wE_wf {D : DR} (hw : WF D) (wo : Nat) : WF (wE D wo) := setW_wf hw (Nat.zero_le _)
theorem wE_w (D : DR) (wo k : Nat) : dW (wE D wo) k = if k = wo then 0 else dW D k := rfl
theorem wE_on (D : DR) (wo r : Nat) : on (wE D wo) r = on D r := rfl
theorem thr_wo {D : DR} (hw : WF D) (wo : Nat) : thr D wo = thr (wE D wo) 100 := by
  have hn := hw.1
  have h : (fun x => cuT D x wo) = (fun x => cuT (wE D wo) x 100) := by
    funext x
    show sN (fun r => if r ≠ wo ∧ cuR D x r = true then dW D r else 0) (dN D) = sN (fun r => if r ≠ 100 ∧ cuR D x r = true then (if r = wo then 0 else dW D r) else 0) (dN D)
    refine sN_cong (fun r hr => ?_)
    by_cases c : cuR D x r = true
    · by_cases d : r = wo
      · rw [if_neg (fun z => z.1 d), if_pos (show r ≠ 100 ∧ cuR D x r = true from ⟨by omega, c⟩), if_pos d]
      · rw [if_pos (show r ≠ wo ∧ cuR D x r = true from ⟨d, c⟩), if_pos (show r ≠ 100 ∧ cuR D x r = true from ⟨by omega, c⟩), if_neg d]
    · rw [if_neg (fun z => c z.2), if_neg (fun z => c z.2)]
  show lmN (fun x => cuT D x wo) 255 = lmN (fun x => cuT (wE D wo) x 100) 255
  rw [h]
def labI (D : DR) (p r : Nat) : Int32 := if dG D r = p then nI (r + 1) else -nI r - nI 1
theorem labs : ∀ r, r < 20 → ¬ nI (r + 1) = nI 0 ∧ ¬ nI (r + 1) = nI 99 ∧ ¬ (-nI r - nI 1 = nI 0) ∧ ¬ (-nI r - nI 1 = nI 99) ∧ (-nI r - nI 1 ≤ nI 0) ∧ ¬ (nI (r + 1) ≤ nI 0) ∧ -(-nI r - nI 1) - nI 1 = nI r ∧ nI (r + 1) - nI 1 = nI r := by decide
theorem labI_ne {D : DR} {p r : Nat} (hr : r < 20) : ¬ labI D p r = nI 0 ∧ ¬ labI D p r = nI 99 := by
  obtain ⟨h1, h2, h3, h4, -⟩ := labs r hr
  unfold labI
  by_cases c : dG D r = p
  · rw [if_pos c]; exact ⟨h1, h2⟩
  · rw [if_neg c]; exact ⟨h3, h4⟩
/-- the posts that have a label, in their order -/
def LB (D : DR) (f : Nat → Nat) (m : Nat) (Q : Nat → Nat) (b : Nat → Int32) : Prop :=
  4 ≤ m ∧ (∀ j, j < m → Q j < 16) ∧ (∀ j, j < 4 → Q j = j ∧ b j = nI 99) ∧ (∀ i j, i < j → j < m → Q i ≠ Q j) ∧ (∀ p, p < 16 → (∀ j, j < m → Q j ≠ p) → b p = nI 0) ∧
    ∀ j, 4 ≤ j → j < m → ∃ r i, r < dN D ∧ i < j ∧ nx D f (Q i) r = some (Q j) ∧ b (Q j) = labI D (Q j) r
theorem LB_m {D : DR} {f : Nat → Nat} {m : Nat} {Q : Nat → Nat} {b : Nat → Int32} (h : LB D f m Q b) : m ≤ 16 := pigeon 16 m Q h.2.1 h.2.2.2.1
theorem LB_b {D : DR} {f : Nat → Nat} {m : Nat} {Q : Nat → Nat} {b : Nat → Int32} (h : LB D f m Q b) (hn : dN D ≤ 20) {j : Nat} (hj : j < m) : ¬ b (Q j) = nI 0 := by
  obtain ⟨h1, h2, h3, h4, h5, h6⟩ := h
  by_cases c : j < 4
  · rw [(h3 j c).1, (h3 j c).2]; decide
  · obtain ⟨r, i, e1, e2, e3, e4⟩ := h6 j (by omega) hj
    rw [e4]
    exact (labI_ne (by omega)).1
theorem LB_at {D : DR} {f : Nat → Nat} {m : Nat} {Q : Nat → Nat} {b : Nat → Int32} (h : LB D f m Q b) {p : Nat} (hp : p < 16) (hb : ¬ b p = nI 0) : ∃ j, j < m ∧ Q j = p := by
  by_cases c : ∃ j, j < m ∧ Q j = p
  · exact c
  · exact absurd (h.2.2.2.2.1 p hp (fun j hj e => c ⟨j, hj, e⟩)) hb
theorem LB_no {D : DR} {f : Nat → Nat} {m : Nat} {Q : Nat → Nat} {b : Nat → Int32} (h : LB D f m Q b) (hn : dN D ≤ 20) {p : Nat} (hb : b p = nI 0) : ∀ j, j < m → Q j ≠ p := by
  intro j hj e
  have := LB_b h hn hj
  rw [e] at this
  exact this hb
theorem LB_add {D : DR} {f : Nat → Nat} {m : Nat} {Q : Nat → Nat} {b : Nat → Int32} (h : LB D f m Q b) {q i r : Nat} (hq : q < 16) (hne : ∀ j, j < m → Q j ≠ q) (hi : i < m) (hr : r < dN D) (hx : nx D f (Q i) r = some q) : LB D f (m + 1) (fun k => if k = m then q else Q k) (upd b q (labI D q r)) := by
  obtain ⟨h1, h2, h3, h4, h5, h6⟩ := h
  have hq4 : ¬ q < 4 := fun z => hne q (by omega) (h3 q z).1
  refine ⟨by omega, fun j hj => ?_, fun j hj => ?_, fun a c hac hc => ?_, fun p hp hno => ?_, fun j hj4 hj => ?_⟩
  · show (if j = m then q else Q j) < 16
    by_cases c : j = m
    · rw [if_pos c]; exact hq
    · rw [if_neg c]; exact h2 j (by omega)
  · show (if j = m then q else Q j) = j ∧ _
    rw [if_neg (by omega), upd_w (by omega)]
    exact h3 j hj
  · show (if a = m then q else Q a) ≠ (if c = m then q else Q c)
    rw [if_neg (show ¬ a = m by omega)]
    by_cases d : c = m
    · rw [if_pos d]; exact hne a (by omega)
    · rw [if_neg d]; exact h4 a c hac (by omega)
  · have hm := hno m (by omega)
    dsimp only at hm
    rw [if_pos rfl] at hm
    rw [upd_w (fun e => hm e.symm)]
    refine h5 p hp (fun j hj => ?_)
    have := hno j (by omega)
    dsimp only at this
    rw [if_neg (by omega)] at this
    exact this
  · dsimp only
    by_cases c : j = m
    · subst c
      refine ⟨r, i, hr, hi, ?_, ?_⟩
      · rw [if_neg (by omega), if_pos rfl]; exact hx
      · rw [if_pos rfl, upd_q]
    · obtain ⟨r', i', e1, e2, e3, e4⟩ := h6 j hj4 (by omega)
      refine ⟨r', i', e1, e2, ?_, ?_⟩
      · rw [if_neg (by omega), if_neg c]; exact e3
      · rw [if_neg c, upd_w (hne j (by omega))]; exact e4
/-- what the ribbon k leads to from the posts with a label has one, too -/
def CLk (D : DR) (f : Nat → Nat) (m : Nat) (Q : Nat → Nat) (k : Nat) : Prop := ∀ i, i < m → Q i < 12 → ∀ q, nx D f (Q i) k = some q → ∃ j, j < m ∧ Q j = q
theorem on_lt {D : DR} (hw : WF D) {k : Nat} (hk : k < dN D) (ho : on D k = true) : dF D k < 12 ∧ dF D k ≠ dG D k := by
  obtain ⟨h1, h2, h3, -⟩ := hw.2.2.2 k hk
  have h4 := of_decide_eq_true (show decide (dF D k / 4 < dG D k / 4) = true from ho)
  exact ⟨by omega, fun e => h3 (by rw [e])⟩
/-- the second look of the step: from the end back -/
theorem l_back (zr : Nat → Int32) (x1 x2 : Int32) (K14 : Int32 → (Nat → Int32) → (Nat → Int32) → Option Int32) (K50 : Int32 → Int32 → (Nat → Int32) → (Nat → Int32) → Option Int32) (K60 : Int32 → Int32 → Int32 → (Nat → Int32) → (Nat → Int32) → Option Int32) (x5 x6 : Int32) (us b : Nat → Int32) {k F G u : Nat} (hk : k < 20) (hF : F < 16) (hG : G < 16) (hu : us k = nI u) (hu2 : u ≤ 50) :
    f_L_through_b149 zr x1 x2 K14 K50 K60 x5 x6 (nI k) (nI F) (nI G) us b = if ¬ b G = nI 0 ∧ b F = nI 0 ∧ 0 < u ∧ G < 12 then K60 x5 x6 (nI (k + 1)) us (upd b F (-nI k - nI 1)) else K60 x5 x6 (nI (k + 1)) us b := by
  unfold f_L_through_b149 f_L_through_b189
  simp only [fa_lit, nme]
  rw [if_pos (gd_nI hG (by omega)), if_pos (gd_nI hF (by omega)), if_pos (gd_nI hF (by omega)), if_pos (gd_nI hk (by omega)), cl_nI (show G < 2147483648 by omega), cl_nI (show F < 2147483648 by omega), cl_nI (show k < 2147483648 by omega), hu, nI_step]
  by_cases c1 : b G = nI 0
  · rw [if_pos c1, if_neg (fun z => z.1 c1)]
  · rw [if_neg c1]
    by_cases c2 : b F = nI 0
    · rw [if_pos c2]
      by_cases c3 : 0 < u
      · rw [if_neg (nle_nI (by omega) (by omega) c3)]
        by_cases c4 : G < 12
        · rw [if_neg (nle_nI (by omega) (by omega) c4), if_pos ⟨c1, c2, c3, c4⟩]
        · rw [if_pos ((le_nI (by omega) (by omega)).mpr (by omega)), if_neg (fun z => c4 z.2.2.2)]
      · rw [if_pos ((le_nI (by omega) (by omega)).mpr (by omega)), if_neg (fun z => c3 z.2.2.1)]
    · rw [if_neg c2, if_neg (fun z => c2 z.2.1)]
theorem l_relax {zr : Nat → Int32} {D : DR} (hz : LZ zr D) (hw : WF D) {x2 : Int32} {wo : Nat} (ho : ∀ r, r < dN D → (nI r = x2 ↔ r = wo)) {f : Nat → Nat} {us : Nat → Int32} (hu : RR us f (dN D)) (hl : FL (wE D wo) f)
    (K14 : Int32 → (Nat → Int32) → (Nat → Int32) → Option Int32) (K50 : Int32 → Int32 → (Nat → Int32) → (Nat → Int32) → Option Int32) (x5 x6 : Int32) {k : Nat} (hk : k < dN D) {m : Nat} {Q : Nat → Nat} {b : Nat → Int32} (hB : LB (wE D wo) f m Q b) (F9 : Nat) :
    ∃ m' Q' b', f_L_through_b60 zr (nI (dN D)) x2 K14 K50 (F9 + 1) x5 x6 (nI k) us b = f_L_through_b60 zr (nI (dN D)) x2 K14 K50 F9 x5 x6 (nI (k + 1)) us b' ∧ LB (wE D wo) f m' Q' b' ∧ m ≤ m' ∧ (m' = m → b' = b ∧ Q' = Q ∧ CLk (wE D wo) f m Q k) ∧ (CLk (wE D wo) f m Q k → m' = m) := by
  have hn := hw.1
  obtain ⟨h1, h2, h3, h4⟩ := hw.2.2.2 k hk
  obtain ⟨z1, z2, z3⟩ := hz k hk
  obtain ⟨l1, l2⟩ := hl k hk
  have hn2 : dN (wE D wo) ≤ 20 := hn
  simp only [f_L_through_b60, fa_lit, nme]
  rw [if_neg (nle_nI (by omega) (by omega) hk)]
  simp only [ho k hk]
  unfold f_L_through_b189
  simp only [fa_lit, nme]
  rw [nI_step]
  by_cases c0 : k = wo
  · refine ⟨m, Q, b, if_pos c0, hB, Nat.le_refl _, fun _ => ⟨rfl, rfl, fun i hi h12 q hq => ?_⟩, fun _ => rfl⟩
    rw [wE_w, if_pos c0] at l1
    obtain ⟨-, ⟨-, -, e⟩ | ⟨-, -, e⟩⟩ := nx_some hq
    · rw [wE_w, if_pos c0] at e; omega
    · omega
  rw [if_neg c0, l_goesOn hz hw hk]
  simp only [bs, bI_0]
  by_cases o : on D k = false
  · refine ⟨m, Q, b, if_pos o, hB, Nat.le_refl _, fun _ => ⟨rfl, rfl, fun i hi h12 q hq => ?_⟩, fun _ => rfl⟩
    have z := (nx_some hq).1
    rw [wE_on, o] at z
    cases z
  have o' : on D k = true := by simpa using o
  obtain ⟨hF12, hFG⟩ := on_lt hw hk o'
  have hW : dW (wE D wo) k = dW D k := by rw [wE_w, if_neg c0]
  rw [hW] at l1
  have hF16 : dF D k < 16 := h1
  rw [if_neg o, l_idx k 1, l_idx k 2, pk_mul 3 k, if_pos (gd_nI (show 3 * k < 60 by omega) (by omega)), if_pos (gd_nI (show 3 * k + 1 < 60 by omega) (by omega)), cl_nI (show 3 * k < 2147483648 by omega), cl_nI (show 3 * k + 1 < 2147483648 by omega), z1, z2, if_pos (gd_nI h1 (by omega)), cl_nI (show dF D k < 2147483648 by omega), if_pos (gd_nI h2 (by omega)), if_pos (gd_nI h2 (by omega)), cl_nI (show dG D k < 2147483648 by omega), if_pos (gd_nI (show k < 20 by omega) (by omega)), if_pos (gd_nI (show 3 * k + 2 < 60 by omega) (by omega)), cl_nI (show k < 2147483648 by omega), cl_nI (show 3 * k + 2 < 2147483648 by omega), z3, hu k hk, if_neg (nle_nI (by omega) (by omega) hF12)]
  have bk := fun b => l_back zr (nI (dN D)) x2 K14 K50 (f_L_through_b60 zr (nI (dN D)) x2 K14 K50 F9) x5 x6 us b (show k < 20 by omega) h1 h2 (hu k hk) (show f k ≤ 50 by omega)
  by_cases a : ¬ b (dF D k) = nI 0 ∧ b (dG D k) = nI 0 ∧ f k < dW D k
  · obtain ⟨a1, a2, a3⟩ := a
    obtain ⟨i, i1, i2⟩ := LB_at hB h1 a1
    have hx : nx (wE D wo) f (Q i) k = some (dG D k) := nx_up (D := wE D wo) o' i2.symm (by rw [hW]; exact a3)
    have hno := LB_no hB hn2 a2
    have hadd := LB_add hB h2 hno i1 hk hx
    have hlab : labI (wE D wo) (dG D k) k = nI (k + 1) := if_pos rfl
    rw [hlab] at hadd
    refine ⟨m + 1, _, _, ?_, hadd, Nat.le_succ m, fun z => absurd z (by omega), fun hc => ?_⟩
    · rw [if_neg a1, if_pos a2, if_neg (nle_nI (by omega) (by omega) a3), bk, if_neg (fun z => a1 (by have := z.2.1; rw [upd_w hFG] at this; exact this))]
    · obtain ⟨j, j1, j2⟩ := hc i i1 (by rw [i2]; exact hF12) _ hx
      exact absurd j2 (hno j j1)
  · have nofire : (if b (dF D k) = nI 0 then f_L_through_b149 zr (nI (dN D)) x2 K14 K50 (f_L_through_b60 zr (nI (dN D)) x2 K14 K50 F9) x5 x6 (nI k) (nI (dF D k)) (nI (dG D k)) us b else if b (dG D k) = nI 0 then if nI (dW D k) ≤ nI (f k) then f_L_through_b149 zr (nI (dN D)) x2 K14 K50 (f_L_through_b60 zr (nI (dN D)) x2 K14 K50 F9) x5 x6 (nI k) (nI (dF D k)) (nI (dG D k)) us b else f_L_through_b149 zr (nI (dN D)) x2 K14 K50 (f_L_through_b60 zr (nI (dN D)) x2 K14 K50 F9) x5 x6 (nI k) (nI (dF D k)) (nI (dG D k)) us (upd b (dG D k) (nI (k + 1))) else f_L_through_b149 zr (nI (dN D)) x2 K14 K50 (f_L_through_b60 zr (nI (dN D)) x2 K14 K50 F9) x5 x6 (nI k) (nI (dF D k)) (nI (dG D k)) us b) = f_L_through_b149 zr (nI (dN D)) x2 K14 K50 (f_L_through_b60 zr (nI (dN D)) x2 K14 K50 F9) x5 x6 (nI k) (nI (dF D k)) (nI (dG D k)) us b := by
      by_cases a1 : b (dF D k) = nI 0
      · rw [if_pos a1]
      · rw [if_neg a1]
        by_cases a2 : b (dG D k) = nI 0
        · rw [if_pos a2, if_pos ((le_nI (by omega) (by omega)).mpr (by
            by_cases a3 : f k < dW D k
            · exact absurd ⟨a1, a2, a3⟩ a
            · omega))]
        · rw [if_neg a2]
    by_cases d : ¬ b (dG D k) = nI 0 ∧ b (dF D k) = nI 0 ∧ 0 < f k ∧ dG D k < 12
    · obtain ⟨d1, d2, d3, d4⟩ := d
      obtain ⟨i, i1, i2⟩ := LB_at hB h2 d1
      have hx : nx (wE D wo) f (Q i) k = some (dF D k) := nx_dn (D := wE D wo) o' i2.symm d3
      have hno := LB_no hB hn2 d2
      have hadd := LB_add hB h1 hno i1 hk hx
      have hlab : labI (wE D wo) (dF D k) k = -nI k - nI 1 := if_neg (fun e => hFG e.symm)
      rw [hlab] at hadd
      refine ⟨m + 1, _, _, ?_, hadd, Nat.le_succ m, fun z => absurd z (by omega), fun hc => ?_⟩
      · rw [nofire, bk, if_pos ⟨d1, d2, d3, d4⟩]
      · obtain ⟨j, j1, j2⟩ := hc i i1 (by rw [i2]; exact d4) _ hx
        exact absurd j2 (hno j j1)
    · refine ⟨m, Q, b, ?_, hB, Nat.le_refl _, fun _ => ⟨rfl, rfl, fun i hi h12 q hq => ?_⟩, fun _ => rfl⟩
      · rw [nofire, bk, if_neg d]
      · have hbi := LB_b hB hn2 hi
        obtain ⟨-, ⟨e1, e2, e3⟩ | ⟨e1, e2, e3⟩⟩ := nx_some hq
        · have e1 : dF D k = Q i := e1
          have e2 : dG D k = q := e2
          rw [hW] at e3
          rw [← e1] at hbi
          rw [← e2]
          refine LB_at hB h2 (fun z => a ⟨hbi, z, e3⟩)
        · have e1 : dG D k = Q i := e1
          have e2 : dF D k = q := e2
          rw [← e1] at hbi h12
          rw [← e2]
          exact LB_at hB h1 (fun z => d ⟨hbi, z, e3, h12⟩)
theorem l_round {zr : Nat → Int32} {D : DR} (hz : LZ zr D) (hw : WF D) {x2 : Int32} {wo : Nat} (ho : ∀ r, r < dN D → (nI r = x2 ↔ r = wo)) {f : Nat → Nat} {us : Nat → Int32} (hu : RR us f (dN D)) (hl : FL (wE D wo) f)
    (K14 : Int32 → (Nat → Int32) → (Nat → Int32) → Option Int32) (K50 : Int32 → Int32 → (Nat → Int32) → (Nat → Int32) → Option Int32) (x5 : Int32) (t : Nat) {m : Nat} {Q : Nat → Nat} {b : Nat → Int32} (hB : LB (wE D wo) f m Q b) :
    ∃ m' Q' b', f_L_through_b60 zr (nI (dN D)) x2 K14 K50 FU x5 (nI t) (nI 0) us b = K50 x5 (nI (t + 1)) us b' ∧ LB (wE D wo) f m' Q' b' ∧ m ≤ m' ∧ (m < m' ∨ ∀ k, k < dN D → CLk (wE D wo) f m' Q' k) ∧ ((∀ k, k < dN D → CLk (wE D wo) f m Q k) → ∀ k, k < dN D → CLk (wE D wo) f m' Q' k) := by
  have hn := hw.1
  have h := loopI (fun F i (s : Nat → Int32) => f_L_through_b60 zr (nI (dN D)) x2 K14 K50 F x5 (nI t) i us s) (fun s => K50 x5 (nI (t + 1)) us s) (fun i s => ∃ m' Q', LB (wE D wo) f m' Q' s ∧ m ≤ m' ∧ (m' = m → Q' = Q ∧ s = b ∧ ∀ k, k < i → CLk (wE D wo) f m Q k) ∧ ((∀ k, k < dN D → CLk (wE D wo) f m Q k) → m' = m)) (dN D) (fun F i s hi hI => ?_) (fun F s _ => ?_) (dN D) 0 FU b (by omega) (FU_big (by omega)) ⟨m, Q, hB, Nat.le_refl _, fun _ => ⟨rfl, rfl, fun k hk => absurd hk (Nat.not_lt_zero k)⟩, fun _ => rfl⟩
  · obtain ⟨s, e, m', Q', i1, i2, i3, i4⟩ := h
    refine ⟨m', Q', s, e, i1, i2, ?_, fun hc => ?_⟩
    · by_cases c : m' = m
      · obtain ⟨j1, j2, j3⟩ := i3 c
        subst c j1
        exact Or.inr j3
      · exact Or.inl (by omega)
    · have c := i4 hc
      obtain ⟨j1, j2, j3⟩ := i3 c
      subst c j1
      exact j3
  · obtain ⟨m', Q', i1, i2, i3, i4⟩ := hI
    obtain ⟨m2, Q2, b2, r1, r2, r3, r4, r5⟩ := l_relax hz hw ho hu hl K14 K50 x5 (nI t) hi i1 F
    refine ⟨b2, r1, m2, Q2, r2, by omega, fun c => ?_, fun hc => ?_⟩
    · have c2 : m' = m := by omega
      obtain ⟨j1, j2, j3⟩ := i3 c2
      obtain ⟨k1, k2, k3⟩ := r4 (by omega)
      subst c2 j1
      refine ⟨k2, k1.trans j2, fun k hk => ?_⟩
      by_cases q : k = i
      · rw [q]; exact k3
      · exact j3 k (by omega)
    · have c2 := i4 hc
      obtain ⟨j1, j2, j3⟩ := i3 c2
      subst c2 j1
      exact r5 (hc i hi)
  · show f_L_through_b60 zr (nI (dN D)) x2 K14 K50 (F + 1) x5 (nI t) (nI (dN D)) us s = _
    simp only [f_L_through_b60, fa_lit, nme]
    rw [if_pos ((le_nI (by omega) (by omega)).mpr (Nat.le_refl _)), nI_step]
