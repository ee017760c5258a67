/-! ===== trimming: the widest ribbon on a side ===== -/
def sP (D : DR) (p : Nat) (b : Bool) (r : Nat) : Bool := on D r && decide ((if b = true then dG D r else dF D r) = p)
def wS (D : DR) (p : Nat) (b : Bool) (i : Nat) (o : Option Nat) : Option Nat := if sP D p b i = true then (match o with
  | none => some i
  | some j => if dW D j < dW D i then some i else some j) else o
def wid (D : DR) (p : Nat) (b : Bool) : Option Nat := itr (wS D p b) none (dN D)
def oI (o : Option Nat) : Int32 := match o with
  | none => -nI 1
  | some r => nI r
theorem wS_n {D : DR} {p : Nat} {b : Bool} {i : Nat} {o : Option Nat} (c : ¬ sP D p b i = true) : wS D p b i o = o := if_neg c
theorem wS_0 {D : DR} {p : Nat} {b : Bool} {i : Nat} (c : sP D p b i = true) : wS D p b i none = some i := if_pos c
theorem wS_1 {D : DR} {p : Nat} {b : Bool} {i j : Nat} (c : sP D p b i = true) : wS D p b i (some j) = if dW D j < dW D i then some i else some j := if_pos c
theorem wid_none (D : DR) (p : Nat) (b : Bool) : ∀ (k : Nat), itr (wS D p b) none k = none → ∀ i, i < k → sP D p b i = false := by
  intro k
  induction k with
  | zero => intro _ i hi; omega
  | succ k ihk =>
    intro hk i hi
    have hk' : wS D p b k (itr (wS D p b) none k) = none := hk
    by_cases ck : sP D p b k = true
    · cases hz : itr (wS D p b) none k with
      | none => rw [hz, wS_0 ck] at hk'; cases hk'
      | some j => rw [hz, wS_1 ck] at hk'; revert hk'; split <;> intro q <;> cases q
    · rw [wS_n ck] at hk'
      by_cases e2 : i = k
      · rw [e2]; simpa using ck
      · exact ihk hk' i (by omega)
theorem wid_lt (D : DR) (p : Nat) (b : Bool) : ∀ (m r : Nat), itr (wS D p b) none m = some r → r < m ∧ sP D p b r = true ∧ ∀ i, i < m → sP D p b i = true → dW D i ≤ dW D r
  | 0, r, h => by cases h
  | m + 1, r, h => by
    have h' : wS D p b m (itr (wS D p b) none m) = some r := h
    have ih := wid_lt D p b m
    by_cases c : sP D p b m = true
    · cases ho : itr (wS D p b) none m with
      | none =>
        rw [ho, wS_0 c] at h'
        have e : m = r := Option.some.inj h'
        subst e
        refine ⟨by omega, c, fun i hi hs => ?_⟩
        by_cases e : i = m
        · rw [e]; exact Nat.le_refl _
        · have z := wid_none D p b m ho i (by omega)
          rw [hs] at z; cases z
      | some j =>
        rw [ho, wS_1 c] at h'
        obtain ⟨a1, a2, a3⟩ := ih j ho
        by_cases w : dW D j < dW D m
        · rw [if_pos w] at h'
          have e : m = r := Option.some.inj h'
          subst e
          refine ⟨by omega, c, fun i hi hs => ?_⟩
          by_cases e : i = m
          · rw [e]; exact Nat.le_refl _
          · have := a3 i (by omega) hs; omega
        · rw [if_neg w] at h'
          have e : j = r := Option.some.inj h'
          subst e
          refine ⟨by omega, a2, fun i hi hs => ?_⟩
          by_cases e : i = m
          · rw [e]; omega
          · exact a3 i (by omega) hs
    · rw [wS_n c] at h'
      obtain ⟨a1, a2, a3⟩ := ih r h'
      refine ⟨by omega, a2, fun i hi hs => ?_⟩
      by_cases e : i = m
      · rw [e] at hs; exact absurd hs c
      · exact a3 i (by omega) hs
theorem m1_lt0 : (-nI 1 < nI 0) := by decide
theorem p_widestAt {fr to wd : Nat → Int32} {D : DR} (hf : RR fr (dF D) (dN D)) (hg : RR to (dG D) (dN D)) (hd : RR wd (dW D) (dN D)) (hw : WF D) {p : Nat} (hp : p < 16) (b : Bool) : f_X1_widestAt fr to wd (nI (dN D)) (nI p) (bI b) = some (oI (wid D p b)) := by
  have hn := hw.1
  unfold f_X1_widestAt wid
  simp only [fa_lit]
  refine loopA (fun F (s : Option Nat) i => f_X1_widestAt_b5 fr to wd (nI (dN D)) (nI p) (bI b) F (oI s) i) (wS D p b) none (dN D) (fun _ _ => True) (some (oI (itr (wS D p b) none (dN D)))) trivial ?_ ?_ FU (FU_big (by omega))
  · intro F i hi _
    refine ⟨?_, trivial⟩
    obtain ⟨h1, h2, -, w1⟩ := hw.2.2.2 i hi
    have hlt := fun r h => (wid_lt D p b i r h).1
    generalize itr (wS D p b) none i = o at hlt ⊢
    have K : ∀ (s0 e : Nat), (e = if b = true then dG D i else dF D i) → f_X1_widestAt_b33 fr to wd (nI (dN D)) (nI p) (bI b) (f_X1_widestAt_b5 fr to wd (nI (dN D)) (nI p) (bI b) F) (nI e) (oI o) (nI i) = f_X1_widestAt_b5 fr to wd (nI (dN D)) (nI p) (bI b) F (oI (wS D p b i o)) (nI (i + 1)) := by
      intro s0 e he
      have eb : e < 16 := by rw [he]; split <;> omega
      simp only [f_X1_widestAt_b33, f_X1_widestAt_b54, f_X1_widestAt_b59, f_X1_widestAt_b84, nme, fa_lit]
      rw [p_goesOn hf hg hw hi, p_widthOf hd hn hi]
      simp only [bs, bI_0, nI_step, eq_nI (a := e) (b := p) (by omega) (by omega)]
      rw [if_neg (show ¬ nI 1 = nI 0 by decide)]
      unfold wS sP
      rw [← he]
      by_cases c : e = p
      · rw [if_pos c, if_pos c]
        by_cases g : on D i = false
        · rw [if_pos g, ite_self, g]
          cases o with
          | none => rw [if_pos (show oI none = -nI 1 from rfl)]; rfl
          | some j =>
            have hj := hlt j rfl
            rw [if_neg (show ¬ oI (some j) = -nI 1 from fun z => (m1_ne (by omega)).mp z)]
            show (f_X1_widthOf wd (nI j)).bind _ = _
            rw [p_widthOf hd hn (by omega)]
            simp only [bs, ite_self]
            rfl
        · have g' : on D i = true := by simpa using g
          rw [if_neg g, g', decide_eq_true c]
          cases o with
          | none => rw [if_pos (show oI none = -nI 1 from rfl)]; rfl
          | some j =>
            have hj := hlt j rfl
            have w2 := (hw.2.2.2 j (by omega)).2.2.2
            rw [if_neg (show ¬ oI (some j) = -nI 1 from fun z => (m1_ne (by omega)).mp z)]
            show (f_X1_widthOf wd (nI j)).bind _ = _
            rw [p_widthOf hd hn (by omega)]
            simp only [bs]
            by_cases k : dW D j < dW D i
            · rw [if_neg (nle_nI (by omega) (by omega) k)]
              show _ = f_X1_widestAt_b5 fr to wd (nI (dN D)) (nI p) (bI b) F (oI (if dW D j < dW D i then some i else some j)) (nI (i + 1))
              rw [if_pos k]; rfl
            · rw [if_pos ((le_nI (by omega) (by omega)).mpr (by omega))]
              show _ = f_X1_widestAt_b5 fr to wd (nI (dN D)) (nI p) (bI b) F (oI (if dW D j < dW D i then some i else some j)) (nI (i + 1))
              rw [if_neg k, if_pos trivial]
      · rw [if_neg c, if_neg c, decide_eq_false c]
        rw [Bool.and_false]
        rw [if_neg (show ¬ false = true by decide)]
        cases o with
        | none => rw [if_pos (show oI none = -nI 1 from rfl)]
        | some j =>
          have hj := hlt j rfl
          rw [if_neg (show ¬ oI (some j) = -nI 1 from fun z => (m1_ne (by omega)).mp z)]
          show (f_X1_widthOf wd (nI j)).bind _ = _
          rw [p_widthOf hd hn (by omega)]
          simp only [bs, ite_self]
    simp only [f_X1_widestAt_b5]
    rw [if_neg (nle_nI (by omega) (by omega) hi), p_fromOf hf hn hi, p_toOf hg hn hi]
    simp only [bs, fa_lit, bI_0]
    by_cases c : b = false
    · rw [if_pos c]
      exact K 0 _ (by rw [c]; rfl)
    · rw [if_neg c]
      exact K 0 _ (by rw [if_pos (by simpa using c)])
  · intro F _
    simp only [f_X1_widestAt_b5]
    rw [if_pos ((le_nI (by omega) (by omega)).mpr (Nat.le_refl _))]
/-! ===== trimming by one ===== -/
def setW (D : DR) (r w : Nat) : DR := (D.1, D.2.1, D.2.2.1, D.2.2.2.1, D.2.2.2.2.1, fun k => if k = r then w else D.2.2.2.2.2 k)
theorem setW_w (D : DR) (r w k : Nat) : dW (setW D r w) k = if k = r then w else dW D k := rfl
theorem setW_wf {D : DR} (hw : WF D) {r w : Nat} (h : w ≤ 50) : WF (setW D r w) := by
  refine ⟨hw.1, hw.2.1, hw.2.2.1, fun k hk => ?_⟩
  obtain ⟨a, b, c, d⟩ := hw.2.2.2 k hk
  refine ⟨a, b, c, ?_⟩
  rw [setW_w]
  split <;> omega
/-- one step: the widest one on the side b becomes 1 narrower -/
def t1 (p : Nat) (b : Bool) (D : DR) : DR := match wid D p b with
  | none => D
  | some r => setW D r (dW D r - 1)
def sSum (D : DR) (p : Nat) (b : Bool) : Nat := sN (fun r => if sP D p b r = true then dW D r else 0) (dN D)
theorem sSum_t (D : DR) (p : Nat) : sSum D p true = comes D p := by
  refine sN_cong (fun r _ => ?_)
  unfold sP
  by_cases o : on D r = true
  · by_cases c : dG D r = p
    · simp [o, c]
    · simp [o, c]
  · simp [o]
theorem sSum_f (D : DR) (p : Nat) : sSum D p false = leav D p := by
  refine sN_cong (fun r _ => ?_)
  unfold sP
  by_cases o : on D r = true
  · by_cases c : dF D r = p
    · simp [o, c]
    · simp [o, c]
  · simp [o]
theorem sN_pos {f : Nat → Nat} : ∀ {n : Nat}, 0 < sN f n → ∃ i, i < n ∧ 0 < f i
  | 0, h => absurd h (by show ¬ 0 < 0; omega)
  | n + 1, h => by
    have h' : 0 < sN f n + f n := h
    by_cases c : 0 < f n
    · exact ⟨n, by omega, c⟩
    · obtain ⟨i, a, b⟩ := sN_pos (f := f) (n := n) (by omega)
      exact ⟨i, by omega, b⟩
theorem sN_one {f g : Nat → Nat} {r : Nat} (hr : g r + 1 = f r) : ∀ {n : Nat}, r < n → (∀ k, k < n → k ≠ r → g k = f k) → sN g n + 1 = sN f n
  | 0, h, _ => by omega
  | n + 1, h, he => by
    show sN g n + g n + 1 = sN f n + f n
    by_cases e : r = n
    · rw [sN_cong (f := g) (g := f) (n := n) (fun k hk => he k (by omega) (by omega)), ← e]; omega
    · rw [he n (by omega) (fun z => e z.symm)]
      have := sN_one hr (n := n) (by omega) (fun k hk hn => he k (by omega) hn)
      omega
/-- where the side holds something there is a widest one, of width 1 at least -/
theorem wid_some {D : DR} {p : Nat} {b : Bool} (h : 0 < sSum D p b) : ∃ r, wid D p b = some r ∧ r < dN D ∧ sP D p b r = true ∧ 0 < dW D r := by
  obtain ⟨i, hi, hp⟩ := sN_pos h
  have hs : sP D p b i = true := by
    by_cases c : sP D p b i = true
    · exact c
    · rw [if_neg c] at hp; omega
  rw [if_pos hs] at hp
  cases ho : wid D p b with
  | none =>
    have := wid_none D p b (dN D) ho i hi
    rw [hs] at this; cases this
  | some r =>
    obtain ⟨a1, a2, a3⟩ := wid_lt D p b (dN D) r ho
    have := a3 i hi hs
    exact ⟨r, rfl, a1, a2, by omega⟩
theorem t1_facts {D : DR} (hw : WF D) {p : Nat} {b : Bool} (h : 0 < sSum D p b) : WF (t1 p b D) ∧ dN (t1 p b D) = dN D ∧ dF (t1 p b D) = dF D ∧ dG (t1 p b D) = dG D ∧ dP (t1 p b D) = dP D ∧ dT (t1 p b D) = dT D ∧ sSum (t1 p b D) p b + 1 = sSum D p b ∧ sSum (t1 p b D) p (!b) = sSum D p (!b) := by
  obtain ⟨r, e, hr, hs, hp⟩ := wid_some h
  have w1 := (hw.2.2.2 r hr).2.2.2
  have w3 := (hw.2.2.2 r hr).2.2.1
  unfold t1
  rw [e]
  refine ⟨setW_wf hw (by omega), rfl, rfl, rfl, rfl, rfl, ?_, ?_⟩
  · refine sN_one (r := r) ?_ hr (fun k hk hn => ?_)
    · show (if sP D p b r = true then dW (setW D r (dW D r - 1)) r else 0) + 1 = if sP D p b r = true then dW D r else 0
      rw [if_pos hs, if_pos hs, setW_w, if_pos rfl]; omega
    · show (if sP D p b k = true then dW (setW D r (dW D r - 1)) k else 0) = if sP D p b k = true then dW D k else 0
      rw [setW_w, if_neg hn]
  · refine sN_cong (fun k hk => ?_)
    show (if sP D p (!b) k = true then dW (setW D r (dW D r - 1)) k else 0) = if sP D p (!b) k = true then dW D k else 0
    by_cases c : k = r
    · have : ¬ sP D p (!b) k = true := by
        rw [c]
        unfold sP at hs ⊢
        intro z
        rw [Bool.and_eq_true, decide_eq_true_eq] at hs z
        cases b with
        | true => have z1 := hs.2; have z2 := z.2; simp at z1 z2; exact w3 (by rw [z1, z2])
        | false => have z1 := hs.2; have z2 := z.2; simp at z1 z2; exact w3 (by rw [z1, z2])
      rw [if_neg this, if_neg this]
    · rw [setW_w, if_neg c]
