/-! ===== settling told whole; exchanged places; copies ===== -/
theorem wAll_le {D : DR} (hw : WF D) : wAll D ≤ 1000 := by
  have hn := hw.1
  have h := sN_le (f := dW D) (c := 50) (n := dN D) (fun k hk => (hw.2.2.2 k hk).2.2.2)
  show sN (dW D) (dN D) ≤ 1000
  omega
theorem settle_all {D : DR} (hw : WF D) : ∃ (S : Nat) (E : DR), WF E ∧ dN E = dN D ∧ dF E = dF D ∧ dG E = dG D ∧ dP E = dP D ∧ S ≤ 1000 ∧
    (∀ (fr to wd : Nat → Int32), RR fr (dF D) (dN D) → RR to (dG D) (dN D) → RR wd (dW D) (dN D) → ∃ wd', f_X1_trimAll fr to (nI (dN D)) wd (dT D) = some (nI S, wd', dT E) ∧ RR wd' (dW E) (dN D)) ∧
    (∀ (z : Nat → Int32), DZ z D → ∃ z', f_X7_doSettle z = some (nI S, z') ∧ DZ z' E) := by
  have h := wAll_le hw
  obtain ⟨S, E, g1, g2, g3, g4, g5, g6, gp, gr⟩ := settle_both 1000 D hw h (Nat.le_refl _)
  refine ⟨S, E, g1, g2, g3, g4, g5, Nat.le_trans g6 h, ?_, ?_⟩
  · intro fr to wd hf hg hd
    obtain ⟨wd', e1, e2⟩ := gp fr to wd FU 0 0 (FU_big (by omega)) (by omega) (by omega) hf hg hd
    refine ⟨wd', ?_, e2⟩
    rw [Nat.zero_add] at e1
    exact e1
  · intro z hz
    obtain ⟨z', e1, e2⟩ := gr z FU 0 1 (FU_big (by omega)) (by omega) (by omega) hz
    refine ⟨z', ?_, e2⟩
    rw [Nat.zero_add] at e1
    exact e1
/-- the drawing with other places -/
def setP (D : DR) (P : Nat → Nat) : DR := (D.1, D.2.1, P, D.2.2.2)
def exP (D : DR) (a b : Nat) : DR := setP D (fun k => if k = b then dP D a else if k = a then dP D b else dP D k)
theorem p_setPlace {pl : Nat → Int32} {g : Nat → Nat} (h : RR pl g 16) {a v : Nat} (ha : a < 16) : ∃ pl', f_X1_setPlace (nI a) (nI v) pl = some pl' ∧ RR pl' (fun k => if k = a then v else g k) 16 := by
  refine ⟨upd pl a (nI v), ?_, RR_upd h (by simp only [if_pos]) (fun k _ hk => if_neg hk)⟩
  unfold f_X1_setPlace
  rw [p_isPost (by omega), decide_eq_true ha]
  simp only [bs, fa_lit]
  rw [if_neg (by decide), if_pos (gd_nI ha (by omega)), cl_nI (by omega)]
theorem p_exchange {pl : Nat → Int32} {D : DR} (h : RR pl (dP D) 16) {a b : Nat} (ha : a < 16) (hb : b < 16) : ∃ pl', f_X1_exchangePlaces (nI a) (nI b) pl = some pl' ∧ RR pl' (dP (exP D a b)) 16 := by
  obtain ⟨p1, e1, e2⟩ := p_setPlace h (a := a) (v := dP D b) ha
  obtain ⟨p2, e3, e4⟩ := p_setPlace e2 (a := b) (v := dP D a) hb
  refine ⟨p2, ?_, e4⟩
  unfold f_X1_exchangePlaces
  rw [p_placeOf h ha, p_placeOf h hb]
  simp only [bs]
  rw [e1]
  simp only [bs]
  rw [e3]
  simp only [bs]
theorem exP_wf {D : DR} (hw : WF D) {a b : Nat} (ha : a < 16) (hb : b < 16) (hc : a / 4 = b / 4) : WF (exP D a b) := by
  obtain ⟨w1, w2, w3, w4⟩ := hw
  have key : ∀ p, dP (exP D a b) p = dP D (if p = b then a else if p = a then b else p) := by
    intro p
    show (if p = b then dP D a else if p = a then dP D b else dP D p) = _
    by_cases h1 : p = b
    · rw [if_pos h1, if_pos h1]
    · rw [if_neg h1, if_neg h1]
      by_cases h2 : p = a
      · rw [if_pos h2, if_pos h2]
      · rw [if_neg h2, if_neg h2]
  refine ⟨w1, ?_, ?_, w4⟩
  · intro p hp
    rw [key]
    by_cases h1 : p = b
    · rw [if_pos h1]; exact w2 a ha
    · rw [if_neg h1]
      by_cases h2 : p = a
      · rw [if_pos h2]; exact w2 b hb
      · rw [if_neg h2]; exact w2 p hp
  · intro p q hp hq hpq he
    rw [key, key] at he
    by_cases h1 : p = b
    · rw [if_pos h1] at he
      by_cases h3 : q = b
      · omega
      · rw [if_neg h3] at he
        by_cases h4 : q = a
        · rw [if_pos h4] at he
          have := w3 a b ha hb hc he
          omega
        · rw [if_neg h4] at he
          have := w3 a q ha hq (by omega) he
          omega
    · rw [if_neg h1] at he
      by_cases h2 : p = a
      · rw [if_pos h2] at he
        by_cases h3 : q = b
        · rw [if_pos h3] at he
          have := w3 b a hb ha hc.symm he
          omega
        · rw [if_neg h3] at he
          by_cases h4 : q = a
          · omega
          · rw [if_neg h4] at he
            have := w3 b q hb hq (by omega) he
            omega
      · rw [if_neg h2] at he
        by_cases h3 : q = b
        · rw [if_pos h3] at he
          have := w3 p a hp ha (by omega) he
          omega
        · rw [if_neg h3] at he
          by_cases h4 : q = a
          · rw [if_pos h4] at he
            have := w3 p b hp hb (by omega) he
            omega
          · rw [if_neg h4] at he
            exact w3 p q hp hq hpq he
theorem upd_q (f : Nat → Int32) (k : Nat) (x : Int32) : upd f k x k = x := if_pos rfl
theorem upd_w {f : Nat → Int32} {k j : Nat} {x : Int32} (h : j ≠ k) : upd f k x j = f j := if_neg h
theorem DZ_setP {z : Nat → Int32} {D : DR} (hz : DZ z D) {P : Nat → Nat} {a v : Nat} (ha : a < 16) (hP : P = fun k => if k = a then v else dP D k) : DZ (upd z (2 + a) (nI v)) (setP D P) := by
  obtain ⟨h0, h1, h2, h3⟩ := hz
  refine ⟨?_, ?_, ?_, ?_⟩
  · show upd z (2 + a) (nI v) 0 = _
    rw [upd_w (by omega)]; exact h0
  · show upd z (2 + a) (nI v) 1 = _
    rw [upd_w (by omega)]; exact h1
  · intro p hp
    show upd z (2 + a) (nI v) (2 + p) = nI (P p)
    rw [hP]
    show _ = nI (if p = a then v else dP D p)
    by_cases h : p = a
    · rw [if_pos h, h, upd_q]
    · rw [if_neg h, upd_w (by omega)]; exact h2 p hp
  · intro r hr
    obtain ⟨k1, k2, k3⟩ := h3 r hr
    refine ⟨?_, ?_, ?_⟩
    · show upd z (2 + a) (nI v) _ = _
      rw [upd_w (by omega)]; exact k1
    · show upd z (2 + a) (nI v) _ = _
      rw [upd_w (by omega)]; exact k2
    · show upd z (2 + a) (nI v) _ = _
      rw [upd_w (by omega)]; exact k3
theorem r_exchange {z : Nat → Int32} {D : DR} (hz : DZ z D) {a b : Nat} (ha : a < 16) (hb : b < 16) : ∃ z', f_X7_exchange (nI a) (nI b) z = some z' ∧ DZ z' (exP D a b) := by
  have e1 := DZ_setP hz (a := a) (v := dP D b) ha rfl
  have e2 := DZ_setP e1 (P := dP (exP D a b)) (a := b) (v := dP D a) hb rfl
  refine ⟨_, ?_, e2⟩
  unfold f_X7_exchange
  rw [r_place hz ha, r_place hz hb]
  simp only [bs, fa_lit]
  rw [nI_add, nI_add, if_pos (gd_nI (by omega) (by omega)), if_pos (gd_nI (by omega) (by omega)), cl_nI (by omega), cl_nI (by omega)]
theorem exP_two (D : DR) {a b : Nat} (h : a ≠ b) : exP (exP D a b) a b = D := by
  show (D.1, D.2.1, (fun k => if k = b then dP (exP D a b) a else if k = a then dP (exP D a b) b else dP (exP D a b) k), D.2.2.2) = D
  have e : (fun k => if k = b then dP (exP D a b) a else if k = a then dP (exP D a b) b else dP (exP D a b) k) = D.2.2.1 := by
    funext k
    by_cases h1 : k = b
    · rw [if_pos h1, h1]
      show (if a = b then dP D a else if a = a then dP D b else dP D a) = _
      rw [if_neg h, if_pos rfl]; rfl
    · rw [if_neg h1]
      by_cases h2 : k = a
      · rw [if_pos h2, h2]
        show (if b = b then dP D a else _) = _
        rw [if_pos rfl]; rfl
      · rw [if_neg h2]
        show (if k = b then dP D a else if k = a then dP D b else dP D k) = _
        rw [if_neg h1, if_neg h2]; rfl
  rw [e]
/-- the answer of ifSwapped -/
theorem r_swapped {z : Nat → Int32} {D : DR} (hz : DZ z D) (hw : WF D) {a b : Nat} (ha : a < 16) (hb : b < 16) (hc : a / 4 = b / 4) (hn : a ≠ b) : ∃ z', f_X7_swapped (nI a) (nI b) z = some (nI (xAll (exP D a b)), z') ∧ DZ z' D := by
  obtain ⟨z1, e1, e2⟩ := r_exchange hz ha hb
  obtain ⟨z2, e3, e4⟩ := r_exchange e2 ha hb
  rw [exP_two D hn] at e4
  refine ⟨z2, ?_, e4⟩
  unfold f_X7_swapped
  rw [e1]
  simp only [bs]
  rw [r_crossings e2 (exP_wf hw ha hb hc)]
  simp only [bs]
  rw [e3]
  simp only [bs]
