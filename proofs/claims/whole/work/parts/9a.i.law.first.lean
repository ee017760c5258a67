/-! ===== the law: both at their start ===== -/
def D0s : DR := (0, nI 0, (fun p => p % 4), (fun _ => 0), (fun _ => 0), (fun _ => 0))
def S0s : ST := (D0s, 0, (fun _ => D0s), (fun _ => none), 0, (fun _ => 0))
theorem D0s_wf : WF D0s := by
  refine ⟨Nat.zero_le _, fun p hp => Nat.mod_lt p (by omega), fun p q hp hq h1 h2 => ?_, fun r hr => absurd hr (Nat.not_lt_zero r)⟩
  have h2 : p % 4 = q % 4 := h2
  omega
theorem S0s_ws : WS S0s := ⟨D0s_wf, Nat.zero_le _, fun s hs => absurd hs (Nat.not_lt_zero s), fun i E hi he => (by cases he), Nat.zero_le _, fun k hk => absurd hk (Nat.not_lt_zero k)⟩
theorem r_init : ∃ z, f_X7_init = some z ∧ DZ z D0s := by
  unfold f_X7_init
  simp only [fa_lit]
  have h := loopI (fun F i x => f_X7_init_b77 F i x) some (fun i x => (∀ k, k < i → x (2 + k) = nI (k % 4)) ∧ ∀ j, (j < 2 ∨ 2 + i ≤ j) → x j = nI 0) 16 (fun F i x hi hI => ⟨upd x (2 + i) (nI (i % 4)), ?_, fun k hk => ?_, fun j hj => ?_⟩) (fun F x _ => ?_) 16 0 FU (fun _ => nI 0) (by omega) (FU_big (by omega)) ⟨fun k hk => by omega, fun _ _ => rfl⟩
  · obtain ⟨z, e1, e2, e3⟩ := h
    exact ⟨z, e1, e3 0 (by omega), e3 1 (by omega), fun p hp => e2 p hp, fun r hr => absurd hr (Nat.not_lt_zero r)⟩
  · show f_X7_init_b77 (F + 1) (nI i) x = _
    simp only [f_X7_init_b77, fa_lit, nme]
    rw [if_neg (nle_nI (by omega) (by omega) hi), md4 (by omega), nI_step, if_pos (gd_nI (by omega) (by omega)), cl_nI (by omega), nI_step]
  · by_cases q : k = i
    · rw [q, upd_q]
    · rw [upd_w (by omega)]; exact hI.1 k (by omega)
  · rw [upd_w (by omega)]; exact hI.2 j (by omega)
  · show f_X7_init_b77 (F + 1) (nI 16) x = _
    simp only [f_X7_init_b77, fa_lit, nme]
    rw [if_pos ((le_nI (by omega) (by omega)).mpr (Nat.le_refl _))]
theorem c_init : ∃ p q, f_X6_initN = some (p, q) ∧ RR p (fun p => p % 4) 16 ∧ RR q (fun p => p % 4) 16 := by
  obtain ⟨pl, e1, e2⟩ := p_init
  refine ⟨pl, pl, ?_, e2, e2⟩
  unfold f_X6_initN f_X3_init f_X4_init f_X0_init f_X2_init f_X5_init
  rw [e1]
  rfl
theorem perm3 (M X O : va_W) : ((M ++ X) ++ O).Perm (X ++ (O ++ M)) := by
  refine (List.perm_append_comm.append_right O).trans ?_
  rw [List.append_assoc]
  exact List.Perm.append_left X List.perm_append_comm
theorem PW_nil (T : TY) : PW T (fun _ => none) = [] := rfl
theorem start_in : Cond.classLink RL 8 RX6 ∈ lw_tbl ∧ Cond.initialized RX6 ∈ lw_tbl ∧ Cond.methodLink RL 70 yX6_init ∈ lw_tbl ∧ Cond.instanceMethod yX6_init ∈ lw_tbl ∧ Cond.classLink RL 71 RX7 ∈ lw_tbl ∧ Cond.initialized RX7 ∈ lw_tbl ∧ Cond.methodLink RL 73 yX7_init ∈ lw_tbl ∧ Cond.instanceMethod yX7_init ∈ lw_tbl := by decide +kernel
theorem RL_law : R_law = RL := rfl
set_option maxHeartbeats 4000000 in
set_option maxRecDepth 100000 in
/-- YOUR PART: from the entry, for every script of at most 2048 ints, the law comes to its end with true -/
theorem whole_start {p : Program} {e : Env} {s : State} {m : MethodId} {below : List Frame} {meth : Method} {c : Code} (l : Launch) (hflags : l.flags = flags0) {b L : Nat} {xs : Nat → Int32} (hL : L ≤ 2048) (C0 : lw_At p s m meth c b L xs) : W p l e room_1 s m #[Value.ref b] below meth c s.heap [] 0 0 (lw_Z below #[Value.ref b] s) (entryFrame m ([Value.ref b] : List Value).toArray 9) := by
  obtain ⟨hx, hb, hr, hml, hown, hts0, hX, hbl, hlocks, hgv⟩ := id C0
  have hd0 := Drawn.sameBut.refl s.drawn lw_cs
  have htl : ∀ w ∈ lw_tbl, w.before #[Value.ref b] (s.setDrawn s.drawn) = true := dr_words hts0 s.drawn
  have hts : ∀ w ∈ wsL_law, w.before #[Value.ref b] (s.setDrawn s.drawn) = true := fun w h => htl w (wsL_law_in w h)
  have hgd : (Jvm.Cond.and given_1 narrow_1).before #[Value.ref b] (s.setDrawn s.drawn) = true := hgv
  have hfl : l.stackTraces = false := by
    unfold Launch.stackTraces
    rw [hflags]
    decide
  obtain ⟨D, T, hK, hN, hZ⟩ := law_facts htl hgd
  refine W.base ?_
  have hA : ∀ q : Nat, s.heap.size ≤ q → (fun q : Nat => s.heap.size ≤ q) q := fun _ h => h
  have hS : va_S (fun q : Nat => s.heap.size ≤ q) s.heap s.heap [] := va_S.rf
  have hP : va_P D vwCl [] s.heap := va_P0
  have hD : va_D (fun q : Nat => s.heap.size ≤ q) [] := va_D0
  have hl := lv_entry ([.ref b]) (n := 9) (Nat.le_of_ble_eq_true rfl)
  rw [lg_entry_eq]
  generalize (lg_sl ([.ref b]) ++ List.replicate (9 - (lg_sl ([.ref b])).length) Slot.unset).toArray = ls at hl ⊢
  have hl : lv_has ls 9 [(0, .ref b)] := hl
  obtain ⟨pl1, pl2, i1, i2, i3⟩ := c_init
  obtain ⟨z, j1, j2⟩ := r_init
  obtain ⟨t1, t2, t3, t4, t5, t6, t7, t8⟩ := start_in
  have hown : (s.setDrawn s.drawn).vm.findClass RL = some m.cls := hown
  refine va_new (ci := 6) (fs := [.null, .null, .null, .null, .null, .null, .null, .null]) (C := RX6) (T := TX6) (N := 8) hx hb htl wsL_law_in0_wsX60 tyX6 tyX6_ok hown (htl _ t1) (htl _ is_in.2.2.2.2.2.2.1) (htl _ t2) hK hP hD hS hA rfl (fs_okX6) (Nat.le_of_ble_eq_true rfl) (Nat.le_of_ble_eq_true rfl) dL_law_0 (fun r_a H hP hD hS => ?_)
  refine W.widen (k := 1) (n := 8) (by decide) (by decide) ?_
  refine lv_dup hx hb dL_law_3 rfl ?_
  have hW : WD D (fun q => s.heap.size ≤ q) ([(r_a, .inr (6, [.null, .null, .null, .null, .null, .null, .null, .null]))] ++ []) H := ⟨hP, hD⟩
  refine callL (wr := []) (va_runI (As := []) (rest := [.ref r_a]) ⟨hx, hb, hml, hown, hts⟩ (c_X6_initN l D T r_a _ i1 H.size) (cwI 0 hts gL_law_X6_init rfl rfl rfl (htl _ t2) (htl _ t3) (htl _ t4) rfl hdS_X6_initN ⟨Nat.le_of_ble_eq_true rfl, Nat.le_of_ble_eq_true rfl⟩) (preMS (As := .ref r_a :: []) hW.fst.1 hW.fst.2 hK hN) rfl rfl hl.1 rfl (lv_room (Nat.le_of_ble_eq_true rfl)) dL_law_4 ⟨Nat.le_of_ble_eq_true rfl, Nat.le_of_ble_eq_true rfl⟩) hW hS hA (fun W9 H locs hw hW hS => ?_)
  obtain ⟨q5, q7_9, q15_9, q23_9, q31_9, q16, q7_20, q15_20, q23_20, q31_20, q28, q35, q7_39, q46, q7_50, q57, q7_61, q15_61, q22_61, q68, q6_72, q13_72, q20_72, q27_72, q35_72, q79, q7_83, q15_83, q23_83, q31_83, q39_83, q47_83, q55_83, rfl⟩ := hw
  refine W.widen (k := 34) (n := 470) (by decide) (by decide) ?_
  refine lv_astore_n (lv' := [(1, .ref r_a), (0, .ref b)]) hx hb dL_law_7 rfl hl (by decide) rfl (fun ls hl => ?_)
  rw [List.append_nil] at hW
  refine va_new (ci := 7) (fs := [.int (0 : Int32), .null, .null, .null, .int (0 : Int32), .null, .null, .null, .int (0 : Int32), .null, .null, .null, .int (0 : Int32)]) (C := RX7) (T := TX7) (N := 13) hx hb htl wsL_law_in0_wsX70 tyX7 tyX7_ok hown (htl _ t5) (htl _ is_in.2.2.2.2.2.2.2) (htl _ t6) hK hW.1 hW.2 hS hA rfl (fs_okX7) (Nat.le_of_ble_eq_true rfl) (Nat.le_of_ble_eq_true rfl) dL_law_8 (fun m_a H hP hD hS => ?_)
  have hW := WD.perm List.perm_append_comm (show WD D (fun q => s.heap.size ≤ q) _ H from ⟨hP, hD⟩)
  refine W.widen (k := 35) (n := 483) (by decide) (by decide) ?_
  refine lv_dup hx hb dL_law_11 rfl ?_
  refine callL (va_runI (As := []) (rest := [.ref m_a]) ⟨hx, hb, hml, hown, hts⟩ (c_X7_init l D T m_a _ j1 H.size) (cwI 0 hts gL_law_X7_init rfl rfl rfl (htl _ t6) (htl _ t7) (htl _ t8) rfl hdS_X7_init ⟨Nat.le_of_ble_eq_true rfl, Nat.le_of_ble_eq_true rfl⟩) (preMS (As := .ref m_a :: []) hW.fst.1 hW.fst.2 hK hN) rfl rfl hl.1 rfl (lv_room (Nat.le_of_ble_eq_true rfl)) dL_law_12 ⟨Nat.le_of_ble_eq_true rfl, Nat.le_of_ble_eq_true rfl⟩) hW hS hA (fun W9 H locs hw hW hS => ?_)
  obtain ⟨q7, q15, q24, q33, q40, q48, q55, q62, q70, rfl⟩ := hw
  refine W.widen (k := 44) (n := 1393) (by decide) (by decide) ?_
  refine lv_astore_n (lv' := [(2, .ref m_a), (1, .ref r_a), (0, .ref b)]) hx hb dL_law_15 rfl hl (by decide) rfl (fun ls hl => ?_)
  refine lv_iconst (v := (1 : Int32)) hx hb dL_law_16 (by decide) ?_
  refine va_newa (atype := .long) (ty := .long) (N' := 1) (a0 := (1, .inr (.inl (fun _ => (0 : Int64))))) hx hb (htl _ ar_in.2.2) rfl hK hW.1 hW.2 hS hA (fun _ => rfl) (by decide) (by decide) (by decide) (Nat.le_of_ble_eq_true rfl) (Nat.le_of_ble_eq_true rfl) dL_law_17 (fun oa cA H hK9 hP hD hS => ?_)
  obtain rfl : cA = T.2.2.2 := tyOne hK9 3 rfl
  refine W.widen (k := 45) (n := 1394) (by decide) (by decide) ?_
  refine lv_astore_n (lv' := [(3, .ref oa), (2, .ref m_a), (1, .ref r_a), (0, .ref b)]) hx hb dL_law_19 rfl hl (by decide) rfl (fun ls hl => ?_)
  refine lv_iconst (v := (0 : Int32)) hx hb dL_law_20 (by decide) ?_
  refine lv_istore (lv' := [(4, .int (0 : Int32)), (3, .ref oa), (2, .ref m_a), (1, .ref r_a), (0, .ref b)]) hx hb dL_law_21 hl (by decide) rfl (fun ls hl => ?_)
  have hW := WD.perm (perm3 _ _ _) (show WD D (fun q => s.heap.size ≤ q) _ H from ⟨hP, hD⟩)
  have C : LX p l (s.setDrawn s.drawn) m #[Value.ref b] c D T b L xs := ⟨hx, hb, hml, hown, hts, hK, hN, hZ, hfl, hX, hbl⟩
  have hI : LI T D (s.setDrawn s.drawn) (r_a, q5, q7_9, q15_9, q23_9, q31_9, q16, q7_20, q15_20, q23_20, q31_20, q28, q35, q7_39, q46, q7_50, q57, q7_61, q15_61, q22_61, q68, q6_72, q13_72, q20_72, q27_72, q35_72, q79, q7_83, q15_83, q23_83, q31_83, q39_83, q47_83, q55_83) (m_a, q7, q15, q24, q33, q40, q48, q55, q62, q70) oa H := by
    refine ⟨(pl2, (fun _ => (0 : Int32)), (fun _ => (0 : Int32)), (fun _ => (0 : Int32)), (0 : Int32), (0 : Int32), pl1, (fun _ => (0 : Int32)), (fun _ => (0 : Int32)), (fun _ => (0 : Int32)), (0 : Int32), (0 : Int32), (fun _ => none), (fun _ => none), (0 : Int32), (0 : Int32), (fun _ => (0 : Int32)), (0 : Int32), (fun _ => (0 : Int32)), (fun _ => (0 : Int32)), (0 : Int32), (fun _ => (0 : Int32)), (fun _ => (0 : Int32)), (fun _ => (0 : Int32)), (fun _ => (0 : Int32)), (fun _ => (0 : Int32)), (fun _ => (0 : Int32)), (fun _ => (0 : Int32)), (fun _ => (0 : Int32)), (fun _ => (0 : Int32)), (fun _ => (0 : Int32)), (fun _ => (0 : Int32)), (fun _ => (0 : Int32)), (0 : Int32), (fun _ => (0 : Int32))),
      ((0 : Int32), z, (fun _ => (0 : Int32)), (fun _ => (0 : Int32)), (0 : Int32), (fun _ => (0 : Int32)), (fun _ => (0 : Int32)), (fun _ => (0 : Int32)), (0 : Int32), (fun _ => (0 : Int32)), (fun _ => (0 : Int32)), (fun _ => (0 : Int32)), (0 : Int32)), (fun _ => none), 0, S0s, (fun _ => (0 : Int64)), ?_, ?_, S0s_ws, hW⟩
    · refine ⟨?_, fun s hs => absurd hs (Nat.not_lt_zero s), fun i hi => Or.inl ⟨rfl, rfl⟩, fun j hj => rfl, fun i hi => rfl⟩
      show CI pl2 (fun _ => (0 : Int32)) (fun _ => (0 : Int32)) (fun _ => (0 : Int32)) (0 : Int32) (0 : Int32) (0 : Int32) (0 : Int32) (fun _ => (0 : Int32)) (0 : Int32) 0 S0s
      exact ⟨⟨fa_lit 0, fa_lit 0, i3, fun k hk => absurd hk (Nat.not_lt_zero k), fun k hk => absurd hk (Nat.not_lt_zero k), fun k hk => absurd hk (Nat.not_lt_zero k)⟩, by omega, fa_lit 0, fa_lit 0, fun k hk => absurd hk (Nat.not_lt_zero k), fa_lit 0⟩
    · show RI z (fun _ => (0 : Int32)) (fun _ => (0 : Int32)) (fun _ => (0 : Int32)) (fun _ => (0 : Int32)) (0 : Int32) (0 : Int32) S0s
      exact ⟨j2, fun s hs => absurd hs (Nat.not_lt_zero s), fa_lit 0, fun i hi => ⟨fa_lit 0, fun E he => (by cases he)⟩, fun k hk => absurd hk (Nat.not_lt_zero k), fa_lit 0⟩
  have hl : lv_has ls 9 [(0, .ref b), (1, .ref r_a), (2, .ref m_a), (3, .ref oa), (4, .int (nI (4 * 0)))] := lv_sub hl [4, 3, 2, 1, 0] rfl
  refine law_loop C hL (fun H locs cells slots ls hS h1 h2 => ?_) (L + 1) 0 (by omega) (by omega) H _ ls hI hS hl
  refine lv_iconst (v := (1 : Int32)) hx hb dL_law_1303 (by decide) ?_
  refine va_forget (fun q hq => hS.2.2 q hq) ?_
  refine W.widen (k := 601024) (n := 7293034) h1 h2 ?_
  exact lw_ret hd0 hx hb hr hlocks dL_law_1304
