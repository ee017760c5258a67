/-! ===== the law: its start ===== -/
def D0s : DR := (0, nI 0, (fun p => p % 4), (fun _ => 0), (fun _ => 0), (fun _ => 0))
theorem D0s_wf : WF D0s := by
  refine ⟨Nat.zero_le _, fun p hp => Nat.mod_lt p (by omega), fun p q hp hq h1 h2 => ?_, fun r hr => absurd hr (Nat.not_lt_zero r)⟩
  have h2 : p % 4 = q % 4 := h2
  omega
theorem c_init : ∃ p q, f_X6_initN = some (p, q) ∧ RR p (fun p => p % 4) 16 ∧ RR q (fun p => p % 4) 16 := by
  obtain ⟨pl, e1, e2⟩ := p_init
  refine ⟨pl, pl, ?_, e2, e2⟩
  unfold f_X6_initN f_X3_init f_X4_init f_X0_init f_X2_init f_X5_init
  rw [e1]
  rfl
theorem permL4 (X : va_W) (a b c : Nat × va_E) : (((X ++ [a]) ++ [b]) ++ [c]).Perm (a :: b :: c :: (X ++ [])) := by
  rw [List.append_nil, List.append_assoc, List.append_assoc]
  exact List.perm_append_comm
theorem start_in : Cond.classLink RL 10 RX6 ∈ lw_tbl ∧ Cond.initialized RX6 ∈ lw_tbl ∧ Cond.methodLink RL 134 yX6_init ∈ lw_tbl ∧ Cond.instanceMethod yX6_init ∈ lw_tbl := by decide +kernel
theorem RL_law : R_law = RL := rfl
theorem hdS_L_undo : yL_undo.cls ≠ "java/lang/invoke/MethodHandle" ∧ yL_undo.cls ≠ "java/lang/invoke/VarHandle" ∧ (parseMethodDescriptor yL_undo.desc).map (fun d => d.parameters.length) = some 1 := by decide +kernel
set_option maxHeartbeats 4000000 in
set_option maxRecDepth 100000 in
theorem law_fill {p : Program} {l : Launch} {e : Env} {s : State} {m : MethodId} {args : Array Value} {below : List Frame} {meth : Method} {cd : Code} {D : va_G} {T : TY} {b L : Nat} {xs : Nat → Int32} {xa : XA} {zr_a za_a zg_a : Nat} {Q : State → Prop} (C : LX p l s m args cd D T b L xs) {xc : XC} {xB : Nat → Option DB} {zr zg : Nat → Int32} {cells slots : Nat}
    (hend : ∀ (H : Heap) (locs : List Loc) (ls : Array Slot) (za : Nat → Int32), RR za (fun p => p % 4) 16 → WD D (fun q => s.heap.size ≤ q) ((zr_a, .inl (T.1, (60, .inl zr))) :: (za_a, .inl (T.1, (16, .inl za))) :: (zg_a, .inl (T.1, (2, .inl zg))) :: (XW T xa xc ++ PW T xB)) H → va_S (fun q => s.heap.size ≤ q) s.heap H locs → lv_has ls 8 [(5, .int (nI 16)), (4, .ref zg_a), (3, .ref za_a), (2, .ref zr_a), (1, .ref xa.1), (0, .ref b)] → W p l e room_1 s m args below meth cd H locs cells slots Q (F0 m 47 ls [])) :
    ∀ (n t : Nat), t + n = 16 → ∀ (H : Heap) (locs : List Loc) (ls : Array Slot) (za : Nat → Int32), RR za (fun p => p % 4) t → WD D (fun q => s.heap.size ≤ q) ((zr_a, .inl (T.1, (60, .inl zr))) :: (za_a, .inl (T.1, (16, .inl za))) :: (zg_a, .inl (T.1, (2, .inl zg))) :: (XW T xa xc ++ PW T xB)) H → va_S (fun q => s.heap.size ≤ q) s.heap H locs → lv_has ls 8 [(5, .int (nI t)), (4, .ref zg_a), (3, .ref za_a), (2, .ref zr_a), (1, .ref xa.1), (0, .ref b)] → W p l e room_1 s m args below meth cd H locs cells slots Q (F0 m 26 ls []) := by
  obtain ⟨hx, hb, hml, hown, hts, hK, hN, hZ, hfl, hX, hbl⟩ := id C
  intro n
  induction n with
  | zero =>
    intro t ht H locs ls za hz hW hS hl
    obtain rfl : t = 16 := by omega
    refine lv_iload hx hb dL_law_26 (lv_at hl 0 rfl) ?_
    refine lv_bipush (v := (16 : Int32)) hx hb dL_law_28 (by decide) ?_
    refine lv_icmp_ge (tgt := 47) hx hb dL_law_30 (by decide) (fun c1 => ?_) (fun c1 => absurd (by decide) c1)
    exact hend H locs ls za hz hW hS hl
  | succ n ih =>
    intro t ht H locs ls za hz hW hS hl
    have ht16 : t < 16 := by omega
    refine lv_iload hx hb dL_law_26 (lv_at hl 0 rfl) ?_
    refine lv_bipush (v := (16 : Int32)) hx hb dL_law_28 (by decide) ?_
    refine lv_icmp_ge (tgt := 47) hx hb dL_law_30 (by decide) (fun c1 => absurd c1 (by rw [fa_lit 16]; exact nle_nI (by omega) (by omega) ht16)) (fun c1 => ?_)
    refine lv_aload_n hx hb dL_law_33 rfl (lv_at hl 2 rfl) ?_
    refine lv_iload hx hb dL_law_34 (lv_at hl 0 rfl) ?_
    refine lv_iload hx hb dL_law_36 (lv_at hl 0 rfl) ?_
    refine lv_iconst (v := (4 : Int32)) hx hb dL_law_38 (by decide) ?_
    refine lv_irem hx hb dL_law_39 (by decide) ?_
    refine lv_nmi (show nI (t % 4) = nI t - nI t / (4 : Int32) * (4 : Int32) from by rw [fa_lit 4]; exact (md4 (by omega)).symm) ?_
    refine va_iast (D := D) hx hb hK hW.1 hW.2 hS 1 0 rfl rfl (gd_in (gd_nI ht16 (by omega))) dL_law_40 (fun H locs hP hD hS => ?_)
    rw [cl_nI (show t < 2147483648 by omega)] at hP hD
    refine lv_iinc (v := nI (t + 1)) (lv' := [(5, .int (nI (t + 1))), (4, .ref zg_a), (3, .ref za_a), (2, .ref zr_a), (1, .ref xa.1), (0, .ref b)]) hx hb dL_law_41 hl (k := 0) rfl (by rw [← nI_step, ← fa_lit 1]; rfl) (by decide) rfl (fun ls hl => ?_)
    refine lv_goto (tgt := 26) hx hb dL_law_44 (by decide) ?_
    refine ih (t + 1) (by omega) H locs ls (upd za t (nI (t % 4))) (fun k hk => ?_) ⟨hP, hD⟩ hS hl
    by_cases q : k = t
    · rw [q, upd_q]
    · rw [upd_w q]; exact hz k (by omega)
set_option maxHeartbeats 4000000 in
set_option maxRecDepth 100000 in
theorem law_first {p : Program} {l : Launch} {e : Env} {s : State} {m : MethodId} {args : Array Value} {below : List Frame} {meth : Method} {cd : Code} {D : va_G} {T : TY} {b L : Nat} {xs : Nat → Int32} {xa : XA} {zr_a za_a zg_a : Nat} {Q : State → Prop} (C : LX p l s m args cd D T b L xs) (hL : L ≤ 260)
    (hend : ∀ (H : Heap) (locs : List Loc) (cells slots : Nat) (ls : Array Slot), va_S (fun q => s.heap.size ≤ q) s.heap H locs → cells ≤ 600130 → slots ≤ 7301080 → W p l e room_1 s m args below meth cd H locs cells slots Q (F0 m 177 ls []))
    {xc : XC} (hXP : XP xc (fun _ => none) 0 0 D0s) {za : Nat → Int32} (hza : RR za (fun p => p % 4) 16) {H : Heap} {locs : List Loc} {ls : Array Slot} (hW : WD D (fun q => s.heap.size ≤ q) ((zr_a, .inl (T.1, (60, .inl (fun _ => (0 : Int32))))) :: (za_a, .inl (T.1, (16, .inl za))) :: (zg_a, .inl (T.1, (2, .inl (fun _ => (0 : Int32))))) :: (XW T xa xc ++ PW T (fun _ => none))) H) (hS : va_S (fun q => s.heap.size ≤ q) s.heap H locs) (hl : lv_has ls 8 [(5, .int (nI 16)), (4, .ref zg_a), (3, .ref za_a), (2, .ref zr_a), (1, .ref xa.1), (0, .ref b)]) : W p l e room_1 s m args below meth cd H locs 37 548 Q (F0 m 47 ls []) := by
  obtain ⟨hx, hb, hml, hown, hts, hK, hN, hZ, hfl, hX, hbl⟩ := id C
  have hA : ∀ q : Nat, s.heap.size ≤ q → (fun q : Nat => s.heap.size ≤ q) q := fun _ h => h
  have hAn : ∀ q : Nat, (fun q : Nat => s.heap.size ≤ q) q → s.heap.size ≤ q := fun _ h => h
  have hI : LIv (fun _ => (0 : Int32)) za (fun _ => (0 : Int32)) D0s := ⟨fun r hr => absurd hr (Nat.not_lt_zero r), hza, fa_lit 0, fa_lit 0, D0s_wf⟩
  have hIc := hI
  obtain ⟨hz, hp, h0, h1, hw⟩ := hI
  refine lv_aload_n hx hb dL_law_47 rfl (lv_at hl 4 rfl) ?_
  refine lv_aload_n hx hb dL_law_48 rfl (lv_at hl 3 rfl) ?_
  refine lv_aload_n hx hb dL_law_49 rfl (lv_at hl 2 rfl) ?_
  refine lv_aload hx hb dL_law_50 (lv_at hl 1 rfl) ?_
  refine callLWi (v := nI 1) (wc := ((zr_a, .inl (T.1, (60, .inl (fun _ => (0 : Int32))))) :: (za_a, .inl (T.1, (16, .inl za))) :: (zg_a, .inl (T.1, (2, .inl (fun _ => (0 : Int32))))) :: (XW T xa xc ++ PW T (fun _ => none)))) (va_runS (As := [.ref xa.1, .ref zr_a, .ref za_a, .ref zg_a]) (rest := []) ⟨hx, hb, hml, hown, hts⟩ (c_L_isSo l D T zr_a za_a zg_a xa (fun _ => (0 : Int32)) za (fun _ => (0 : Int32)) D0s (nI 1) (l_isSo hz hp hw h0 h1) xc (fun _ => none) 0 0 hXP hw H.size) (va_cwS 4 hts gL_law_L_isSo rfl rfl rfl hdS_L_isSo ⟨Nat.le_of_ble_eq_true rfl, Nat.le_of_ble_eq_true rfl⟩) (preMS hW.1 hW.2 hK hN) rfl rfl hl.1 rfl (lv_room (Nat.le_of_ble_eq_true rfl)) dL_law_52 ⟨Nat.le_of_ble_eq_true rfl, Nat.le_of_ble_eq_true rfl⟩) hW hS hA (fun W9 H locs hw9 hW hS => ?_)
  obtain ⟨xc, hXP, rfl⟩ := hw9
  refine lv_if_eq (tgt := 76) hx hb dL_law_55 (by decide) (fun c2 => absurd c2 (by decide)) (fun c2 => ?_)
  refine lv_aload_n hx hb dL_law_58 rfl (lv_at hl 4 rfl) ?_
  refine lv_aload_n hx hb dL_law_59 rfl (lv_at hl 3 rfl) ?_
  refine lv_iconst (v := (0 : Int32)) hx hb dL_law_60 (by decide) ?_
  refine lv_nmi (fa_lit 0).symm ?_
  refine callLWi (v := nI 1) (wc := ((zr_a, .inl (T.1, (60, .inl (fun _ => (0 : Int32))))) :: (za_a, .inl (T.1, (16, .inl za))) :: (zg_a, .inl (T.1, (2, .inl (fun _ => (0 : Int32))))) :: (XW T xa xc ++ PW T (fun _ => none)))) (va_runS (As := [.ref xa.1, .ref zr_a, .int (nI 0)]) (rest := []) ⟨hx, hb, hml, hown, hts⟩ (c_L_isThrough l D T zr_a za_a zg_a xa (fun _ => (0 : Int32)) za (fun _ => (0 : Int32)) D0s (nI 0) (nI 1) (l_isThrough hz hw) xc (fun _ => none) 0 0 hXP hw H.size) (va_cwS 3 hts gL_law_L_isThrough rfl rfl rfl hdS_L_isThrough ⟨Nat.le_of_ble_eq_true rfl, Nat.le_of_ble_eq_true rfl⟩) (preMS hW.1 hW.2 hK hN) rfl rfl hl.1 rfl (lv_room (Nat.le_of_ble_eq_true rfl)) dL_law_61 ⟨Nat.le_of_ble_eq_true rfl, Nat.le_of_ble_eq_true rfl⟩) hW hS hA (fun W9 H locs hw9 hW hS => ?_)
  obtain ⟨xc, hXP, rfl⟩ := hw9
  refine W.widen (k := 83) (n := 1376) (by decide) (by decide) ?_
  refine lv_if_eq (tgt := 76) hx hb dL_law_64 (by decide) (fun c2 => absurd c2 (by decide)) (fun c2 => ?_)
  refine lv_aload_n hx hb dL_law_67 rfl (lv_at hl 4 rfl) ?_
  refine k_undo hfl hZ.zb hAn ⟨Nat.le_of_ble_eq_true rfl, Nat.le_of_ble_eq_true rfl⟩ hK hN hA (a := xa) (R := [(zr_a, .inl (T.1, (60, .inl (fun _ => (0 : Int32))))), (za_a, .inl (T.1, (16, .inl za))), (zg_a, .inl (T.1, (2, .inl (fun _ => (0 : Int32)))))]) hXP (fun H locs cells slots rm mc ms Pc Qc free hMt hrc hrs hR hpre hroom => vx_runSW (n := 1) (As := [.ref xa.1]) (rest := []) ⟨hx, hb, hml, hown, hts⟩ hMt (vx_cwSW 1 hts gL_law_L_undo rfl hrc hrs hdS_L_undo hR) hpre rfl rfl hl.1 rfl (lv_room (Nat.le_of_ble_eq_true rfl)) dL_law_68 hroom) hW hS ⟨Nat.le_of_ble_eq_true rfl, Nat.le_of_ble_eq_true rfl⟩ (fun H locs hW hS => ?_)
  refine lv_bipush (v := (-33 : Int32)) hx hb dL_law_71 (by decide) ?_
  refine lv_icmp_eq (tgt := 78) hx hb dL_law_73 (by decide) (fun c3 => ?_) (fun c3 => absurd rfl c3)
  refine lv_iconst (v := (0 : Int32)) hx hb dL_law_78 (by decide) ?_
  refine lv_nmi (fa_lit 0).symm ?_
  refine lv_istore (lv' := [(5, .int (nI 0)), (4, .ref zg_a), (3, .ref za_a), (2, .ref zr_a), (1, .ref xa.1), (0, .ref b)]) hx hb dL_law_79 hl (by decide) rfl (fun ls hl => ?_)
  refine W.widen (k := 100 + 68 * 0) (n := 1500 + 1092 * 0) (by decide) (by decide) ?_
  exact law_loop C hL hend 40 0 (by omega) H _ ls ⟨xc, _, 0, 0, D0s, _, za, _, hXP, hIc, hW⟩ hS (lv_sub hl [5, 4, 3, 2, 1, 0] rfl)
set_option maxHeartbeats 4000000 in
set_option maxRecDepth 100000 in
/-- from the entry, for every script of at most 260 ints, the law comes to its end with true -/
theorem whole_start {p : Program} {e : Env} {s : State} {m : MethodId} {below : List Frame} {meth : Method} {c : Code} (l : Launch) (hflags : l.flags = flags0) {b L : Nat} {xs : Nat → Int32} (hL : L ≤ 260) (C0 : lw_At p s m meth c b L xs) : W p l e room_1 s m #[Value.ref b] below meth c s.heap [] 0 0 (lw_Z below #[Value.ref b] s) (entryFrame m ([Value.ref b] : List Value).toArray 8) := by
  obtain ⟨hx, hb, hr, hml, hown, hts0, hX, hbl, hlocks, hgv⟩ := id C0
  have hd0 := Drawn.sameBut.refl s.drawn lw_cs
  have htl : ∀ w ∈ lw_tbl, w.before #[Value.ref b] (s.setDrawn s.drawn) = true := dr_words hts0 s.drawn
  have hts : ∀ w ∈ wsL_law, w.before #[Value.ref b] (s.setDrawn s.drawn) = true := fun w h => htl w (wsL_law_in w h)
  have hgd : (Jvm.Cond.and given_1 narrow_1).before #[Value.ref b] (s.setDrawn s.drawn) = true := hgv
  have hfl : l.stackTraces = false := by
    unfold Launch.stackTraces
    rw [hflags]
    decide
  obtain ⟨D, T, hK, hN, hZ⟩ := law_facts htl hgd
  refine W.base ?_
  have hA : ∀ q : Nat, s.heap.size ≤ q → (fun q : Nat => s.heap.size ≤ q) q := fun _ h => h
  have hAn : ∀ q : Nat, (fun q : Nat => s.heap.size ≤ q) q → s.heap.size ≤ q := fun _ h => h
  have hS : va_S (fun q : Nat => s.heap.size ≤ q) s.heap s.heap [] := va_S.rf
  have hP : va_P D vwCl [] s.heap := va_P0
  have hD : va_D (fun q : Nat => s.heap.size ≤ q) [] := va_D0
  have hl := lv_entry ([.ref b]) (n := 8) (Nat.le_of_ble_eq_true rfl)
  rw [lg_entry_eq]
  generalize (lg_sl ([.ref b]) ++ List.replicate (8 - (lg_sl ([.ref b])).length) Slot.unset).toArray = ls at hl ⊢
  have hl : lv_has ls 8 [(0, .ref b)] := hl
  obtain ⟨pl1, pl2, i1, i2, i3⟩ := c_init
  obtain ⟨t1, t2, t3, t4⟩ := start_in
  have hown : (s.setDrawn s.drawn).vm.findClass RL = some m.cls := hown
  have C : LX p l (s.setDrawn s.drawn) m #[Value.ref b] c D T b L xs := ⟨hx, hb, hml, hown, hts, hK, hN, hZ, hfl, hX, hbl⟩
  refine va_new (ci := 6) (fs := [.null, .null, .null, .null, .null, .null, .null, .null]) (C := RX6) (T := TX6) (N := 8) hx hb htl wsL_law_in0_wsX60 tyX6 tyX6_ok hown (htl _ t1) (htl _ is_in.2.2.2.2.2.2) (htl _ t2) hK hP hD hS hA rfl (fs_okX6) (Nat.le_of_ble_eq_true rfl) (Nat.le_of_ble_eq_true rfl) dL_law_0 (fun r_a H hP hD hS => ?_)
  refine W.widen (k := 1) (n := 8) (by decide) (by decide) ?_
  refine lv_dup hx hb dL_law_3 rfl ?_
  have hW : WD D (fun q => s.heap.size ≤ q) ([(r_a, .inr (6, [.null, .null, .null, .null, .null, .null, .null, .null]))] ++ []) H := ⟨hP, hD⟩
  refine callL (wr := []) (va_runI (As := []) (rest := [.ref r_a]) ⟨hx, hb, hml, hown, hts⟩ (c_X6_initN l D T r_a _ i1 H.size) (cwI 0 hts gL_law_X6_init rfl rfl rfl (htl _ t2) (htl _ t3) (htl _ t4) rfl hdS_X6_initN ⟨Nat.le_of_ble_eq_true rfl, Nat.le_of_ble_eq_true rfl⟩) (preMS (As := .ref r_a :: []) hW.fst.1 hW.fst.2 hK hN) rfl rfl hl.1 rfl (lv_room (Nat.le_of_ble_eq_true rfl)) dL_law_4 ⟨Nat.le_of_ble_eq_true rfl, Nat.le_of_ble_eq_true rfl⟩) hW hS hA (fun W9 H locs hw hW hS => ?_)
  obtain ⟨q5, q7_9, q15_9, q23_9, q31_9, q16, q7_20, q15_20, q23_20, q31_20, q28, q35, q7_39, q46, q7_50, q57, q7_61, q15_61, q22_61, q68, q6_72, q13_72, q20_72, q27_72, q35_72, q79, q7_83, q15_83, q23_83, q31_83, q39_83, q47_83, q55_83, rfl⟩ := hw
  refine W.widen (k := 34) (n := 470) (by decide) (by decide) ?_
  refine lv_astore_n (lv' := [(1, .ref r_a), (0, .ref b)]) hx hb dL_law_7 rfl hl (by decide) rfl (fun ls hl => ?_)
  rw [List.append_nil] at hW
  refine lv_bipush (v := (60 : Int32)) hx hb dL_law_8 (by decide) ?_
  refine va_newa (atype := .int) (ty := .int) (N' := 60) (a0 := (60, .inl (fun _ => (0 : Int32)))) hx hb (htl _ lar_in) rfl hK hW.1 hW.2 hS hA (fun _ => rfl) (by decide) (by decide) (by decide) (Nat.le_of_ble_eq_true rfl) (Nat.le_of_ble_eq_true rfl) dL_law_10 (fun zr_a cA H hK9 hP hD hS => ?_)
  obtain rfl : cA = T.1 := tyOne hK9 0 rfl
  refine W.widen (k := 35) (n := 530) (by decide) (by decide) ?_
  refine lv_astore_n (lv' := [(2, .ref zr_a), (1, .ref r_a), (0, .ref b)]) hx hb dL_law_12 rfl hl (by decide) rfl (fun ls hl => ?_)
  refine lv_bipush (v := (16 : Int32)) hx hb dL_law_13 (by decide) ?_
  refine va_newa (atype := .int) (ty := .int) (N' := 16) (a0 := (16, .inl (fun _ => (0 : Int32)))) hx hb (htl _ lar_in) rfl hK hP hD hS hA (fun _ => rfl) (by decide) (by decide) (by decide) (Nat.le_of_ble_eq_true rfl) (Nat.le_of_ble_eq_true rfl) dL_law_15 (fun za_a cA H hK9 hP hD hS => ?_)
  obtain rfl : cA = T.1 := tyOne hK9 0 rfl
  refine W.widen (k := 36) (n := 546) (by decide) (by decide) ?_
  refine lv_astore_n (lv' := [(3, .ref za_a), (2, .ref zr_a), (1, .ref r_a), (0, .ref b)]) hx hb dL_law_17 rfl hl (by decide) rfl (fun ls hl => ?_)
  refine lv_iconst (v := (2 : Int32)) hx hb dL_law_18 (by decide) ?_
  refine va_newa (atype := .int) (ty := .int) (N' := 2) (a0 := (2, .inl (fun _ => (0 : Int32)))) hx hb (htl _ lar_in) rfl hK hP hD hS hA (fun _ => rfl) (by decide) (by decide) (by decide) (Nat.le_of_ble_eq_true rfl) (Nat.le_of_ble_eq_true rfl) dL_law_19 (fun zg_a cA H hK9 hP hD hS => ?_)
  obtain rfl : cA = T.1 := tyOne hK9 0 rfl
  refine W.widen (k := 37) (n := 548) (by decide) (by decide) ?_
  refine lv_astore (lv' := [(4, .ref zg_a), (3, .ref za_a), (2, .ref zr_a), (1, .ref r_a), (0, .ref b)]) hx hb dL_law_21 hl (by decide) rfl (fun ls hl => ?_)
  have hW := WD.perm (permL4 _ _ _ _) (show WD D (fun q => s.heap.size ≤ q) _ H from ⟨hP, hD⟩)
  refine lv_iconst (v := (0 : Int32)) hx hb dL_law_23 (by decide) ?_
  refine lv_nmi (fa_lit 0).symm ?_
  refine lv_istore (lv' := [(5, .int (nI 0)), (4, .ref zg_a), (3, .ref za_a), (2, .ref zr_a), (1, .ref r_a), (0, .ref b)]) hx hb dL_law_24 hl (by decide) rfl (fun ls hl => ?_)
  refine law_fill (xa := (r_a, q5, q7_9, q15_9, q23_9, q31_9, q16, q7_20, q15_20, q23_20, q31_20, q28, q35, q7_39, q46, q7_50, q57, q7_61, q15_61, q22_61, q68, q6_72, q13_72, q20_72, q27_72, q35_72, q79, q7_83, q15_83, q23_83, q31_83, q39_83, q47_83, q55_83)) (xc := (pl2, (fun _ => (0 : Int32)), (fun _ => (0 : Int32)), (fun _ => (0 : Int32)), (0 : Int32), (0 : Int32), pl1, (fun _ => (0 : Int32)), (fun _ => (0 : Int32)), (fun _ => (0 : Int32)), (0 : Int32), (0 : Int32), (fun _ => none), (fun _ => none), (0 : Int32), (0 : Int32), (fun _ => (0 : Int32)), (0 : Int32), (fun _ => (0 : Int32)), (fun _ => (0 : Int32)), (0 : Int32), (fun _ => (0 : Int32)), (fun _ => (0 : Int32)), (fun _ => (0 : Int32)), (fun _ => (0 : Int32)), (fun _ => (0 : Int32)), (fun _ => (0 : Int32)), (fun _ => (0 : Int32)), (fun _ => (0 : Int32)), (fun _ => (0 : Int32)), (fun _ => (0 : Int32)), (fun _ => (0 : Int32)), (fun _ => (0 : Int32)), (0 : Int32), (fun _ => (0 : Int32)))) (xB := fun _ => none) (zr := fun _ => (0 : Int32)) (zg := fun _ => (0 : Int32)) C (fun H locs ls za hza hW hS hl => ?_) 16 0 (by omega) H _ ls (fun _ => (0 : Int32)) (fun k hk => absurd hk (Nat.not_lt_zero k)) hW hS hl
  have hXP : XP (pl2, (fun _ => (0 : Int32)), (fun _ => (0 : Int32)), (fun _ => (0 : Int32)), (0 : Int32), (0 : Int32), pl1, (fun _ => (0 : Int32)), (fun _ => (0 : Int32)), (fun _ => (0 : Int32)), (0 : Int32), (0 : Int32), (fun _ => none), (fun _ => none), (0 : Int32), (0 : Int32), (fun _ => (0 : Int32)), (0 : Int32), (fun _ => (0 : Int32)), (fun _ => (0 : Int32)), (0 : Int32), (fun _ => (0 : Int32)), (fun _ => (0 : Int32)), (fun _ => (0 : Int32)), (fun _ => (0 : Int32)), (fun _ => (0 : Int32)), (fun _ => (0 : Int32)), (fun _ => (0 : Int32)), (fun _ => (0 : Int32)), (fun _ => (0 : Int32)), (fun _ => (0 : Int32)), (fun _ => (0 : Int32)), (fun _ => (0 : Int32)), (0 : Int32), (fun _ => (0 : Int32))) (fun _ => none) 0 0 D0s := by
    refine ⟨?_, by omega, by omega, fa_lit 0, fa_lit 0, fun j hj => rfl⟩
    exact ⟨fa_lit 0, fa_lit 0, i3, fun k hk => absurd hk (Nat.not_lt_zero k), fun k hk => absurd hk (Nat.not_lt_zero k), fun k hk => absurd hk (Nat.not_lt_zero k)⟩
  refine law_first C hL (fun H locs cells slots ls hS h1 h2 => ?_) hXP hza hW hS hl
  refine lv_iconst (v := (1 : Int32)) hx hb dL_law_177 (by decide) ?_
  refine va_forget (fun q hq => hS.2.2 q hq) ?_
  refine W.widen (k := 600130) (n := 7301080) h1 h2 ?_
  exact lw_ret hd0 hx hb hr hlocks dL_law_178
