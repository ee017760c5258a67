/-! ===== the law: its script, its loop ===== -/
def f_cell (L : Nat) (xs : Nat → Int32) (k : Nat) : Int32 := if k < L then xs k else (1116352408 : Int32) * (nI k + (1 : Int32))
def PX (b L : Nat) (xs : Nat → Int32) : State → Prop := fun U => va_X b L xs U U.heap ∧ b < U.heap.size
def rmL_cell : Room := { frames := 0, cells := 0, slots := 0, locals := 0 }
theorem hdS_L_cell : yL_cell.cls ≠ "java/lang/invoke/MethodHandle" ∧ yL_cell.cls ≠ "java/lang/invoke/VarHandle" ∧ (parseMethodDescriptor yL_cell.desc).map (fun d => d.parameters.length) = some 2 := by decide +kernel
theorem frX {b L : Nat} {xs : Nat → Int32} {av : List Value} : FrameBlind (va_Pc av (PX b L xs)) := fun a U g mk q => by
  obtain ⟨q0, qX, qb⟩ := q
  exact ⟨q0, va_X.moved (u := U) (U := U.calling g mk a) (Vm.Alike.refl U.vm) qX, qb⟩
theorem preX {s : State} {H : Heap} {b L : Nat} {xs : Nat → Int32} {A : Nat → Prop} {As : List Value} {locs : List Loc} (hX : va_X b L xs s s.heap) (hbl : b < s.heap.size) (hbA : ¬ A b) (hS : va_S A s.heap H locs) : PreS s H (va_Pc As (PX b L xs)) As :=
  ⟨frX, fun U hU hW => ⟨rfl, by rw [hU]; exact va_X.moved hW.alike (hX.kept (hS.2.1 b hbl hbA)), by rw [hU]; exact Nat.lt_of_lt_of_le hbl hS.1⟩⟩
theorem w_L_cell {p : Program} {l : Launch} {e : Env} {s : State} {m : MethodId} {args : Array Value} {below : List Frame} {meth : Method} {c : Code} (hx : p.tables.exec = Jvm.exec) (hb : c.code = cL_cell) (hown : s.vm.findClass RL = some m.cls) (hts : ∀ w ∈ wsL_cell, w.before args s = true) (hr : meth.sig.returnType = some .int) (hlocks : meth.locks = false)
    {b L : Nat} {xs : Nat → Int32} (hX : va_X b L xs s s.heap) (hbl : b < s.heap.size) (hL : L < 2147483648) {k : Nat} (hk : k < 2147483648) : ∀ ls : Array Slot, lv_has ls 2 [(0, .ref b), (1, .int (nI k))] → W p l e rmL_cell s m args below meth c s.heap [] 0 0 (MQ below (Qp (some (.int (f_cell L xs k)))) args s 0 0 (fun _ => False)) (F0 m 0 ls []) := by
  intro ls hl
  have hS : va_S (fun _ => False) s.heap s.heap [] := va_S.rf
  refine lv_iload_n hx hb dL_cell_0 rfl (lv_at hl 1 rfl) ?_
  refine lv_aload_n hx hb dL_cell_1 rfl (lv_at hl 0 rfl) ?_
  refine va_slen hx hb hX hbl (fun z => z) hS dL_cell_2 ?_
  refine lv_icmp_ge (tgt := 12) hx hb dL_cell_3 (by decide) (fun c1 => ?_) (fun c1 => ?_)
  · have hkL : ¬ k < L := fun z => nle_nI (a := L) (b := k) hL hk z c1
    refine lv_ldc (v := (1116352408 : Int32)) hx hb hown (hts _ (by decide +kernel)) dL_cell_12 ?_
    refine lv_iload_n hx hb dL_cell_14 rfl (lv_at hl 1 rfl) ?_
    refine lv_iconst (v := (1 : Int32)) hx hb dL_cell_15 (by decide) ?_
    refine lv_iadd hx hb dL_cell_16 ?_
    refine lv_imul hx hb dL_cell_17 ?_
    have e9 : f_cell L xs k = (1116352408 : Int32) * (nI k + (1 : Int32)) := if_neg hkL
    rw [e9]
    exact W.iret hx hb hr (fun t ht hW => ⟨rfl, ht⟩) (fun q hq => absurd hq List.not_mem_nil) dL_cell_18 hlocks
  · have hkL : k < L := by
      rcases Nat.lt_or_ge k L with q | q
      · exact q
      · exact absurd ((le_nI (a := L) (b := k) hL hk).mpr q) c1
    refine lv_aload_n hx hb dL_cell_6 rfl (lv_at hl 0 rfl) ?_
    refine lv_iload_n hx hb dL_cell_7 rfl (lv_at hl 1 rfl) ?_
    refine va_sld hx hb hX hbl (fun z => z) hS (vp_in_nI hkL (by omega)) dL_cell_8 ?_
    refine lv_goto (tgt := 18) hx hb dL_cell_9 (by decide) ?_
    have e9 : f_cell L xs k = xs (nI k).toNatClampNeg := by rw [cl_nI hk]; exact if_pos hkL
    rw [e9]
    exact W.iret hx hb hr (fun t ht hW => ⟨rfl, ht⟩) (fun q hq => absurd hq List.not_mem_nil) dL_cell_18 hlocks
theorem c_L_cell (l : Launch) {b L : Nat} {xs : Nat → Int32} (hL : L < 2147483648) {k : Nat} (hk : k < 2147483648) : Met l yL_cell wsL_cell rmL_cell (va_Pc [.ref b, .int (nI k)] (PX b L xs)) (Qp (some (.int (f_cell L xs k)))) 0 0 (fun _ => False) := by
  refine Met.ofW (cc := cL_cell) (maxL := 2) (ret := some .int) (by decide +kernel) rfl ?_
  intro p e s m args below meth c s₁ B hml hv
  obtain ⟨rfl, hX, hbl⟩ := hv
  have hl := lv_entry [.ref b, .int (nI k)] (n := 2) (Nat.le_of_ble_eq_true rfl)
  rw [lg_entry_eq]
  exact w_L_cell B.exec B.bytes (findClass_of_methodNamed B.named) (atoms_spec (ws := wsL_cell) B.pre) B.returns B.notSynchronized hX hbl hL hk _ hl
def LX (p : Program) (l : Launch) (s : State) (m : MethodId) (args : Array Value) (cd : Code) (D : va_G) (T : TY) (b L : Nat) (xs : Nat → Int32) : Prop :=
  p.tables.exec = Jvm.exec ∧ cd.code = cL_law ∧ cd.maxLocals = 8 ∧ s.vm.findClass RL = some m.cls ∧ (∀ w ∈ wsL_law, w.before args s = true) ∧ va_K D vwCl (tyL T) s ∧ NW s ∧ ZT s ∧ l.stackTraces = false ∧ va_X b L xs s s.heap ∧ b < s.heap.size
def LI (T : TY) (D : va_G) (s : State) (xa : XA) (zr_a za_a zg_a : Nat) (H : Heap) : Prop :=
  ∃ (xc : XC) (xB : Nat → Option DB) (xo xh : Nat) (E : DR) (zr za zg : Nat → Int32), XP xc xB xo xh E ∧ LIv zr za zg E ∧ WD D (fun q => s.heap.size ≤ q) ((zr_a, .inl (T.1, (60, .inl zr))) :: (za_a, .inl (T.1, (16, .inl za))) :: (zg_a, .inl (T.1, (2, .inl zg))) :: (XW T xa xc ++ PW T xB)) H
set_option maxHeartbeats 4000000 in
set_option maxRecDepth 100000 in
theorem law_loop {p : Program} {l : Launch} {e : Env} {s : State} {m : MethodId} {args : Array Value} {below : List Frame} {meth : Method} {cd : Code} {D : va_G} {T : TY} {b L : Nat} {xs : Nat → Int32} {xa : XA} {zr_a za_a zg_a : Nat} {Q : State → Prop} (C : LX p l s m args cd D T b L xs) (hL : L ≤ 260)
    (hend : ∀ (H : Heap) (locs : List Loc) (cells slots : Nat) (ls : Array Slot), va_S (fun q => s.heap.size ≤ q) s.heap H locs → cells ≤ 600130 → slots ≤ 7301080 → W p l e room_1 s m args below meth cd H locs cells slots Q (F0 m 177 ls [])) :
    ∀ (n t : Nat), t + n = 40 → ∀ (H : Heap) (locs : List Loc) (ls : Array Slot), LI T D s xa zr_a za_a zg_a H → va_S (fun q => s.heap.size ≤ q) s.heap H locs → lv_has ls 8 [(0, .ref b), (1, .ref xa.1), (2, .ref zr_a), (3, .ref za_a), (4, .ref zg_a), (5, .int (nI t))] → W p l e room_1 s m args below meth cd H locs (100 + 68 * t) (1500 + 1092 * t) Q (F0 m 81 ls []) := by
  obtain ⟨hx, hb, hml, hown, hts, hK, hN, hZ, hfl, hX, hbl⟩ := id C
  have hbA : ¬ (fun q : Nat => s.heap.size ≤ q) b := Nat.not_le.mpr hbl
  have hA : ∀ q : Nat, s.heap.size ≤ q → (fun q : Nat => s.heap.size ≤ q) q := fun _ h => h
  have hAn : ∀ q : Nat, (fun q : Nat => s.heap.size ≤ q) q → s.heap.size ≤ q := fun _ h => h
  have hZB := hZ.zb
  have hrc : room_1.cells = 600130 := rfl
  have hrs : room_1.slots = 7301080 := rfl
  intro n
  induction n with
  | zero =>
    intro t ht H locs ls hI hS hl
    obtain rfl : t = 40 := by omega
    refine lv_iload hx hb dL_law_81 (lv_at hl 5 rfl) ?_
    refine lv_bipush (v := (40 : Int32)) hx hb dL_law_83 (by decide) ?_
    refine lv_icmp_ge (tgt := 177) hx hb dL_law_85 (by decide) (fun c1 => ?_) (fun c1 => absurd (by decide) c1)
    exact hend H locs _ _ ls hS (by omega) (by omega)
  | succ n ih =>
    intro t ht H locs ls hI hS hl
    have ht40 : t < 40 := by omega
    refine lv_iload hx hb dL_law_81 (lv_at hl 5 rfl) ?_
    refine lv_bipush (v := (40 : Int32)) hx hb dL_law_83 (by decide) ?_
    refine lv_icmp_ge (tgt := 177) hx hb dL_law_85 (by decide) (fun c1 => absurd c1 (by rw [fa_lit 40]; exact nle_nI (by omega) (by omega) ht40)) (fun c1 => ?_)
    refine lv_aload_n hx hb dL_law_88 rfl (lv_at hl 0 rfl) ?_
    refine lv_iconst (v := (2 : Int32)) hx hb dL_law_89 (by decide) ?_
    refine lv_iload hx hb dL_law_90 (lv_at hl 5 rfl) ?_
    refine lv_imul hx hb dL_law_92 ?_
    refine lv_nmi (show nI (2 * t) = (2 : Int32) * nI t from by rw [fa_lit 2, pk_mul]) ?_
    refine callPi (va_runS (As := [.ref b, .int (nI (2 * t))]) (rest := []) ⟨hx, hb, hml, hown, hts⟩ (c_L_cell l (b := b) (L := L) (xs := xs) (show L < 2147483648 by omega) (k := 2 * t) (by omega)) (va_cwS 2 hts gL_law_L_cell rfl rfl rfl hdS_L_cell ⟨Nat.le_of_ble_eq_true rfl, Nat.le_of_ble_eq_true rfl⟩) (preX hX hbl hbA hS) rfl rfl hl.1 rfl (lv_room (Nat.le_of_ble_eq_true rfl)) dL_law_93 ⟨by omega, by omega⟩) ?_
    generalize f_cell L xs (2 * t) = x
    refine lv_istore (lv' := [(6, .int x), (0, .ref b), (1, .ref xa.1), (2, .ref zr_a), (3, .ref za_a), (4, .ref zg_a), (5, .int (nI t))]) hx hb dL_law_96 hl (by decide) rfl (fun ls hl => ?_)
    refine lv_aload_n hx hb dL_law_98 rfl (lv_at hl 1 rfl) ?_
    refine lv_iconst (v := (2 : Int32)) hx hb dL_law_99 (by decide) ?_
    refine lv_iload hx hb dL_law_100 (lv_at hl 6 rfl) ?_
    refine lv_imul hx hb dL_law_102 ?_
    refine lv_iconst (v := (1 : Int32)) hx hb dL_law_103 (by decide) ?_
    refine lv_iadd hx hb dL_law_104 ?_
    refine lv_nmi (show nI (2 * t + 1) = (2 : Int32) * nI t + (1 : Int32) from by rw [fa_lit 2, fa_lit 1, pk_mul, nI_step]) ?_
    refine callPi (va_runS (As := [.ref b, .int (nI (2 * t + 1))]) (rest := []) ⟨hx, hb, hml, hown, hts⟩ (c_L_cell l (b := b) (L := L) (xs := xs) (show L < 2147483648 by omega) (k := 2 * t + 1) (by omega)) (va_cwS 2 hts gL_law_L_cell rfl rfl rfl hdS_L_cell ⟨Nat.le_of_ble_eq_true rfl, Nat.le_of_ble_eq_true rfl⟩) (preX hX hbl hbA hS) rfl rfl hl.1 rfl (lv_room (Nat.le_of_ble_eq_true rfl)) dL_law_105 ⟨by omega, by omega⟩) ?_
    generalize f_cell L xs (2 * t + 1) = y
    refine lv_istore (lv' := [(7, .int y), (6, .int x), (0, .ref b), (1, .ref xa.1), (2, .ref zr_a), (3, .ref za_a), (4, .ref zg_a), (5, .int (nI t))]) hx hb dL_law_108 hl (by decide) rfl (fun ls hl => ?_)
    have kk : ∀ x1 : Int32, W p l e room_1 s m args below meth cd H locs (100 + 68 * t) (1500 + 1092 * t) Q (F0 m 124 ls [.int x1, .ref xa.1]) := by
      intro x1
      obtain ⟨xc, xB, xo, xh, E, zr, za, zg, hXP, hI, hW⟩ := hI
      obtain ⟨zr', za', zg', E', e1, hI'⟩ := l_act x1 y hI
      have hw := hI.2.2.2.2
      refine lv_iload hx hb dL_law_124 (lv_at hl 0 rfl) ?_
      refine lv_aload_n hx hb dL_law_126 rfl (lv_at hl 4 rfl) ?_
      refine lv_aload_n hx hb dL_law_127 rfl (lv_at hl 5 rfl) ?_
      refine lv_aload hx hb dL_law_128 (lv_at hl 6 rfl) ?_
      refine callLWi (v := nI 1) (wc := ((zr_a, .inl (T.1, (60, .inl zr))) :: (za_a, .inl (T.1, (16, .inl za))) :: (zg_a, .inl (T.1, (2, .inl zg))) :: (XW T xa xc ++ PW T xB))) (va_runS (As := [.ref xa.1, .int x1, .int y, .ref zr_a, .ref za_a, .ref zg_a]) (rest := []) ⟨hx, hb, hml, hown, hts⟩ (c_L_act l hfl D T zr_a za_a zg_a xa zr za zg E x1 y (nI 1, zr', za', zg', E') e1 s.heap.size xc xB xo xh hXP hw H.size) (va_cwS 6 hts gL_law_L_act rfl rfl rfl hdS_L_act ⟨Nat.le_of_ble_eq_true rfl, Nat.le_of_ble_eq_true rfl⟩) (preMB hW.1 hW.2 hK hN hZB hS hAn) rfl rfl hl.1 rfl (lv_room (Nat.le_of_ble_eq_true rfl)) dL_law_130 ⟨by rw [hrc]; omega, by rw [hrs]; omega⟩) hW hS hA (fun W9 H locs hw9 hW hS => ?_)
      obtain ⟨xc, xB, xo, xh, hXP, hw, rfl⟩ := hw9
      obtain ⟨hz, hp, h0, h1, hw⟩ := hI'
      refine lv_if_eq (tgt := 169) hx hb dL_law_133 (by decide) (fun c2 => absurd c2 (by decide)) (fun c2 => ?_)
      refine lv_aload_n hx hb dL_law_136 rfl (lv_at hl 3 rfl) ?_
      refine lv_aload_n hx hb dL_law_137 rfl (lv_at hl 4 rfl) ?_
      refine lv_aload_n hx hb dL_law_138 rfl (lv_at hl 5 rfl) ?_
      refine lv_aload hx hb dL_law_139 (lv_at hl 6 rfl) ?_
      refine callLWi (v := nI 1) (wc := ((zr_a, .inl (T.1, (60, .inl zr'))) :: (za_a, .inl (T.1, (16, .inl za'))) :: (zg_a, .inl (T.1, (2, .inl zg'))) :: (XW T xa xc ++ PW T xB))) (va_runS (As := [.ref xa.1, .ref zr_a, .ref za_a, .ref zg_a]) (rest := []) ⟨hx, hb, hml, hown, hts⟩ (c_L_isSo l D T zr_a za_a zg_a xa zr' za' zg' E' (nI 1) (l_isSo hz hp hw h0 h1) xc xB xo xh hXP hw H.size) (va_cwS 4 hts gL_law_L_isSo rfl rfl rfl hdS_L_isSo ⟨Nat.le_of_ble_eq_true rfl, Nat.le_of_ble_eq_true rfl⟩) (preMS hW.1 hW.2 hK hN) rfl rfl hl.1 rfl (lv_room (Nat.le_of_ble_eq_true rfl)) dL_law_141 ⟨by rw [hrc]; omega, by rw [hrs]; omega⟩) hW hS hA (fun W9 H locs hw9 hW hS => ?_)
      obtain ⟨xc, hXP, rfl⟩ := hw9
      refine lv_if_eq (tgt := 169) hx hb dL_law_144 (by decide) (fun c2 => absurd c2 (by decide)) (fun c2 => ?_)
      have kn : ∀ (H : Heap) (locs : List Loc) (cells slots : Nat), LI T D s xa zr_a za_a zg_a H → va_S (fun q => s.heap.size ≤ q) s.heap H locs → cells ≤ 100 + 68 * (t + 1) → slots ≤ 1500 + 1092 * (t + 1) → W p l e room_1 s m args below meth cd H locs cells slots Q (F0 m 171 ls []) := by
        intro H locs cells slots hI hS k1 k2
        refine W.widen (k := 100 + 68 * (t + 1)) (n := 1500 + 1092 * (t + 1)) k1 k2 ?_
        refine lv_iinc (v := nI (t + 1)) (lv' := [(5, .int (nI (t + 1))), (7, .int y), (6, .int x), (0, .ref b), (1, .ref xa.1), (2, .ref zr_a), (3, .ref za_a), (4, .ref zg_a)]) hx hb dL_law_171 hl (k := 7) rfl (by rw [← nI_step, ← fa_lit 1]; rfl) (by decide) rfl (fun ls hl => ?_)
        refine lv_goto (tgt := 81) hx hb dL_law_174 (by decide) ?_
        exact ih (t + 1) (by omega) H locs ls hI hS (lv_sub hl [3, 4, 5, 6, 7, 0] rfl)
      refine lv_iload hx hb dL_law_147 (lv_at hl 7 rfl) ?_
      refine lv_bipush (v := (10 : Int32)) hx hb dL_law_149 (by decide) ?_
      refine lv_irem hx hb dL_law_151 (by decide) ?_
      refine lv_bipush (v := (9 : Int32)) hx hb dL_law_152 (by decide) ?_
      refine lv_icmp_ne (tgt := 171) hx hb dL_law_154 (by decide) (fun c3 => ?_) (fun c3 => ?_)
      · exact kn H locs _ _ ⟨xc, xB, xo, xh, E', zr', za', zg', hXP, ⟨hz, hp, h0, h1, hw⟩, hW⟩ hS (by omega) (by omega)
      · refine lv_aload_n hx hb dL_law_157 rfl (lv_at hl 3 rfl) ?_
        refine lv_aload_n hx hb dL_law_158 rfl (lv_at hl 4 rfl) ?_
        refine lv_aload hx hb dL_law_159 (lv_at hl 6 rfl) ?_
        refine lv_iconst (v := (0 : Int32)) hx hb dL_law_161 (by decide) ?_
        refine va_iald (D := D) hx hb hK hW.1 2 0 rfl rfl (gd_in (by decide)) dL_law_162 ?_
        refine lv_nmi (show nI (dN E') = zg' ((0 : Int32).toNatClampNeg) from h0.symm) ?_
        refine callLWi (v := nI 1) (wc := ((zr_a, .inl (T.1, (60, .inl zr'))) :: (za_a, .inl (T.1, (16, .inl za'))) :: (zg_a, .inl (T.1, (2, .inl zg'))) :: (XW T xa xc ++ PW T xB))) (va_runS (As := [.ref xa.1, .ref zr_a, .int (nI (dN E'))]) (rest := []) ⟨hx, hb, hml, hown, hts⟩ (c_L_isThrough l D T zr_a za_a zg_a xa zr' za' zg' E' (nI (dN E')) (nI 1) (l_isThrough hz hw) xc xB xo xh hXP hw H.size) (va_cwS 3 hts gL_law_L_isThrough rfl rfl rfl hdS_L_isThrough ⟨Nat.le_of_ble_eq_true rfl, Nat.le_of_ble_eq_true rfl⟩) (preMS hW.1 hW.2 hK hN) rfl rfl hl.1 rfl (lv_room (Nat.le_of_ble_eq_true rfl)) dL_law_163 ⟨by rw [hrc]; omega, by rw [hrs]; omega⟩) hW hS hA (fun W9 H locs hw9 hW hS => ?_)
        obtain ⟨xc, hXP, rfl⟩ := hw9
        refine lv_if_ne (tgt := 171) hx hb dL_law_166 (by decide) (fun c2 => ?_) (fun c2 => absurd c2 (by decide))
        exact kn H locs _ _ ⟨xc, xB, xo, xh, E', zr', za', zg', hXP, ⟨hz, hp, h0, h1, hw⟩, hW⟩ hS (by omega) (by omega)
    refine lv_aload_n hx hb dL_law_110 rfl (lv_at hl 3 rfl) ?_
    refine lv_iload hx hb dL_law_111 (lv_at hl 7 rfl) ?_
    refine lv_bipush (v := (9 : Int32)) hx hb dL_law_113 (by decide) ?_
    refine lv_icmp_ge (tgt := 122) hx hb dL_law_115 (by decide) (fun c2 => ?_) (fun c2 => ?_)
    · refine lv_iload hx hb dL_law_122 (lv_at hl 1 rfl) ?_
      exact kk x
    · refine lv_iconst (v := (0 : Int32)) hx hb dL_law_118 (by decide) ?_
      refine lv_goto (tgt := 124) hx hb dL_law_119 (by decide) ?_
      exact kk (0 : Int32)
