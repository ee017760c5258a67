/-! ===== the law's cases, laid by wip/gen/genlaw.py ===== -/
set_option maxHeartbeats 4000000 in
set_option maxRecDepth 100000 in
theorem law_goBack {p : Program} {l : Launch} {e : Env} {s : State} {m : MethodId} {args : Array Value} {below : List Frame} {meth : Method} {cd : Code} {D : va_G} {T : TY} {b L i : Nat} {xs : Nat → Int32} {a : XA} {ma : MA} {oa : Nat} {H : Heap} {locs : List Loc} {cells slots : Nat} {Q : State → Prop} {ls : Array Slot} (C : LX p l s m args cd D T b L xs) (hL : L ≤ 2048) (hi : i + 4 ≤ L) (hI : LI T D s a ma oa H) (hS : va_S (fun q => s.heap.size ≤ q) s.heap H locs) (hl : lv_has ls 9 [(0, .ref b), (1, .ref a.1), (2, .ref ma.1), (3, .ref oa), (4, .int (nI i))]) (hrm : cells + 12 ≤ room_1.cells ∧ slots + 176 ≤ room_1.slots)
    (kk : ∀ (H1 : Heap) (locs1 : List Loc) (ls1 : Array Slot), LI T D s a ma oa H1 → va_S (fun q => s.heap.size ≤ q) s.heap H1 locs1 → lv_has ls1 9 [(0, .ref b), (1, .ref a.1), (2, .ref ma.1), (3, .ref oa), (4, .int (nI i))] → W p l e room_1 s m args below meth cd H1 locs1 (cells + 6) (slots + 88) Q (F0 m 1297 ls1 [])) :
    W p l e room_1 s m args below meth cd H locs cells slots Q (F0 m 744 ls []) := by
  obtain ⟨hx, hb, hml, hown, hts, hK, hN, hZ, hfl, hX, hbl⟩ := C
  obtain ⟨c, cm, B, o, S, out, hXI, hM, hWS, hW⟩ := hI
  have hbA : ¬ (fun q : Nat => s.heap.size ≤ q) b := Nat.not_le.mpr hbl
  have hrm1 : cells + 6 ≤ room_1.cells ∧ slots + 88 ≤ room_1.slots := ⟨by omega, by omega⟩
  have hrm2 : cells + 6 + 6 ≤ room_1.cells ∧ slots + 88 + 88 ≤ room_1.slots := hrm
  obtain ⟨k, v, S', hWS', hk3, runX, runM⟩ := h_goBack (a := a) (ma := ma) (oa := oa) (T := T) (R := MW T ma cm) (p := p) (l := l) (e := e) (s := s) (m := m) (args := args) (below := below) (meth := meth) (cd := cd) (out := out) hfl hK hN hZ hXI hM hWS (xs (nI i + (1 : Int32)).toNatClampNeg)
  refine lv_aload_n hx hb dL_law_744 rfl (lv_at hl 1 rfl) ?_
  refine lv_aload_n hx hb dL_law_745 rfl (lv_at hl 0 rfl) ?_
  refine lv_iload hx hb dL_law_746 (lv_at hl 4 rfl) ?_
  refine lv_iconst (v := (1 : Int32)) hx hb dL_law_748 (by decide) ?_
  refine lv_iadd hx hb dL_law_749 ?_
  refine va_sld hx hb hX hbl hbA hS (by rw [fa_lit 1, nI_step]; exact vp_in_nI (by omega) (by omega)) dL_law_750 ?_
  refine lv_aload_n hx hb dL_law_751 rfl (lv_at hl 3 rfl) ?_
  refine runX H locs cells slots Q 752 ls [] _ (fun H locs cells slots rm mc ms Pc Qc free hMt hrc hrs hR hpre hroom => vx_runSW (n := 3) (As := [.ref a.1, .int (xs (nI i + (1 : Int32)).toNatClampNeg), .ref oa]) (rest := []) ⟨hx, hb, hml, hown, hts⟩ hMt (vx_cwSW 3 hts gL_law_L_goBack rfl hrc hrs hdS_L_goBackA hR) hpre rfl rfl hl.1 rfl (lv_room (Nat.le_of_ble_eq_true rfl)) dL_law_752 hroom) hW hS hrm1 (fun c' B' o' out' H1 locs1 hXI' hout hW1 hS1 => ?_)
  refine lv_istore (lv' := [(5, .int (nI k)), (0, .ref b), (1, .ref a.1), (2, .ref ma.1), (3, .ref oa), (4, .int (nI i))]) hx hb dL_law_755 hl (by decide) rfl (fun ls hl => ?_)
  have hW1 : WD D (fun q => s.heap.size ≤ q) (MW T ma cm ++ (XW T a c' ++ (OW T oa out' ++ PW T B'))) H1 := hW1.perm (by rw [← List.append_assoc, ← List.append_assoc, ← List.append_assoc (XW T a c')]; exact List.perm_append_comm)
  refine lv_aload_n hx hb dL_law_757 rfl (lv_at hl 3 rfl) ?_
  refine lv_aload_n hx hb dL_law_758 rfl (lv_at hl 1 rfl) ?_
  refine lv_iload hx hb dL_law_759 (lv_at hl 5 rfl) ?_
  refine lv_iconst (v := (1 : Int32)) hx hb dL_law_761 (by decide) ?_
  refine lv_iadd hx hb dL_law_762 ?_
  refine va_sld hx hb hX hbl hbA hS1 (by rw [fa_lit 1, nI_step]; exact vp_in_nI (by omega) (by omega)) dL_law_763 ?_
  refine runM H1 locs1 (cells + 6) (slots + 88) Q 764 ls [] _ _ (fun H locs cells slots rm mc ms Pc Qc free hMt hrc hrs hR hpre hroom => va_runV (n := 1) (C := RX7) (b := ma.1) (As := [.int (xs (nI i + (1 : Int32)).toNatClampNeg)]) (rest := []) ⟨hx, hb, hml, hown, hts⟩ hMt (cwV 1 hts gL_law_X7_goBack rfl hrc hrs hdV_X7_goBack hR) hpre rfl rfl hl.1 rfl (lv_room (Nat.le_of_ble_eq_true rfl)) dL_law_764 hroom) hW1 hS1 hrm2 (fun cm' r H2 locs2 hM' hr hthr hW2 hS2 => ?_)
  have hI2 : LI T D s a ma oa H2 := ⟨c', cm', B', o', S', out', hXI', hM', hWS', hW2.perm (List.Perm.trans List.perm_append_comm (by rw [List.append_assoc, List.append_assoc]))⟩
  refine lv_istore (lv' := [(6, .int r), (5, .int (nI k)), (0, .ref b), (1, .ref a.1), (2, .ref ma.1), (3, .ref oa), (4, .int (nI i))]) hx hb dL_law_767 hl (by decide) rfl (fun ls hl => ?_)
  refine lv_aload_n hx hb dL_law_769 rfl (lv_at hl 4 rfl) ?_
  obtain ⟨m_thrown, m_z, m_aside, m_saved, m_saves, m_slots, m_isKept, m_text, m_length, m_sums, m_numbers, m_read, m_reads⟩ := cm'
  obtain ⟨m_a, m_z_a, m_aside_a, m_saved_a, m_slots_a, m_isKept_a, m_text_a, m_sums_a, m_numbers_a, m_read_a⟩ := ma
  have hthr : m_thrown = nI k := hthr
  refine callPi (va_runV (n := 0) (C := RX7) (b := m_a) (As := []) (rest := []) ⟨hx, hb, hml, hown, hts⟩ (c_X7_thrown l D T m_a m_z_a m_aside_a m_saved_a m_slots_a m_isKept_a m_text_a m_sums_a m_numbers_a m_read_a m_thrown m_z m_aside m_saved m_saves m_slots m_isKept m_text m_length m_sums m_numbers m_read m_reads m_thrown rfl) (cwV 0 hts gL_law_X7_thrown rfl rfl rfl hdV_X7_thrown ⟨Nat.le_of_ble_eq_true rfl, Nat.le_of_ble_eq_true rfl⟩) (preBV hW2.fst.1 hK hN (ci := 7) rfl 0 rfl) rfl rfl hl.1 rfl (lv_room (Nat.le_of_ble_eq_true rfl)) dL_law_770 (rm_room hrm2 (by decide) (by decide))) ?_
  refine lv_iload hx hb dL_law_773 (lv_at hl 1 rfl) ?_
  refine lv_icmp_eq (tgt := 780) hx hb dL_law_775 (by decide) (fun _ => ?_) (fun hne => absurd hthr hne)
  refine lv_iload hx hb dL_law_780 (lv_at hl 1 rfl) ?_
  refine lv_if_ne (tgt := 797) hx hb dL_law_782 (by decide) (fun _ => ?_) (fun hk0 => ?_)
  · refine lv_goto (tgt := 1297) hx hb dL_law_797 (by decide) ?_
    exact kk H2 locs2 ls hI2 hS2 (lv_sub hl [2, 3, 4, 5, 6] rfl)
  · have hk9 : k = 0 := ik0 (by omega) hk0
    have hrv := hr hk9
    have hov := hout hk9
    have hWo : va_P D vwCl (OW T oa out') H2 := (WD.split.mp (WD.split.mp hW2).2.1).2.1.fst.1
    refine lv_aload_n hx hb dL_law_785 rfl (lv_at hl 5 rfl) ?_
    refine lv_iconst (v := (0 : Int32)) hx hb dL_law_786 (by decide) ?_
    refine va_lald (D := D) hx hb hK hWo 0 3 rfl rfl (gd_in (by decide)) dL_law_787 ?_
    refine lv_iload hx hb dL_law_788 (lv_at hl 0 rfl) ?_
    refine lv_i2l hx hb dL_law_790 rfl ?_
    refine W.lcmp hx hb dL_law_791 ?_
    refine lv_if_eq (tgt := 797) hx hb dL_law_792 (by decide) (fun _ => ?_) (fun hne => absurd (by rw [show (0 : Int32).toNatClampNeg = 0 from by decide, hov, hrv]; exact lg_same _) hne)
    refine lv_goto (tgt := 1297) hx hb dL_law_797 (by decide) ?_
    exact kk H2 locs2 ls hI2 hS2 (lv_sub hl [2, 3, 4, 5, 6] rfl)
set_option maxHeartbeats 4000000 in
set_option maxRecDepth 100000 in
theorem law_undo {p : Program} {l : Launch} {e : Env} {s : State} {m : MethodId} {args : Array Value} {below : List Frame} {meth : Method} {cd : Code} {D : va_G} {T : TY} {b L i : Nat} {xs : Nat → Int32} {a : XA} {ma : MA} {oa : Nat} {H : Heap} {locs : List Loc} {cells slots : Nat} {Q : State → Prop} {ls : Array Slot} (C : LX p l s m args cd D T b L xs) (hL : L ≤ 2048) (hi : i + 4 ≤ L) (hI : LI T D s a ma oa H) (hS : va_S (fun q => s.heap.size ≤ q) s.heap H locs) (hl : lv_has ls 9 [(0, .ref b), (1, .ref a.1), (2, .ref ma.1), (3, .ref oa), (4, .int (nI i))]) (hrm : cells + 12 ≤ room_1.cells ∧ slots + 176 ≤ room_1.slots)
    (kk : ∀ (H1 : Heap) (locs1 : List Loc) (ls1 : Array Slot), LI T D s a ma oa H1 → va_S (fun q => s.heap.size ≤ q) s.heap H1 locs1 → lv_has ls1 9 [(0, .ref b), (1, .ref a.1), (2, .ref ma.1), (3, .ref oa), (4, .int (nI i))] → W p l e room_1 s m args below meth cd H1 locs1 (cells + 6) (slots + 88) Q (F0 m 1297 ls1 [])) :
    W p l e room_1 s m args below meth cd H locs cells slots Q (F0 m 800 ls []) := by
  obtain ⟨hx, hb, hml, hown, hts, hK, hN, hZ, hfl, hX, hbl⟩ := C
  obtain ⟨c, cm, B, o, S, out, hXI, hM, hWS, hW⟩ := hI
  have hbA : ¬ (fun q : Nat => s.heap.size ≤ q) b := Nat.not_le.mpr hbl
  have hrm1 : cells + 6 ≤ room_1.cells ∧ slots + 88 ≤ room_1.slots := ⟨by omega, by omega⟩
  have hrm2 : cells + 6 + 6 ≤ room_1.cells ∧ slots + 88 + 88 ≤ room_1.slots := hrm
  obtain ⟨k, v, S', hWS', hk3, runX, runM⟩ := h_undo (a := a) (ma := ma) (oa := oa) (T := T) (R := MW T ma cm) (p := p) (l := l) (e := e) (s := s) (m := m) (args := args) (below := below) (meth := meth) (cd := cd) (out := out) hfl hK hN hZ hXI hM hWS 
  refine lv_aload_n hx hb dL_law_800 rfl (lv_at hl 1 rfl) ?_
  refine lv_aload_n hx hb dL_law_801 rfl (lv_at hl 3 rfl) ?_
  refine runX H locs cells slots Q 802 ls [] _ (fun H locs cells slots rm mc ms Pc Qc free hMt hrc hrs hR hpre hroom => vx_runSW (n := 2) (As := [.ref a.1, .ref oa]) (rest := []) ⟨hx, hb, hml, hown, hts⟩ hMt (vx_cwSW 2 hts gL_law_L_undo rfl hrc hrs hdS_L_undoB hR) hpre rfl rfl hl.1 rfl (lv_room (Nat.le_of_ble_eq_true rfl)) dL_law_802 hroom) hW hS hrm1 (fun c' B' o' out' H1 locs1 hXI' hout hW1 hS1 => ?_)
  refine lv_istore (lv' := [(5, .int (nI k)), (0, .ref b), (1, .ref a.1), (2, .ref ma.1), (3, .ref oa), (4, .int (nI i))]) hx hb dL_law_805 hl (by decide) rfl (fun ls hl => ?_)
  have hW1 : WD D (fun q => s.heap.size ≤ q) (MW T ma cm ++ (XW T a c' ++ (OW T oa out' ++ PW T B'))) H1 := hW1.perm (by rw [← List.append_assoc, ← List.append_assoc, ← List.append_assoc (XW T a c')]; exact List.perm_append_comm)
  refine lv_aload_n hx hb dL_law_807 rfl (lv_at hl 3 rfl) ?_
  refine runM H1 locs1 (cells + 6) (slots + 88) Q 808 ls [] _ _ (fun H locs cells slots rm mc ms Pc Qc free hMt hrc hrs hR hpre hroom => va_runV (n := 0) (C := RX7) (b := ma.1) (As := []) (rest := []) ⟨hx, hb, hml, hown, hts⟩ hMt (cwV 0 hts gL_law_X7_undo rfl hrc hrs hdV_X7_undo hR) hpre rfl rfl hl.1 rfl (lv_room (Nat.le_of_ble_eq_true rfl)) dL_law_808 hroom) hW1 hS1 hrm2 (fun cm' r H2 locs2 hM' hr hthr hW2 hS2 => ?_)
  have hI2 : LI T D s a ma oa H2 := ⟨c', cm', B', o', S', out', hXI', hM', hWS', hW2.perm (List.Perm.trans List.perm_append_comm (by rw [List.append_assoc, List.append_assoc]))⟩
  refine lv_istore (lv' := [(6, .int r), (5, .int (nI k)), (0, .ref b), (1, .ref a.1), (2, .ref ma.1), (3, .ref oa), (4, .int (nI i))]) hx hb dL_law_811 hl (by decide) rfl (fun ls hl => ?_)
  refine lv_aload_n hx hb dL_law_813 rfl (lv_at hl 4 rfl) ?_
  obtain ⟨m_thrown, m_z, m_aside, m_saved, m_saves, m_slots, m_isKept, m_text, m_length, m_sums, m_numbers, m_read, m_reads⟩ := cm'
  obtain ⟨m_a, m_z_a, m_aside_a, m_saved_a, m_slots_a, m_isKept_a, m_text_a, m_sums_a, m_numbers_a, m_read_a⟩ := ma
  have hthr : m_thrown = nI k := hthr
  refine callPi (va_runV (n := 0) (C := RX7) (b := m_a) (As := []) (rest := []) ⟨hx, hb, hml, hown, hts⟩ (c_X7_thrown l D T m_a m_z_a m_aside_a m_saved_a m_slots_a m_isKept_a m_text_a m_sums_a m_numbers_a m_read_a m_thrown m_z m_aside m_saved m_saves m_slots m_isKept m_text m_length m_sums m_numbers m_read m_reads m_thrown rfl) (cwV 0 hts gL_law_X7_thrown rfl rfl rfl hdV_X7_thrown ⟨Nat.le_of_ble_eq_true rfl, Nat.le_of_ble_eq_true rfl⟩) (preBV hW2.fst.1 hK hN (ci := 7) rfl 0 rfl) rfl rfl hl.1 rfl (lv_room (Nat.le_of_ble_eq_true rfl)) dL_law_814 (rm_room hrm2 (by decide) (by decide))) ?_
  refine lv_iload hx hb dL_law_817 (lv_at hl 1 rfl) ?_
  refine lv_icmp_eq (tgt := 824) hx hb dL_law_819 (by decide) (fun _ => ?_) (fun hne => absurd hthr hne)
  refine lv_iload hx hb dL_law_824 (lv_at hl 1 rfl) ?_
  refine lv_if_ne (tgt := 841) hx hb dL_law_826 (by decide) (fun _ => ?_) (fun hk0 => ?_)
  · refine lv_goto (tgt := 1297) hx hb dL_law_841 (by decide) ?_
    exact kk H2 locs2 ls hI2 hS2 (lv_sub hl [2, 3, 4, 5, 6] rfl)
  · have hk9 : k = 0 := ik0 (by omega) hk0
    have hrv := hr hk9
    have hov := hout hk9
    have hWo : va_P D vwCl (OW T oa out') H2 := (WD.split.mp (WD.split.mp hW2).2.1).2.1.fst.1
    refine lv_aload_n hx hb dL_law_829 rfl (lv_at hl 5 rfl) ?_
    refine lv_iconst (v := (0 : Int32)) hx hb dL_law_830 (by decide) ?_
    refine va_lald (D := D) hx hb hK hWo 0 3 rfl rfl (gd_in (by decide)) dL_law_831 ?_
    refine lv_iload hx hb dL_law_832 (lv_at hl 0 rfl) ?_
    refine lv_i2l hx hb dL_law_834 rfl ?_
    refine W.lcmp hx hb dL_law_835 ?_
    refine lv_if_eq (tgt := 841) hx hb dL_law_836 (by decide) (fun _ => ?_) (fun hne => absurd (by rw [show (0 : Int32).toNatClampNeg = 0 from by decide, hov, hrv]; exact lg_same _) hne)
    refine lv_goto (tgt := 1297) hx hb dL_law_841 (by decide) ?_
    exact kk H2 locs2 ls hI2 hS2 (lv_sub hl [2, 3, 4, 5, 6] rfl)
set_option maxHeartbeats 4000000 in
set_option maxRecDepth 100000 in
theorem law_postOf {p : Program} {l : Launch} {e : Env} {s : State} {m : MethodId} {args : Array Value} {below : List Frame} {meth : Method} {cd : Code} {D : va_G} {T : TY} {b L i : Nat} {xs : Nat → Int32} {a : XA} {ma : MA} {oa : Nat} {H : Heap} {locs : List Loc} {cells slots : Nat} {Q : State → Prop} {ls : Array Slot} (C : LX p l s m args cd D T b L xs) (hL : L ≤ 2048) (hi : i + 4 ≤ L) (hI : LI T D s a ma oa H) (hS : va_S (fun q => s.heap.size ≤ q) s.heap H locs) (hl : lv_has ls 9 [(0, .ref b), (1, .ref a.1), (2, .ref ma.1), (3, .ref oa), (4, .int (nI i))]) (hrm : cells + 12 ≤ room_1.cells ∧ slots + 176 ≤ room_1.slots)
    (kk : ∀ (H1 : Heap) (locs1 : List Loc) (ls1 : Array Slot), LI T D s a ma oa H1 → va_S (fun q => s.heap.size ≤ q) s.heap H1 locs1 → lv_has ls1 9 [(0, .ref b), (1, .ref a.1), (2, .ref ma.1), (3, .ref oa), (4, .int (nI i))] → W p l e room_1 s m args below meth cd H1 locs1 (cells + 6) (slots + 88) Q (F0 m 1297 ls1 [])) :
    W p l e room_1 s m args below meth cd H locs cells slots Q (F0 m 844 ls []) := by
  obtain ⟨hx, hb, hml, hown, hts, hK, hN, hZ, hfl, hX, hbl⟩ := C
  obtain ⟨c, cm, B, o, S, out, hXI, hM, hWS, hW⟩ := hI
  have hbA : ¬ (fun q : Nat => s.heap.size ≤ q) b := Nat.not_le.mpr hbl
  have hrm1 : cells + 6 ≤ room_1.cells ∧ slots + 88 ≤ room_1.slots := ⟨by omega, by omega⟩
  have hrm2 : cells + 6 + 6 ≤ room_1.cells ∧ slots + 88 + 88 ≤ room_1.slots := hrm
  obtain ⟨k, v, hk3, runX, runM⟩ := h_postOf (a := a) (ma := ma) (oa := oa) (T := T) (R := MW T ma cm) (p := p) (l := l) (e := e) (s := s) (m := m) (args := args) (below := below) (meth := meth) (cd := cd) (out := out) hfl hK hN hZ hXI hM hWS (xs (nI i + (1 : Int32)).toNatClampNeg) (xs (nI i + (2 : Int32)).toNatClampNeg)
  have hWS' := hWS
  refine lv_aload_n hx hb dL_law_844 rfl (lv_at hl 1 rfl) ?_
  refine lv_aload_n hx hb dL_law_845 rfl (lv_at hl 0 rfl) ?_
  refine lv_iload hx hb dL_law_846 (lv_at hl 4 rfl) ?_
  refine lv_iconst (v := (1 : Int32)) hx hb dL_law_848 (by decide) ?_
  refine lv_iadd hx hb dL_law_849 ?_
  refine va_sld hx hb hX hbl hbA hS (by rw [fa_lit 1, nI_step]; exact vp_in_nI (by omega) (by omega)) dL_law_850 ?_
  refine lv_aload_n hx hb dL_law_851 rfl (lv_at hl 0 rfl) ?_
  refine lv_iload hx hb dL_law_852 (lv_at hl 4 rfl) ?_
  refine lv_iconst (v := (2 : Int32)) hx hb dL_law_854 (by decide) ?_
  refine lv_iadd hx hb dL_law_855 ?_
  refine va_sld hx hb hX hbl hbA hS (by rw [fa_lit 2, nI_step]; exact vp_in_nI (by omega) (by omega)) dL_law_856 ?_
  refine lv_aload_n hx hb dL_law_857 rfl (lv_at hl 3 rfl) ?_
  refine runX H locs cells slots Q 858 ls [] _ (fun H locs cells slots rm mc ms Pc Qc free hMt hrc hrs hR hpre hroom => vx_runSW (n := 4) (As := [.ref a.1, .int (xs (nI i + (1 : Int32)).toNatClampNeg), .int (xs (nI i + (2 : Int32)).toNatClampNeg), .ref oa]) (rest := []) ⟨hx, hb, hml, hown, hts⟩ hMt (vx_cwSW 4 hts gL_law_L_postOf rfl hrc hrs hdS_L_postOf hR) hpre rfl rfl hl.1 rfl (lv_room (Nat.le_of_ble_eq_true rfl)) dL_law_858 hroom) hW hS hrm1 (fun c' B' o' out' H1 locs1 hXI' hout hW1 hS1 => ?_)
  refine lv_istore (lv' := [(5, .int (nI k)), (0, .ref b), (1, .ref a.1), (2, .ref ma.1), (3, .ref oa), (4, .int (nI i))]) hx hb dL_law_861 hl (by decide) rfl (fun ls hl => ?_)
  have hW1 : WD D (fun q => s.heap.size ≤ q) (MW T ma cm ++ (XW T a c' ++ (OW T oa out' ++ PW T B'))) H1 := hW1.perm (by rw [← List.append_assoc, ← List.append_assoc, ← List.append_assoc (XW T a c')]; exact List.perm_append_comm)
  refine lv_aload_n hx hb dL_law_863 rfl (lv_at hl 3 rfl) ?_
  refine lv_aload_n hx hb dL_law_864 rfl (lv_at hl 1 rfl) ?_
  refine lv_iload hx hb dL_law_865 (lv_at hl 5 rfl) ?_
  refine lv_iconst (v := (1 : Int32)) hx hb dL_law_867 (by decide) ?_
  refine lv_iadd hx hb dL_law_868 ?_
  refine va_sld hx hb hX hbl hbA hS1 (by rw [fa_lit 1, nI_step]; exact vp_in_nI (by omega) (by omega)) dL_law_869 ?_
  refine lv_aload_n hx hb dL_law_870 rfl (lv_at hl 1 rfl) ?_
  refine lv_iload hx hb dL_law_871 (lv_at hl 5 rfl) ?_
  refine lv_iconst (v := (2 : Int32)) hx hb dL_law_873 (by decide) ?_
  refine lv_iadd hx hb dL_law_874 ?_
  refine va_sld hx hb hX hbl hbA hS1 (by rw [fa_lit 2, nI_step]; exact vp_in_nI (by omega) (by omega)) dL_law_875 ?_
  refine runM H1 locs1 (cells + 6) (slots + 88) Q 876 ls [] _ _ (fun H locs cells slots rm mc ms Pc Qc free hMt hrc hrs hR hpre hroom => va_runV (n := 2) (C := RX7) (b := ma.1) (As := [.int (xs (nI i + (1 : Int32)).toNatClampNeg), .int (xs (nI i + (2 : Int32)).toNatClampNeg)]) (rest := []) ⟨hx, hb, hml, hown, hts⟩ hMt (cwV 2 hts gL_law_X7_postOf rfl hrc hrs hdV_X7_postOf hR) hpre rfl rfl hl.1 rfl (lv_room (Nat.le_of_ble_eq_true rfl)) dL_law_876 hroom) hW1 hS1 hrm2 (fun cm' r H2 locs2 hM' hr hthr hW2 hS2 => ?_)
  have hI2 : LI T D s a ma oa H2 := ⟨c', cm', B', o', S, out', hXI', hM', hWS', hW2.perm (List.Perm.trans List.perm_append_comm (by rw [List.append_assoc, List.append_assoc]))⟩
  refine lv_istore (lv' := [(6, .int r), (5, .int (nI k)), (0, .ref b), (1, .ref a.1), (2, .ref ma.1), (3, .ref oa), (4, .int (nI i))]) hx hb dL_law_879 hl (by decide) rfl (fun ls hl => ?_)
  refine lv_aload_n hx hb dL_law_881 rfl (lv_at hl 4 rfl) ?_
  obtain ⟨m_thrown, m_z, m_aside, m_saved, m_saves, m_slots, m_isKept, m_text, m_length, m_sums, m_numbers, m_read, m_reads⟩ := cm'
  obtain ⟨m_a, m_z_a, m_aside_a, m_saved_a, m_slots_a, m_isKept_a, m_text_a, m_sums_a, m_numbers_a, m_read_a⟩ := ma
  have hthr : m_thrown = nI k := hthr
  refine callPi (va_runV (n := 0) (C := RX7) (b := m_a) (As := []) (rest := []) ⟨hx, hb, hml, hown, hts⟩ (c_X7_thrown l D T m_a m_z_a m_aside_a m_saved_a m_slots_a m_isKept_a m_text_a m_sums_a m_numbers_a m_read_a m_thrown m_z m_aside m_saved m_saves m_slots m_isKept m_text m_length m_sums m_numbers m_read m_reads m_thrown rfl) (cwV 0 hts gL_law_X7_thrown rfl rfl rfl hdV_X7_thrown ⟨Nat.le_of_ble_eq_true rfl, Nat.le_of_ble_eq_true rfl⟩) (preBV hW2.fst.1 hK hN (ci := 7) rfl 0 rfl) rfl rfl hl.1 rfl (lv_room (Nat.le_of_ble_eq_true rfl)) dL_law_882 (rm_room hrm2 (by decide) (by decide))) ?_
  refine lv_iload hx hb dL_law_885 (lv_at hl 1 rfl) ?_
  refine lv_icmp_eq (tgt := 892) hx hb dL_law_887 (by decide) (fun _ => ?_) (fun hne => absurd hthr hne)
  refine lv_iload hx hb dL_law_892 (lv_at hl 1 rfl) ?_
  refine lv_if_ne (tgt := 909) hx hb dL_law_894 (by decide) (fun _ => ?_) (fun hk0 => ?_)
  · refine lv_goto (tgt := 1297) hx hb dL_law_909 (by decide) ?_
    exact kk H2 locs2 ls hI2 hS2 (lv_sub hl [2, 3, 4, 5, 6] rfl)
  · have hk9 : k = 0 := ik0 (by omega) hk0
    have hrv := hr hk9
    have hov := hout hk9
    have hWo : va_P D vwCl (OW T oa out') H2 := (WD.split.mp (WD.split.mp hW2).2.1).2.1.fst.1
    refine lv_aload_n hx hb dL_law_897 rfl (lv_at hl 5 rfl) ?_
    refine lv_iconst (v := (0 : Int32)) hx hb dL_law_898 (by decide) ?_
    refine va_lald (D := D) hx hb hK hWo 0 3 rfl rfl (gd_in (by decide)) dL_law_899 ?_
    refine lv_iload hx hb dL_law_900 (lv_at hl 0 rfl) ?_
    refine lv_i2l hx hb dL_law_902 rfl ?_
    refine W.lcmp hx hb dL_law_903 ?_
    refine lv_if_eq (tgt := 909) hx hb dL_law_904 (by decide) (fun _ => ?_) (fun hne => absurd (by rw [show (0 : Int32).toNatClampNeg = 0 from by decide, hov, hrv]; exact lg_same _) hne)
    refine lv_goto (tgt := 1297) hx hb dL_law_909 (by decide) ?_
    exact kk H2 locs2 ls hI2 hS2 (lv_sub hl [2, 3, 4, 5, 6] rfl)
set_option maxHeartbeats 4000000 in
set_option maxRecDepth 100000 in
theorem law_ribbonOf {p : Program} {l : Launch} {e : Env} {s : State} {m : MethodId} {args : Array Value} {below : List Frame} {meth : Method} {cd : Code} {D : va_G} {T : TY} {b L i : Nat} {xs : Nat → Int32} {a : XA} {ma : MA} {oa : Nat} {H : Heap} {locs : List Loc} {cells slots : Nat} {Q : State → Prop} {ls : Array Slot} (C : LX p l s m args cd D T b L xs) (hL : L ≤ 2048) (hi : i + 4 ≤ L) (hI : LI T D s a ma oa H) (hS : va_S (fun q => s.heap.size ≤ q) s.heap H locs) (hl : lv_has ls 9 [(0, .ref b), (1, .ref a.1), (2, .ref ma.1), (3, .ref oa), (4, .int (nI i))]) (hrm : cells + 12 ≤ room_1.cells ∧ slots + 176 ≤ room_1.slots)
    (kk : ∀ (H1 : Heap) (locs1 : List Loc) (ls1 : Array Slot), LI T D s a ma oa H1 → va_S (fun q => s.heap.size ≤ q) s.heap H1 locs1 → lv_has ls1 9 [(0, .ref b), (1, .ref a.1), (2, .ref ma.1), (3, .ref oa), (4, .int (nI i))] → W p l e room_1 s m args below meth cd H1 locs1 (cells + 6) (slots + 88) Q (F0 m 1297 ls1 [])) :
    W p l e room_1 s m args below meth cd H locs cells slots Q (F0 m 912 ls []) := by
  obtain ⟨hx, hb, hml, hown, hts, hK, hN, hZ, hfl, hX, hbl⟩ := C
  obtain ⟨c, cm, B, o, S, out, hXI, hM, hWS, hW⟩ := hI
  have hbA : ¬ (fun q : Nat => s.heap.size ≤ q) b := Nat.not_le.mpr hbl
  have hrm1 : cells + 6 ≤ room_1.cells ∧ slots + 88 ≤ room_1.slots := ⟨by omega, by omega⟩
  have hrm2 : cells + 6 + 6 ≤ room_1.cells ∧ slots + 88 + 88 ≤ room_1.slots := hrm
  obtain ⟨k, v, hk3, runX, runM⟩ := h_ribbonOf (a := a) (ma := ma) (oa := oa) (T := T) (R := MW T ma cm) (p := p) (l := l) (e := e) (s := s) (m := m) (args := args) (below := below) (meth := meth) (cd := cd) (out := out) hfl hK hN hZ hXI hM hWS (xs (nI i + (1 : Int32)).toNatClampNeg) (xs (nI i + (2 : Int32)).toNatClampNeg)
  have hWS' := hWS
  refine lv_aload_n hx hb dL_law_912 rfl (lv_at hl 1 rfl) ?_
  refine lv_aload_n hx hb dL_law_913 rfl (lv_at hl 0 rfl) ?_
  refine lv_iload hx hb dL_law_914 (lv_at hl 4 rfl) ?_
  refine lv_iconst (v := (1 : Int32)) hx hb dL_law_916 (by decide) ?_
  refine lv_iadd hx hb dL_law_917 ?_
  refine va_sld hx hb hX hbl hbA hS (by rw [fa_lit 1, nI_step]; exact vp_in_nI (by omega) (by omega)) dL_law_918 ?_
  refine lv_aload_n hx hb dL_law_919 rfl (lv_at hl 0 rfl) ?_
  refine lv_iload hx hb dL_law_920 (lv_at hl 4 rfl) ?_
  refine lv_iconst (v := (2 : Int32)) hx hb dL_law_922 (by decide) ?_
  refine lv_iadd hx hb dL_law_923 ?_
  refine va_sld hx hb hX hbl hbA hS (by rw [fa_lit 2, nI_step]; exact vp_in_nI (by omega) (by omega)) dL_law_924 ?_
  refine lv_aload_n hx hb dL_law_925 rfl (lv_at hl 3 rfl) ?_
  refine runX H locs cells slots Q 926 ls [] _ (fun H locs cells slots rm mc ms Pc Qc free hMt hrc hrs hR hpre hroom => vx_runSW (n := 4) (As := [.ref a.1, .int (xs (nI i + (1 : Int32)).toNatClampNeg), .int (xs (nI i + (2 : Int32)).toNatClampNeg), .ref oa]) (rest := []) ⟨hx, hb, hml, hown, hts⟩ hMt (vx_cwSW 4 hts gL_law_L_ribbonOf rfl hrc hrs hdS_L_ribbonOf hR) hpre rfl rfl hl.1 rfl (lv_room (Nat.le_of_ble_eq_true rfl)) dL_law_926 hroom) hW hS hrm1 (fun c' B' o' out' H1 locs1 hXI' hout hW1 hS1 => ?_)
  refine lv_istore (lv' := [(5, .int (nI k)), (0, .ref b), (1, .ref a.1), (2, .ref ma.1), (3, .ref oa), (4, .int (nI i))]) hx hb dL_law_929 hl (by decide) rfl (fun ls hl => ?_)
  have hW1 : WD D (fun q => s.heap.size ≤ q) (MW T ma cm ++ (XW T a c' ++ (OW T oa out' ++ PW T B'))) H1 := hW1.perm (by rw [← List.append_assoc, ← List.append_assoc, ← List.append_assoc (XW T a c')]; exact List.perm_append_comm)
  refine lv_aload_n hx hb dL_law_931 rfl (lv_at hl 3 rfl) ?_
  refine lv_aload_n hx hb dL_law_932 rfl (lv_at hl 1 rfl) ?_
  refine lv_iload hx hb dL_law_933 (lv_at hl 5 rfl) ?_
  refine lv_iconst (v := (1 : Int32)) hx hb dL_law_935 (by decide) ?_
  refine lv_iadd hx hb dL_law_936 ?_
  refine va_sld hx hb hX hbl hbA hS1 (by rw [fa_lit 1, nI_step]; exact vp_in_nI (by omega) (by omega)) dL_law_937 ?_
  refine lv_aload_n hx hb dL_law_938 rfl (lv_at hl 1 rfl) ?_
  refine lv_iload hx hb dL_law_939 (lv_at hl 5 rfl) ?_
  refine lv_iconst (v := (2 : Int32)) hx hb dL_law_941 (by decide) ?_
  refine lv_iadd hx hb dL_law_942 ?_
  refine va_sld hx hb hX hbl hbA hS1 (by rw [fa_lit 2, nI_step]; exact vp_in_nI (by omega) (by omega)) dL_law_943 ?_
  refine runM H1 locs1 (cells + 6) (slots + 88) Q 944 ls [] _ _ (fun H locs cells slots rm mc ms Pc Qc free hMt hrc hrs hR hpre hroom => va_runV (n := 2) (C := RX7) (b := ma.1) (As := [.int (xs (nI i + (1 : Int32)).toNatClampNeg), .int (xs (nI i + (2 : Int32)).toNatClampNeg)]) (rest := []) ⟨hx, hb, hml, hown, hts⟩ hMt (cwV 2 hts gL_law_X7_ribbonOf rfl hrc hrs hdV_X7_ribbonOf hR) hpre rfl rfl hl.1 rfl (lv_room (Nat.le_of_ble_eq_true rfl)) dL_law_944 hroom) hW1 hS1 hrm2 (fun cm' r H2 locs2 hM' hr hthr hW2 hS2 => ?_)
  have hI2 : LI T D s a ma oa H2 := ⟨c', cm', B', o', S, out', hXI', hM', hWS', hW2.perm (List.Perm.trans List.perm_append_comm (by rw [List.append_assoc, List.append_assoc]))⟩
  refine lv_istore (lv' := [(6, .int r), (5, .int (nI k)), (0, .ref b), (1, .ref a.1), (2, .ref ma.1), (3, .ref oa), (4, .int (nI i))]) hx hb dL_law_947 hl (by decide) rfl (fun ls hl => ?_)
  refine lv_aload_n hx hb dL_law_949 rfl (lv_at hl 4 rfl) ?_
  obtain ⟨m_thrown, m_z, m_aside, m_saved, m_saves, m_slots, m_isKept, m_text, m_length, m_sums, m_numbers, m_read, m_reads⟩ := cm'
  obtain ⟨m_a, m_z_a, m_aside_a, m_saved_a, m_slots_a, m_isKept_a, m_text_a, m_sums_a, m_numbers_a, m_read_a⟩ := ma
  have hthr : m_thrown = nI k := hthr
  refine callPi (va_runV (n := 0) (C := RX7) (b := m_a) (As := []) (rest := []) ⟨hx, hb, hml, hown, hts⟩ (c_X7_thrown l D T m_a m_z_a m_aside_a m_saved_a m_slots_a m_isKept_a m_text_a m_sums_a m_numbers_a m_read_a m_thrown m_z m_aside m_saved m_saves m_slots m_isKept m_text m_length m_sums m_numbers m_read m_reads m_thrown rfl) (cwV 0 hts gL_law_X7_thrown rfl rfl rfl hdV_X7_thrown ⟨Nat.le_of_ble_eq_true rfl, Nat.le_of_ble_eq_true rfl⟩) (preBV hW2.fst.1 hK hN (ci := 7) rfl 0 rfl) rfl rfl hl.1 rfl (lv_room (Nat.le_of_ble_eq_true rfl)) dL_law_950 (rm_room hrm2 (by decide) (by decide))) ?_
  refine lv_iload hx hb dL_law_953 (lv_at hl 1 rfl) ?_
  refine lv_icmp_eq (tgt := 960) hx hb dL_law_955 (by decide) (fun _ => ?_) (fun hne => absurd hthr hne)
  refine lv_iload hx hb dL_law_960 (lv_at hl 1 rfl) ?_
  refine lv_if_ne (tgt := 977) hx hb dL_law_962 (by decide) (fun _ => ?_) (fun hk0 => ?_)
  · refine lv_goto (tgt := 1297) hx hb dL_law_977 (by decide) ?_
    exact kk H2 locs2 ls hI2 hS2 (lv_sub hl [2, 3, 4, 5, 6] rfl)
  · have hk9 : k = 0 := ik0 (by omega) hk0
    have hrv := hr hk9
    have hov := hout hk9
    have hWo : va_P D vwCl (OW T oa out') H2 := (WD.split.mp (WD.split.mp hW2).2.1).2.1.fst.1
    refine lv_aload_n hx hb dL_law_965 rfl (lv_at hl 5 rfl) ?_
    refine lv_iconst (v := (0 : Int32)) hx hb dL_law_966 (by decide) ?_
    refine va_lald (D := D) hx hb hK hWo 0 3 rfl rfl (gd_in (by decide)) dL_law_967 ?_
    refine lv_iload hx hb dL_law_968 (lv_at hl 0 rfl) ?_
    refine lv_i2l hx hb dL_law_970 rfl ?_
    refine W.lcmp hx hb dL_law_971 ?_
    refine lv_if_eq (tgt := 977) hx hb dL_law_972 (by decide) (fun _ => ?_) (fun hne => absurd (by rw [show (0 : Int32).toNatClampNeg = 0 from by decide, hov, hrv]; exact lg_same _) hne)
    refine lv_goto (tgt := 1297) hx hb dL_law_977 (by decide) ?_
    exact kk H2 locs2 ls hI2 hS2 (lv_sub hl [2, 3, 4, 5, 6] rfl)
set_option maxHeartbeats 4000000 in
set_option maxRecDepth 100000 in
theorem law_count {p : Program} {l : Launch} {e : Env} {s : State} {m : MethodId} {args : Array Value} {below : List Frame} {meth : Method} {cd : Code} {D : va_G} {T : TY} {b L i : Nat} {xs : Nat → Int32} {a : XA} {ma : MA} {oa : Nat} {H : Heap} {locs : List Loc} {cells slots : Nat} {Q : State → Prop} {ls : Array Slot} (C : LX p l s m args cd D T b L xs) (hL : L ≤ 2048) (hi : i + 4 ≤ L) (hI : LI T D s a ma oa H) (hS : va_S (fun q => s.heap.size ≤ q) s.heap H locs) (hl : lv_has ls 9 [(0, .ref b), (1, .ref a.1), (2, .ref ma.1), (3, .ref oa), (4, .int (nI i))]) (hrm : cells + 12 ≤ room_1.cells ∧ slots + 176 ≤ room_1.slots)
    (kk : ∀ (H1 : Heap) (locs1 : List Loc) (ls1 : Array Slot), LI T D s a ma oa H1 → va_S (fun q => s.heap.size ≤ q) s.heap H1 locs1 → lv_has ls1 9 [(0, .ref b), (1, .ref a.1), (2, .ref ma.1), (3, .ref oa), (4, .int (nI i))] → W p l e room_1 s m args below meth cd H1 locs1 (cells + 6) (slots + 88) Q (F0 m 1297 ls1 [])) :
    W p l e room_1 s m args below meth cd H locs cells slots Q (F0 m 980 ls []) := by
  obtain ⟨hx, hb, hml, hown, hts, hK, hN, hZ, hfl, hX, hbl⟩ := C
  obtain ⟨c, cm, B, o, S, out, hXI, hM, hWS, hW⟩ := hI
  have hbA : ¬ (fun q : Nat => s.heap.size ≤ q) b := Nat.not_le.mpr hbl
  have hrm1 : cells + 6 ≤ room_1.cells ∧ slots + 88 ≤ room_1.slots := ⟨by omega, by omega⟩
  have hrm2 : cells + 6 + 6 ≤ room_1.cells ∧ slots + 88 + 88 ≤ room_1.slots := hrm
  obtain ⟨k, v, hk3, runX, runM⟩ := h_count (a := a) (ma := ma) (oa := oa) (T := T) (R := MW T ma cm) (p := p) (l := l) (e := e) (s := s) (m := m) (args := args) (below := below) (meth := meth) (cd := cd) (out := out) hfl hK hN hZ hXI hM hWS (xs (nI i + (1 : Int32)).toNatClampNeg)
  have hWS' := hWS
  refine lv_aload_n hx hb dL_law_980 rfl (lv_at hl 1 rfl) ?_
  refine lv_aload_n hx hb dL_law_981 rfl (lv_at hl 0 rfl) ?_
  refine lv_iload hx hb dL_law_982 (lv_at hl 4 rfl) ?_
  refine lv_iconst (v := (1 : Int32)) hx hb dL_law_984 (by decide) ?_
  refine lv_iadd hx hb dL_law_985 ?_
  refine va_sld hx hb hX hbl hbA hS (by rw [fa_lit 1, nI_step]; exact vp_in_nI (by omega) (by omega)) dL_law_986 ?_
  refine lv_aload_n hx hb dL_law_987 rfl (lv_at hl 3 rfl) ?_
  refine runX H locs cells slots Q 988 ls [] _ (fun H locs cells slots rm mc ms Pc Qc free hMt hrc hrs hR hpre hroom => vx_runSW (n := 3) (As := [.ref a.1, .int (xs (nI i + (1 : Int32)).toNatClampNeg), .ref oa]) (rest := []) ⟨hx, hb, hml, hown, hts⟩ hMt (vx_cwSW 3 hts gL_law_L_count rfl hrc hrs hdS_L_count hR) hpre rfl rfl hl.1 rfl (lv_room (Nat.le_of_ble_eq_true rfl)) dL_law_988 hroom) hW hS hrm1 (fun c' B' o' out' H1 locs1 hXI' hout hW1 hS1 => ?_)
  refine lv_istore (lv' := [(5, .int (nI k)), (0, .ref b), (1, .ref a.1), (2, .ref ma.1), (3, .ref oa), (4, .int (nI i))]) hx hb dL_law_991 hl (by decide) rfl (fun ls hl => ?_)
  have hW1 : WD D (fun q => s.heap.size ≤ q) (MW T ma cm ++ (XW T a c' ++ (OW T oa out' ++ PW T B'))) H1 := hW1.perm (by rw [← List.append_assoc, ← List.append_assoc, ← List.append_assoc (XW T a c')]; exact List.perm_append_comm)
  refine lv_aload_n hx hb dL_law_993 rfl (lv_at hl 3 rfl) ?_
  refine lv_aload_n hx hb dL_law_994 rfl (lv_at hl 1 rfl) ?_
  refine lv_iload hx hb dL_law_995 (lv_at hl 5 rfl) ?_
  refine lv_iconst (v := (1 : Int32)) hx hb dL_law_997 (by decide) ?_
  refine lv_iadd hx hb dL_law_998 ?_
  refine va_sld hx hb hX hbl hbA hS1 (by rw [fa_lit 1, nI_step]; exact vp_in_nI (by omega) (by omega)) dL_law_999 ?_
  refine runM H1 locs1 (cells + 6) (slots + 88) Q 1000 ls [] _ _ (fun H locs cells slots rm mc ms Pc Qc free hMt hrc hrs hR hpre hroom => va_runV (n := 1) (C := RX7) (b := ma.1) (As := [.int (xs (nI i + (1 : Int32)).toNatClampNeg)]) (rest := []) ⟨hx, hb, hml, hown, hts⟩ hMt (cwV 1 hts gL_law_X7_count rfl hrc hrs hdV_X7_count hR) hpre rfl rfl hl.1 rfl (lv_room (Nat.le_of_ble_eq_true rfl)) dL_law_1000 hroom) hW1 hS1 hrm2 (fun cm' r H2 locs2 hM' hr hthr hW2 hS2 => ?_)
  have hI2 : LI T D s a ma oa H2 := ⟨c', cm', B', o', S, out', hXI', hM', hWS', hW2.perm (List.Perm.trans List.perm_append_comm (by rw [List.append_assoc, List.append_assoc]))⟩
  refine lv_istore (lv' := [(6, .int r), (5, .int (nI k)), (0, .ref b), (1, .ref a.1), (2, .ref ma.1), (3, .ref oa), (4, .int (nI i))]) hx hb dL_law_1003 hl (by decide) rfl (fun ls hl => ?_)
  refine lv_aload_n hx hb dL_law_1005 rfl (lv_at hl 4 rfl) ?_
  obtain ⟨m_thrown, m_z, m_aside, m_saved, m_saves, m_slots, m_isKept, m_text, m_length, m_sums, m_numbers, m_read, m_reads⟩ := cm'
  obtain ⟨m_a, m_z_a, m_aside_a, m_saved_a, m_slots_a, m_isKept_a, m_text_a, m_sums_a, m_numbers_a, m_read_a⟩ := ma
  have hthr : m_thrown = nI k := hthr
  refine callPi (va_runV (n := 0) (C := RX7) (b := m_a) (As := []) (rest := []) ⟨hx, hb, hml, hown, hts⟩ (c_X7_thrown l D T m_a m_z_a m_aside_a m_saved_a m_slots_a m_isKept_a m_text_a m_sums_a m_numbers_a m_read_a m_thrown m_z m_aside m_saved m_saves m_slots m_isKept m_text m_length m_sums m_numbers m_read m_reads m_thrown rfl) (cwV 0 hts gL_law_X7_thrown rfl rfl rfl hdV_X7_thrown ⟨Nat.le_of_ble_eq_true rfl, Nat.le_of_ble_eq_true rfl⟩) (preBV hW2.fst.1 hK hN (ci := 7) rfl 0 rfl) rfl rfl hl.1 rfl (lv_room (Nat.le_of_ble_eq_true rfl)) dL_law_1006 (rm_room hrm2 (by decide) (by decide))) ?_
  refine lv_iload hx hb dL_law_1009 (lv_at hl 1 rfl) ?_
  refine lv_icmp_eq (tgt := 1016) hx hb dL_law_1011 (by decide) (fun _ => ?_) (fun hne => absurd hthr hne)
  refine lv_iload hx hb dL_law_1016 (lv_at hl 1 rfl) ?_
  refine lv_if_ne (tgt := 1033) hx hb dL_law_1018 (by decide) (fun _ => ?_) (fun hk0 => ?_)
  · refine lv_goto (tgt := 1297) hx hb dL_law_1033 (by decide) ?_
    exact kk H2 locs2 ls hI2 hS2 (lv_sub hl [2, 3, 4, 5, 6] rfl)
  · have hk9 : k = 0 := ik0 (by omega) hk0
    have hrv := hr hk9
    have hov := hout hk9
    have hWo : va_P D vwCl (OW T oa out') H2 := (WD.split.mp (WD.split.mp hW2).2.1).2.1.fst.1
    refine lv_aload_n hx hb dL_law_1021 rfl (lv_at hl 5 rfl) ?_
    refine lv_iconst (v := (0 : Int32)) hx hb dL_law_1022 (by decide) ?_
    refine va_lald (D := D) hx hb hK hWo 0 3 rfl rfl (gd_in (by decide)) dL_law_1023 ?_
    refine lv_iload hx hb dL_law_1024 (lv_at hl 0 rfl) ?_
    refine lv_i2l hx hb dL_law_1026 rfl ?_
    refine W.lcmp hx hb dL_law_1027 ?_
    refine lv_if_eq (tgt := 1033) hx hb dL_law_1028 (by decide) (fun _ => ?_) (fun hne => absurd (by rw [show (0 : Int32).toNatClampNeg = 0 from by decide, hov, hrv]; exact lg_same _) hne)
    refine lv_goto (tgt := 1297) hx hb dL_law_1033 (by decide) ?_
    exact kk H2 locs2 ls hI2 hS2 (lv_sub hl [2, 3, 4, 5, 6] rfl)
set_option maxHeartbeats 4000000 in
set_option maxRecDepth 100000 in
theorem law_ifSwapped {p : Program} {l : Launch} {e : Env} {s : State} {m : MethodId} {args : Array Value} {below : List Frame} {meth : Method} {cd : Code} {D : va_G} {T : TY} {b L i : Nat} {xs : Nat → Int32} {a : XA} {ma : MA} {oa : Nat} {H : Heap} {locs : List Loc} {cells slots : Nat} {Q : State → Prop} {ls : Array Slot} (C : LX p l s m args cd D T b L xs) (hL : L ≤ 2048) (hi : i + 4 ≤ L) (hI : LI T D s a ma oa H) (hS : va_S (fun q => s.heap.size ≤ q) s.heap H locs) (hl : lv_has ls 9 [(0, .ref b), (1, .ref a.1), (2, .ref ma.1), (3, .ref oa), (4, .int (nI i))]) (hrm : cells + 12 ≤ room_1.cells ∧ slots + 176 ≤ room_1.slots)
    (kk : ∀ (H1 : Heap) (locs1 : List Loc) (ls1 : Array Slot), LI T D s a ma oa H1 → va_S (fun q => s.heap.size ≤ q) s.heap H1 locs1 → lv_has ls1 9 [(0, .ref b), (1, .ref a.1), (2, .ref ma.1), (3, .ref oa), (4, .int (nI i))] → W p l e room_1 s m args below meth cd H1 locs1 (cells + 6) (slots + 88) Q (F0 m 1297 ls1 [])) :
    W p l e room_1 s m args below meth cd H locs cells slots Q (F0 m 1036 ls []) := by
  obtain ⟨hx, hb, hml, hown, hts, hK, hN, hZ, hfl, hX, hbl⟩ := C
  obtain ⟨c, cm, B, o, S, out, hXI, hM, hWS, hW⟩ := hI
  have hbA : ¬ (fun q : Nat => s.heap.size ≤ q) b := Nat.not_le.mpr hbl
  have hrm1 : cells + 6 ≤ room_1.cells ∧ slots + 88 ≤ room_1.slots := ⟨by omega, by omega⟩
  have hrm2 : cells + 6 + 6 ≤ room_1.cells ∧ slots + 88 + 88 ≤ room_1.slots := hrm
  obtain ⟨k, v, hk3, runX, runM⟩ := h_ifSwapped (a := a) (ma := ma) (oa := oa) (T := T) (R := MW T ma cm) (p := p) (l := l) (e := e) (s := s) (m := m) (args := args) (below := below) (meth := meth) (cd := cd) (out := out) hfl hK hN hZ hXI hM hWS (xs (nI i + (1 : Int32)).toNatClampNeg) (xs (nI i + (2 : Int32)).toNatClampNeg)
  have hWS' := hWS
  refine lv_aload_n hx hb dL_law_1036 rfl (lv_at hl 1 rfl) ?_
  refine lv_aload_n hx hb dL_law_1037 rfl (lv_at hl 0 rfl) ?_
  refine lv_iload hx hb dL_law_1038 (lv_at hl 4 rfl) ?_
  refine lv_iconst (v := (1 : Int32)) hx hb dL_law_1040 (by decide) ?_
  refine lv_iadd hx hb dL_law_1041 ?_
  refine va_sld hx hb hX hbl hbA hS (by rw [fa_lit 1, nI_step]; exact vp_in_nI (by omega) (by omega)) dL_law_1042 ?_
  refine lv_aload_n hx hb dL_law_1043 rfl (lv_at hl 0 rfl) ?_
  refine lv_iload hx hb dL_law_1044 (lv_at hl 4 rfl) ?_
  refine lv_iconst (v := (2 : Int32)) hx hb dL_law_1046 (by decide) ?_
  refine lv_iadd hx hb dL_law_1047 ?_
  refine va_sld hx hb hX hbl hbA hS (by rw [fa_lit 2, nI_step]; exact vp_in_nI (by omega) (by omega)) dL_law_1048 ?_
  refine lv_aload_n hx hb dL_law_1049 rfl (lv_at hl 3 rfl) ?_
  refine runX H locs cells slots Q 1050 ls [] _ (fun H locs cells slots rm mc ms Pc Qc free hMt hrc hrs hR hpre hroom => vx_runSW (n := 4) (As := [.ref a.1, .int (xs (nI i + (1 : Int32)).toNatClampNeg), .int (xs (nI i + (2 : Int32)).toNatClampNeg), .ref oa]) (rest := []) ⟨hx, hb, hml, hown, hts⟩ hMt (vx_cwSW 4 hts gL_law_L_ifSwapped rfl hrc hrs hdS_L_ifSwapped hR) hpre rfl rfl hl.1 rfl (lv_room (Nat.le_of_ble_eq_true rfl)) dL_law_1050 hroom) hW hS hrm1 (fun c' B' o' out' H1 locs1 hXI' hout hW1 hS1 => ?_)
  refine lv_istore (lv' := [(5, .int (nI k)), (0, .ref b), (1, .ref a.1), (2, .ref ma.1), (3, .ref oa), (4, .int (nI i))]) hx hb dL_law_1053 hl (by decide) rfl (fun ls hl => ?_)
  have hW1 : WD D (fun q => s.heap.size ≤ q) (MW T ma cm ++ (XW T a c' ++ (OW T oa out' ++ PW T B'))) H1 := hW1.perm (by rw [← List.append_assoc, ← List.append_assoc, ← List.append_assoc (XW T a c')]; exact List.perm_append_comm)
  refine lv_aload_n hx hb dL_law_1055 rfl (lv_at hl 3 rfl) ?_
  refine lv_aload_n hx hb dL_law_1056 rfl (lv_at hl 1 rfl) ?_
  refine lv_iload hx hb dL_law_1057 (lv_at hl 5 rfl) ?_
  refine lv_iconst (v := (1 : Int32)) hx hb dL_law_1059 (by decide) ?_
  refine lv_iadd hx hb dL_law_1060 ?_
  refine va_sld hx hb hX hbl hbA hS1 (by rw [fa_lit 1, nI_step]; exact vp_in_nI (by omega) (by omega)) dL_law_1061 ?_
  refine lv_aload_n hx hb dL_law_1062 rfl (lv_at hl 1 rfl) ?_
  refine lv_iload hx hb dL_law_1063 (lv_at hl 5 rfl) ?_
  refine lv_iconst (v := (2 : Int32)) hx hb dL_law_1065 (by decide) ?_
  refine lv_iadd hx hb dL_law_1066 ?_
  refine va_sld hx hb hX hbl hbA hS1 (by rw [fa_lit 2, nI_step]; exact vp_in_nI (by omega) (by omega)) dL_law_1067 ?_
  refine runM H1 locs1 (cells + 6) (slots + 88) Q 1068 ls [] _ _ (fun H locs cells slots rm mc ms Pc Qc free hMt hrc hrs hR hpre hroom => va_runV (n := 2) (C := RX7) (b := ma.1) (As := [.int (xs (nI i + (1 : Int32)).toNatClampNeg), .int (xs (nI i + (2 : Int32)).toNatClampNeg)]) (rest := []) ⟨hx, hb, hml, hown, hts⟩ hMt (cwV 2 hts gL_law_X7_ifSwapped rfl hrc hrs hdV_X7_ifSwapped hR) hpre rfl rfl hl.1 rfl (lv_room (Nat.le_of_ble_eq_true rfl)) dL_law_1068 hroom) hW1 hS1 hrm2 (fun cm' r H2 locs2 hM' hr hthr hW2 hS2 => ?_)
  have hI2 : LI T D s a ma oa H2 := ⟨c', cm', B', o', S, out', hXI', hM', hWS', hW2.perm (List.Perm.trans List.perm_append_comm (by rw [List.append_assoc, List.append_assoc]))⟩
  refine lv_istore (lv' := [(6, .int r), (5, .int (nI k)), (0, .ref b), (1, .ref a.1), (2, .ref ma.1), (3, .ref oa), (4, .int (nI i))]) hx hb dL_law_1071 hl (by decide) rfl (fun ls hl => ?_)
  refine lv_aload_n hx hb dL_law_1073 rfl (lv_at hl 4 rfl) ?_
  obtain ⟨m_thrown, m_z, m_aside, m_saved, m_saves, m_slots, m_isKept, m_text, m_length, m_sums, m_numbers, m_read, m_reads⟩ := cm'
  obtain ⟨m_a, m_z_a, m_aside_a, m_saved_a, m_slots_a, m_isKept_a, m_text_a, m_sums_a, m_numbers_a, m_read_a⟩ := ma
  have hthr : m_thrown = nI k := hthr
  refine callPi (va_runV (n := 0) (C := RX7) (b := m_a) (As := []) (rest := []) ⟨hx, hb, hml, hown, hts⟩ (c_X7_thrown l D T m_a m_z_a m_aside_a m_saved_a m_slots_a m_isKept_a m_text_a m_sums_a m_numbers_a m_read_a m_thrown m_z m_aside m_saved m_saves m_slots m_isKept m_text m_length m_sums m_numbers m_read m_reads m_thrown rfl) (cwV 0 hts gL_law_X7_thrown rfl rfl rfl hdV_X7_thrown ⟨Nat.le_of_ble_eq_true rfl, Nat.le_of_ble_eq_true rfl⟩) (preBV hW2.fst.1 hK hN (ci := 7) rfl 0 rfl) rfl rfl hl.1 rfl (lv_room (Nat.le_of_ble_eq_true rfl)) dL_law_1074 (rm_room hrm2 (by decide) (by decide))) ?_
  refine lv_iload hx hb dL_law_1077 (lv_at hl 1 rfl) ?_
  refine lv_icmp_eq (tgt := 1084) hx hb dL_law_1079 (by decide) (fun _ => ?_) (fun hne => absurd hthr hne)
  refine lv_iload hx hb dL_law_1084 (lv_at hl 1 rfl) ?_
  refine lv_if_ne (tgt := 1101) hx hb dL_law_1086 (by decide) (fun _ => ?_) (fun hk0 => ?_)
  · refine lv_goto (tgt := 1297) hx hb dL_law_1101 (by decide) ?_
    exact kk H2 locs2 ls hI2 hS2 (lv_sub hl [2, 3, 4, 5, 6] rfl)
  · have hk9 : k = 0 := ik0 (by omega) hk0
    have hrv := hr hk9
    have hov := hout hk9
    have hWo : va_P D vwCl (OW T oa out') H2 := (WD.split.mp (WD.split.mp hW2).2.1).2.1.fst.1
    refine lv_aload_n hx hb dL_law_1089 rfl (lv_at hl 5 rfl) ?_
    refine lv_iconst (v := (0 : Int32)) hx hb dL_law_1090 (by decide) ?_
    refine va_lald (D := D) hx hb hK hWo 0 3 rfl rfl (gd_in (by decide)) dL_law_1091 ?_
    refine lv_iload hx hb dL_law_1092 (lv_at hl 0 rfl) ?_
    refine lv_i2l hx hb dL_law_1094 rfl ?_
    refine W.lcmp hx hb dL_law_1095 ?_
    refine lv_if_eq (tgt := 1101) hx hb dL_law_1096 (by decide) (fun _ => ?_) (fun hne => absurd (by rw [show (0 : Int32).toNatClampNeg = 0 from by decide, hov, hrv]; exact lg_same _) hne)
    refine lv_goto (tgt := 1297) hx hb dL_law_1101 (by decide) ?_
    exact kk H2 locs2 ls hI2 hS2 (lv_sub hl [2, 3, 4, 5, 6] rfl)
set_option maxHeartbeats 4000000 in
set_option maxRecDepth 100000 in
theorem law_bestOrder {p : Program} {l : Launch} {e : Env} {s : State} {m : MethodId} {args : Array Value} {below : List Frame} {meth : Method} {cd : Code} {D : va_G} {T : TY} {b L i : Nat} {xs : Nat → Int32} {a : XA} {ma : MA} {oa : Nat} {H : Heap} {locs : List Loc} {cells slots : Nat} {Q : State → Prop} {ls : Array Slot} (C : LX p l s m args cd D T b L xs) (hL : L ≤ 2048) (hi : i + 4 ≤ L) (hI : LI T D s a ma oa H) (hS : va_S (fun q => s.heap.size ≤ q) s.heap H locs) (hl : lv_has ls 9 [(0, .ref b), (1, .ref a.1), (2, .ref ma.1), (3, .ref oa), (4, .int (nI i))]) (hrm : cells + 12 ≤ room_1.cells ∧ slots + 176 ≤ room_1.slots)
    (kk : ∀ (H1 : Heap) (locs1 : List Loc) (ls1 : Array Slot), LI T D s a ma oa H1 → va_S (fun q => s.heap.size ≤ q) s.heap H1 locs1 → lv_has ls1 9 [(0, .ref b), (1, .ref a.1), (2, .ref ma.1), (3, .ref oa), (4, .int (nI i))] → W p l e room_1 s m args below meth cd H1 locs1 (cells + 6) (slots + 88) Q (F0 m 1297 ls1 [])) :
    W p l e room_1 s m args below meth cd H locs cells slots Q (F0 m 1104 ls []) := by
  obtain ⟨hx, hb, hml, hown, hts, hK, hN, hZ, hfl, hX, hbl⟩ := C
  obtain ⟨c, cm, B, o, S, out, hXI, hM, hWS, hW⟩ := hI
  have hbA : ¬ (fun q : Nat => s.heap.size ≤ q) b := Nat.not_le.mpr hbl
  have hrm1 : cells + 6 ≤ room_1.cells ∧ slots + 88 ≤ room_1.slots := ⟨by omega, by omega⟩
  have hrm2 : cells + 6 + 6 ≤ room_1.cells ∧ slots + 88 + 88 ≤ room_1.slots := hrm
  obtain ⟨k, v, hk3, runX, runM⟩ := h_bestOrder (a := a) (ma := ma) (oa := oa) (T := T) (R := MW T ma cm) (p := p) (l := l) (e := e) (s := s) (m := m) (args := args) (below := below) (meth := meth) (cd := cd) (out := out) hfl hK hN hZ hXI hM hWS (xs (nI i + (1 : Int32)).toNatClampNeg)
  have hWS' := hWS
  refine lv_aload_n hx hb dL_law_1104 rfl (lv_at hl 1 rfl) ?_
  refine lv_aload_n hx hb dL_law_1105 rfl (lv_at hl 0 rfl) ?_
  refine lv_iload hx hb dL_law_1106 (lv_at hl 4 rfl) ?_
  refine lv_iconst (v := (1 : Int32)) hx hb dL_law_1108 (by decide) ?_
  refine lv_iadd hx hb dL_law_1109 ?_
  refine va_sld hx hb hX hbl hbA hS (by rw [fa_lit 1, nI_step]; exact vp_in_nI (by omega) (by omega)) dL_law_1110 ?_
  refine lv_aload_n hx hb dL_law_1111 rfl (lv_at hl 3 rfl) ?_
  refine runX H locs cells slots Q 1112 ls [] _ (fun H locs cells slots rm mc ms Pc Qc free hMt hrc hrs hR hpre hroom => vx_runSW (n := 3) (As := [.ref a.1, .int (xs (nI i + (1 : Int32)).toNatClampNeg), .ref oa]) (rest := []) ⟨hx, hb, hml, hown, hts⟩ hMt (vx_cwSW 3 hts gL_law_L_bestOrder rfl hrc hrs hdS_L_bestOrder hR) hpre rfl rfl hl.1 rfl (lv_room (Nat.le_of_ble_eq_true rfl)) dL_law_1112 hroom) hW hS hrm1 (fun c' B' o' out' H1 locs1 hXI' hout hW1 hS1 => ?_)
  refine lv_istore (lv' := [(5, .int (nI k)), (0, .ref b), (1, .ref a.1), (2, .ref ma.1), (3, .ref oa), (4, .int (nI i))]) hx hb dL_law_1115 hl (by decide) rfl (fun ls hl => ?_)
  have hW1 : WD D (fun q => s.heap.size ≤ q) (MW T ma cm ++ (XW T a c' ++ (OW T oa out' ++ PW T B'))) H1 := hW1.perm (by rw [← List.append_assoc, ← List.append_assoc, ← List.append_assoc (XW T a c')]; exact List.perm_append_comm)
  refine lv_aload_n hx hb dL_law_1117 rfl (lv_at hl 3 rfl) ?_
  refine lv_aload_n hx hb dL_law_1118 rfl (lv_at hl 1 rfl) ?_
  refine lv_iload hx hb dL_law_1119 (lv_at hl 5 rfl) ?_
  refine lv_iconst (v := (1 : Int32)) hx hb dL_law_1121 (by decide) ?_
  refine lv_iadd hx hb dL_law_1122 ?_
  refine va_sld hx hb hX hbl hbA hS1 (by rw [fa_lit 1, nI_step]; exact vp_in_nI (by omega) (by omega)) dL_law_1123 ?_
  refine runM H1 locs1 (cells + 6) (slots + 88) Q 1124 ls [] _ _ (fun H locs cells slots rm mc ms Pc Qc free hMt hrc hrs hR hpre hroom => va_runV (n := 1) (C := RX7) (b := ma.1) (As := [.int (xs (nI i + (1 : Int32)).toNatClampNeg)]) (rest := []) ⟨hx, hb, hml, hown, hts⟩ hMt (cwV 1 hts gL_law_X7_bestOrder rfl hrc hrs hdV_X7_bestOrder hR) hpre rfl rfl hl.1 rfl (lv_room (Nat.le_of_ble_eq_true rfl)) dL_law_1124 hroom) hW1 hS1 hrm2 (fun cm' r H2 locs2 hM' hr hthr hW2 hS2 => ?_)
  have hI2 : LI T D s a ma oa H2 := ⟨c', cm', B', o', S, out', hXI', hM', hWS', hW2.perm (List.Perm.trans List.perm_append_comm (by rw [List.append_assoc, List.append_assoc]))⟩
  refine lv_istore (lv' := [(6, .int r), (5, .int (nI k)), (0, .ref b), (1, .ref a.1), (2, .ref ma.1), (3, .ref oa), (4, .int (nI i))]) hx hb dL_law_1127 hl (by decide) rfl (fun ls hl => ?_)
  refine lv_aload_n hx hb dL_law_1129 rfl (lv_at hl 4 rfl) ?_
  obtain ⟨m_thrown, m_z, m_aside, m_saved, m_saves, m_slots, m_isKept, m_text, m_length, m_sums, m_numbers, m_read, m_reads⟩ := cm'
  obtain ⟨m_a, m_z_a, m_aside_a, m_saved_a, m_slots_a, m_isKept_a, m_text_a, m_sums_a, m_numbers_a, m_read_a⟩ := ma
  have hthr : m_thrown = nI k := hthr
  refine callPi (va_runV (n := 0) (C := RX7) (b := m_a) (As := []) (rest := []) ⟨hx, hb, hml, hown, hts⟩ (c_X7_thrown l D T m_a m_z_a m_aside_a m_saved_a m_slots_a m_isKept_a m_text_a m_sums_a m_numbers_a m_read_a m_thrown m_z m_aside m_saved m_saves m_slots m_isKept m_text m_length m_sums m_numbers m_read m_reads m_thrown rfl) (cwV 0 hts gL_law_X7_thrown rfl rfl rfl hdV_X7_thrown ⟨Nat.le_of_ble_eq_true rfl, Nat.le_of_ble_eq_true rfl⟩) (preBV hW2.fst.1 hK hN (ci := 7) rfl 0 rfl) rfl rfl hl.1 rfl (lv_room (Nat.le_of_ble_eq_true rfl)) dL_law_1130 (rm_room hrm2 (by decide) (by decide))) ?_
  refine lv_iload hx hb dL_law_1133 (lv_at hl 1 rfl) ?_
  refine lv_icmp_eq (tgt := 1140) hx hb dL_law_1135 (by decide) (fun _ => ?_) (fun hne => absurd hthr hne)
  refine lv_iload hx hb dL_law_1140 (lv_at hl 1 rfl) ?_
  refine lv_if_ne (tgt := 1157) hx hb dL_law_1142 (by decide) (fun _ => ?_) (fun hk0 => ?_)
  · refine lv_goto (tgt := 1297) hx hb dL_law_1157 (by decide) ?_
    exact kk H2 locs2 ls hI2 hS2 (lv_sub hl [2, 3, 4, 5, 6] rfl)
  · have hk9 : k = 0 := ik0 (by omega) hk0
    have hrv := hr hk9
    have hov := hout hk9
    have hWo : va_P D vwCl (OW T oa out') H2 := (WD.split.mp (WD.split.mp hW2).2.1).2.1.fst.1
    refine lv_aload_n hx hb dL_law_1145 rfl (lv_at hl 5 rfl) ?_
    refine lv_iconst (v := (0 : Int32)) hx hb dL_law_1146 (by decide) ?_
    refine va_lald (D := D) hx hb hK hWo 0 3 rfl rfl (gd_in (by decide)) dL_law_1147 ?_
    refine lv_iload hx hb dL_law_1148 (lv_at hl 0 rfl) ?_
    refine lv_i2l hx hb dL_law_1150 rfl ?_
    refine W.lcmp hx hb dL_law_1151 ?_
    refine lv_if_eq (tgt := 1157) hx hb dL_law_1152 (by decide) (fun _ => ?_) (fun hne => absurd (by rw [show (0 : Int32).toNatClampNeg = 0 from by decide, hov, hrv]; exact lg_same _) hne)
    refine lv_goto (tgt := 1297) hx hb dL_law_1157 (by decide) ?_
    exact kk H2 locs2 ls hI2 hS2 (lv_sub hl [2, 3, 4, 5, 6] rfl)
set_option maxHeartbeats 4000000 in
set_option maxRecDepth 100000 in
theorem law_ifSettled {p : Program} {l : Launch} {e : Env} {s : State} {m : MethodId} {args : Array Value} {below : List Frame} {meth : Method} {cd : Code} {D : va_G} {T : TY} {b L i : Nat} {xs : Nat → Int32} {a : XA} {ma : MA} {oa : Nat} {H : Heap} {locs : List Loc} {cells slots : Nat} {Q : State → Prop} {ls : Array Slot} (C : LX p l s m args cd D T b L xs) (hL : L ≤ 2048) (hi : i + 4 ≤ L) (hI : LI T D s a ma oa H) (hS : va_S (fun q => s.heap.size ≤ q) s.heap H locs) (hl : lv_has ls 9 [(0, .ref b), (1, .ref a.1), (2, .ref ma.1), (3, .ref oa), (4, .int (nI i))]) (hrm : cells + 12 ≤ room_1.cells ∧ slots + 176 ≤ room_1.slots)
    (kk : ∀ (H1 : Heap) (locs1 : List Loc) (ls1 : Array Slot), LI T D s a ma oa H1 → va_S (fun q => s.heap.size ≤ q) s.heap H1 locs1 → lv_has ls1 9 [(0, .ref b), (1, .ref a.1), (2, .ref ma.1), (3, .ref oa), (4, .int (nI i))] → W p l e room_1 s m args below meth cd H1 locs1 (cells + 6) (slots + 88) Q (F0 m 1297 ls1 [])) :
    W p l e room_1 s m args below meth cd H locs cells slots Q (F0 m 1160 ls []) := by
  obtain ⟨hx, hb, hml, hown, hts, hK, hN, hZ, hfl, hX, hbl⟩ := C
  obtain ⟨c, cm, B, o, S, out, hXI, hM, hWS, hW⟩ := hI
  have hbA : ¬ (fun q : Nat => s.heap.size ≤ q) b := Nat.not_le.mpr hbl
  have hrm1 : cells + 6 ≤ room_1.cells ∧ slots + 88 ≤ room_1.slots := ⟨by omega, by omega⟩
  have hrm2 : cells + 6 + 6 ≤ room_1.cells ∧ slots + 88 + 88 ≤ room_1.slots := hrm
  obtain ⟨v, runX, runM⟩ := h_ifSettled (a := a) (ma := ma) (oa := oa) (T := T) (R := MW T ma cm) (p := p) (l := l) (e := e) (s := s) (m := m) (args := args) (below := below) (meth := meth) (cd := cd) (out := out) hfl hK hN hZ hXI hM hWS 
  have hWS' := hWS
  refine lv_aload_n hx hb dL_law_1160 rfl (lv_at hl 1 rfl) ?_
  refine runX H locs cells slots Q 1161 ls [] _ (fun H locs cells slots rm mc ms Pc Qc free hMt hrc hrs hR hpre hroom => va_runV (n := 0) (C := RX6) (b := a.1) (As := []) (rest := []) ⟨hx, hb, hml, hown, hts⟩ hMt (cwV 0 hts gL_law_X6_ifSettled rfl hrc hrs hdV_X6_ifSettled hR) hpre rfl rfl hl.1 rfl (lv_room (Nat.le_of_ble_eq_true rfl)) dL_law_1161 hroom) hW hS hrm1 (fun c' B' o' out' H1 locs1 hXI' hW1 hS1 => ?_)
  have hW1 : WD D (fun q => s.heap.size ≤ q) (MW T ma cm ++ (XW T a c' ++ (OW T oa out' ++ PW T B'))) H1 := hW1.perm (by rw [← List.append_assoc, ← List.append_assoc, ← List.append_assoc (XW T a c')]; exact List.perm_append_comm)
  refine lv_aload_n hx hb dL_law_1164 rfl (lv_at hl 2 rfl) ?_
  refine runM H1 locs1 (cells + 6) (slots + 88) Q 1165 ls [.int v] _ _ (fun H locs cells slots rm mc ms Pc Qc free hMt hrc hrs hR hpre hroom => va_runV (n := 0) (C := RX7) (b := ma.1) (As := []) (rest := [.int v]) ⟨hx, hb, hml, hown, hts⟩ hMt (cwV 0 hts gL_law_X7_ifSettled rfl hrc hrs hdV_X7_ifSettled hR) hpre rfl rfl hl.1 rfl (lv_room (Nat.le_of_ble_eq_true rfl)) dL_law_1165 hroom) hW1 hS1 hrm2 (fun cm' r H2 locs2 hM' hr hW2 hS2 => ?_)
  have hI2 : LI T D s a ma oa H2 := ⟨c', cm', B', o', S, out', hXI', hM', hWS', hW2.perm (List.Perm.trans List.perm_append_comm (by rw [List.append_assoc, List.append_assoc]))⟩
  obtain rfl := hr
  refine lv_icmp_eq (tgt := 1297) hx hb dL_law_1168 (by decide) (fun _ => ?_) (fun hne => absurd rfl hne)
  exact kk H2 locs2 ls hI2 hS2 (lv_sub hl [0, 1, 2, 3, 4] rfl)
set_option maxHeartbeats 4000000 in
set_option maxRecDepth 100000 in
theorem law_mainRibbon {p : Program} {l : Launch} {e : Env} {s : State} {m : MethodId} {args : Array Value} {below : List Frame} {meth : Method} {cd : Code} {D : va_G} {T : TY} {b L i : Nat} {xs : Nat → Int32} {a : XA} {ma : MA} {oa : Nat} {H : Heap} {locs : List Loc} {cells slots : Nat} {Q : State → Prop} {ls : Array Slot} (C : LX p l s m args cd D T b L xs) (hL : L ≤ 2048) (hi : i + 4 ≤ L) (hI : LI T D s a ma oa H) (hS : va_S (fun q => s.heap.size ≤ q) s.heap H locs) (hl : lv_has ls 9 [(0, .ref b), (1, .ref a.1), (2, .ref ma.1), (3, .ref oa), (4, .int (nI i))]) (hrm : cells + 12 ≤ room_1.cells ∧ slots + 176 ≤ room_1.slots)
    (kk : ∀ (H1 : Heap) (locs1 : List Loc) (ls1 : Array Slot), LI T D s a ma oa H1 → va_S (fun q => s.heap.size ≤ q) s.heap H1 locs1 → lv_has ls1 9 [(0, .ref b), (1, .ref a.1), (2, .ref ma.1), (3, .ref oa), (4, .int (nI i))] → W p l e room_1 s m args below meth cd H1 locs1 (cells + 6) (slots + 88) Q (F0 m 1297 ls1 [])) :
    W p l e room_1 s m args below meth cd H locs cells slots Q (F0 m 1173 ls []) := by
  obtain ⟨hx, hb, hml, hown, hts, hK, hN, hZ, hfl, hX, hbl⟩ := C
  obtain ⟨c, cm, B, o, S, out, hXI, hM, hWS, hW⟩ := hI
  have hbA : ¬ (fun q : Nat => s.heap.size ≤ q) b := Nat.not_le.mpr hbl
  have hrm1 : cells + 6 ≤ room_1.cells ∧ slots + 88 ≤ room_1.slots := ⟨by omega, by omega⟩
  have hrm2 : cells + 6 + 6 ≤ room_1.cells ∧ slots + 88 + 88 ≤ room_1.slots := hrm
  obtain ⟨v, runX, runM⟩ := h_mainRibbon (a := a) (ma := ma) (oa := oa) (T := T) (R := MW T ma cm) (p := p) (l := l) (e := e) (s := s) (m := m) (args := args) (below := below) (meth := meth) (cd := cd) (out := out) hfl hK hN hZ hXI hM hWS 
  have hWS' := hWS
  refine lv_aload_n hx hb dL_law_1173 rfl (lv_at hl 1 rfl) ?_
  refine runX H locs cells slots Q 1174 ls [] _ (fun H locs cells slots rm mc ms Pc Qc free hMt hrc hrs hR hpre hroom => va_runV (n := 0) (C := RX6) (b := a.1) (As := []) (rest := []) ⟨hx, hb, hml, hown, hts⟩ hMt (cwV 0 hts gL_law_X6_mainRibbon rfl hrc hrs hdV_X6_mainRibbon hR) hpre rfl rfl hl.1 rfl (lv_room (Nat.le_of_ble_eq_true rfl)) dL_law_1174 hroom) hW hS hrm1 (fun c' B' o' out' H1 locs1 hXI' hW1 hS1 => ?_)
  have hW1 : WD D (fun q => s.heap.size ≤ q) (MW T ma cm ++ (XW T a c' ++ (OW T oa out' ++ PW T B'))) H1 := hW1.perm (by rw [← List.append_assoc, ← List.append_assoc, ← List.append_assoc (XW T a c')]; exact List.perm_append_comm)
  refine lv_aload_n hx hb dL_law_1177 rfl (lv_at hl 2 rfl) ?_
  refine runM H1 locs1 (cells + 6) (slots + 88) Q 1178 ls [.int v] _ _ (fun H locs cells slots rm mc ms Pc Qc free hMt hrc hrs hR hpre hroom => va_runV (n := 0) (C := RX7) (b := ma.1) (As := []) (rest := [.int v]) ⟨hx, hb, hml, hown, hts⟩ hMt (cwV 0 hts gL_law_X7_mainRibbon rfl hrc hrs hdV_X7_mainRibbon hR) hpre rfl rfl hl.1 rfl (lv_room (Nat.le_of_ble_eq_true rfl)) dL_law_1178 hroom) hW1 hS1 hrm2 (fun cm' r H2 locs2 hM' hr hW2 hS2 => ?_)
  have hI2 : LI T D s a ma oa H2 := ⟨c', cm', B', o', S, out', hXI', hM', hWS', hW2.perm (List.Perm.trans List.perm_append_comm (by rw [List.append_assoc, List.append_assoc]))⟩
  obtain rfl := hr
  refine lv_icmp_eq (tgt := 1297) hx hb dL_law_1181 (by decide) (fun _ => ?_) (fun hne => absurd rfl hne)
  exact kk H2 locs2 ls hI2 hS2 (lv_sub hl [0, 1, 2, 3, 4] rfl)
set_option maxHeartbeats 4000000 in
set_option maxRecDepth 100000 in
theorem law_height {p : Program} {l : Launch} {e : Env} {s : State} {m : MethodId} {args : Array Value} {below : List Frame} {meth : Method} {cd : Code} {D : va_G} {T : TY} {b L i : Nat} {xs : Nat → Int32} {a : XA} {ma : MA} {oa : Nat} {H : Heap} {locs : List Loc} {cells slots : Nat} {Q : State → Prop} {ls : Array Slot} (C : LX p l s m args cd D T b L xs) (hL : L ≤ 2048) (hi : i + 4 ≤ L) (hI : LI T D s a ma oa H) (hS : va_S (fun q => s.heap.size ≤ q) s.heap H locs) (hl : lv_has ls 9 [(0, .ref b), (1, .ref a.1), (2, .ref ma.1), (3, .ref oa), (4, .int (nI i))]) (hrm : cells + 12 ≤ room_1.cells ∧ slots + 176 ≤ room_1.slots)
    (kk : ∀ (H1 : Heap) (locs1 : List Loc) (ls1 : Array Slot), LI T D s a ma oa H1 → va_S (fun q => s.heap.size ≤ q) s.heap H1 locs1 → lv_has ls1 9 [(0, .ref b), (1, .ref a.1), (2, .ref ma.1), (3, .ref oa), (4, .int (nI i))] → W p l e room_1 s m args below meth cd H1 locs1 (cells + 6) (slots + 88) Q (F0 m 1297 ls1 [])) :
    W p l e room_1 s m args below meth cd H locs cells slots Q (F0 m 1186 ls []) := by
  obtain ⟨hx, hb, hml, hown, hts, hK, hN, hZ, hfl, hX, hbl⟩ := C
  obtain ⟨c, cm, B, o, S, out, hXI, hM, hWS, hW⟩ := hI
  have hbA : ¬ (fun q : Nat => s.heap.size ≤ q) b := Nat.not_le.mpr hbl
  have hrm1 : cells + 6 ≤ room_1.cells ∧ slots + 88 ≤ room_1.slots := ⟨by omega, by omega⟩
  have hrm2 : cells + 6 + 6 ≤ room_1.cells ∧ slots + 88 + 88 ≤ room_1.slots := hrm
  obtain ⟨k, v, hk3, runX, runM⟩ := h_height (a := a) (ma := ma) (oa := oa) (T := T) (R := MW T ma cm) (p := p) (l := l) (e := e) (s := s) (m := m) (args := args) (below := below) (meth := meth) (cd := cd) (out := out) hfl hK hN hZ hXI hM hWS (xs (nI i + (1 : Int32)).toNatClampNeg)
  have hWS' := hWS
  refine lv_aload_n hx hb dL_law_1186 rfl (lv_at hl 1 rfl) ?_
  refine lv_aload_n hx hb dL_law_1187 rfl (lv_at hl 0 rfl) ?_
  refine lv_iload hx hb dL_law_1188 (lv_at hl 4 rfl) ?_
  refine lv_iconst (v := (1 : Int32)) hx hb dL_law_1190 (by decide) ?_
  refine lv_iadd hx hb dL_law_1191 ?_
  refine va_sld hx hb hX hbl hbA hS (by rw [fa_lit 1, nI_step]; exact vp_in_nI (by omega) (by omega)) dL_law_1192 ?_
  refine lv_aload_n hx hb dL_law_1193 rfl (lv_at hl 3 rfl) ?_
  refine runX H locs cells slots Q 1194 ls [] _ (fun H locs cells slots rm mc ms Pc Qc free hMt hrc hrs hR hpre hroom => vx_runSW (n := 3) (As := [.ref a.1, .int (xs (nI i + (1 : Int32)).toNatClampNeg), .ref oa]) (rest := []) ⟨hx, hb, hml, hown, hts⟩ hMt (vx_cwSW 3 hts gL_law_L_height rfl hrc hrs hdS_L_height hR) hpre rfl rfl hl.1 rfl (lv_room (Nat.le_of_ble_eq_true rfl)) dL_law_1194 hroom) hW hS hrm1 (fun c' B' o' out' H1 locs1 hXI' hout hW1 hS1 => ?_)
  refine lv_istore (lv' := [(5, .int (nI k)), (0, .ref b), (1, .ref a.1), (2, .ref ma.1), (3, .ref oa), (4, .int (nI i))]) hx hb dL_law_1197 hl (by decide) rfl (fun ls hl => ?_)
  have hW1 : WD D (fun q => s.heap.size ≤ q) (MW T ma cm ++ (XW T a c' ++ (OW T oa out' ++ PW T B'))) H1 := hW1.perm (by rw [← List.append_assoc, ← List.append_assoc, ← List.append_assoc (XW T a c')]; exact List.perm_append_comm)
  refine lv_aload_n hx hb dL_law_1199 rfl (lv_at hl 3 rfl) ?_
  refine lv_aload_n hx hb dL_law_1200 rfl (lv_at hl 1 rfl) ?_
  refine lv_iload hx hb dL_law_1201 (lv_at hl 5 rfl) ?_
  refine lv_iconst (v := (1 : Int32)) hx hb dL_law_1203 (by decide) ?_
  refine lv_iadd hx hb dL_law_1204 ?_
  refine va_sld hx hb hX hbl hbA hS1 (by rw [fa_lit 1, nI_step]; exact vp_in_nI (by omega) (by omega)) dL_law_1205 ?_
  refine runM H1 locs1 (cells + 6) (slots + 88) Q 1206 ls [] _ _ (fun H locs cells slots rm mc ms Pc Qc free hMt hrc hrs hR hpre hroom => va_runV (n := 1) (C := RX7) (b := ma.1) (As := [.int (xs (nI i + (1 : Int32)).toNatClampNeg)]) (rest := []) ⟨hx, hb, hml, hown, hts⟩ hMt (cwV 1 hts gL_law_X7_height rfl hrc hrs hdV_X7_height hR) hpre rfl rfl hl.1 rfl (lv_room (Nat.le_of_ble_eq_true rfl)) dL_law_1206 hroom) hW1 hS1 hrm2 (fun cm' r H2 locs2 hM' hr hthr hW2 hS2 => ?_)
  have hI2 : LI T D s a ma oa H2 := ⟨c', cm', B', o', S, out', hXI', hM', hWS', hW2.perm (List.Perm.trans List.perm_append_comm (by rw [List.append_assoc, List.append_assoc]))⟩
  refine lv_istore (lv' := [(6, .int r), (5, .int (nI k)), (0, .ref b), (1, .ref a.1), (2, .ref ma.1), (3, .ref oa), (4, .int (nI i))]) hx hb dL_law_1209 hl (by decide) rfl (fun ls hl => ?_)
  refine lv_aload_n hx hb dL_law_1211 rfl (lv_at hl 4 rfl) ?_
  obtain ⟨m_thrown, m_z, m_aside, m_saved, m_saves, m_slots, m_isKept, m_text, m_length, m_sums, m_numbers, m_read, m_reads⟩ := cm'
  obtain ⟨m_a, m_z_a, m_aside_a, m_saved_a, m_slots_a, m_isKept_a, m_text_a, m_sums_a, m_numbers_a, m_read_a⟩ := ma
  have hthr : m_thrown = nI k := hthr
  refine callPi (va_runV (n := 0) (C := RX7) (b := m_a) (As := []) (rest := []) ⟨hx, hb, hml, hown, hts⟩ (c_X7_thrown l D T m_a m_z_a m_aside_a m_saved_a m_slots_a m_isKept_a m_text_a m_sums_a m_numbers_a m_read_a m_thrown m_z m_aside m_saved m_saves m_slots m_isKept m_text m_length m_sums m_numbers m_read m_reads m_thrown rfl) (cwV 0 hts gL_law_X7_thrown rfl rfl rfl hdV_X7_thrown ⟨Nat.le_of_ble_eq_true rfl, Nat.le_of_ble_eq_true rfl⟩) (preBV hW2.fst.1 hK hN (ci := 7) rfl 0 rfl) rfl rfl hl.1 rfl (lv_room (Nat.le_of_ble_eq_true rfl)) dL_law_1212 (rm_room hrm2 (by decide) (by decide))) ?_
  refine lv_iload hx hb dL_law_1215 (lv_at hl 1 rfl) ?_
  refine lv_icmp_eq (tgt := 1222) hx hb dL_law_1217 (by decide) (fun _ => ?_) (fun hne => absurd hthr hne)
  refine lv_iload hx hb dL_law_1222 (lv_at hl 1 rfl) ?_
  refine lv_if_ne (tgt := 1239) hx hb dL_law_1224 (by decide) (fun _ => ?_) (fun hk0 => ?_)
  · refine lv_goto (tgt := 1297) hx hb dL_law_1239 (by decide) ?_
    exact kk H2 locs2 ls hI2 hS2 (lv_sub hl [2, 3, 4, 5, 6] rfl)
  · have hk9 : k = 0 := ik0 (by omega) hk0
    have hrv := hr hk9
    have hov := hout hk9
    have hWo : va_P D vwCl (OW T oa out') H2 := (WD.split.mp (WD.split.mp hW2).2.1).2.1.fst.1
    refine lv_aload_n hx hb dL_law_1227 rfl (lv_at hl 5 rfl) ?_
    refine lv_iconst (v := (0 : Int32)) hx hb dL_law_1228 (by decide) ?_
    refine va_lald (D := D) hx hb hK hWo 0 3 rfl rfl (gd_in (by decide)) dL_law_1229 ?_
    refine lv_iload hx hb dL_law_1230 (lv_at hl 0 rfl) ?_
    refine lv_i2l hx hb dL_law_1232 rfl ?_
    refine W.lcmp hx hb dL_law_1233 ?_
    refine lv_if_eq (tgt := 1239) hx hb dL_law_1234 (by decide) (fun _ => ?_) (fun hne => absurd (by rw [show (0 : Int32).toNatClampNeg = 0 from by decide, hov, hrv]; exact lg_same _) hne)
    refine lv_goto (tgt := 1297) hx hb dL_law_1239 (by decide) ?_
    exact kk H2 locs2 ls hI2 hS2 (lv_sub hl [2, 3, 4, 5, 6] rfl)
set_option maxHeartbeats 4000000 in
set_option maxRecDepth 100000 in
theorem law_throughShare {p : Program} {l : Launch} {e : Env} {s : State} {m : MethodId} {args : Array Value} {below : List Frame} {meth : Method} {cd : Code} {D : va_G} {T : TY} {b L i : Nat} {xs : Nat → Int32} {a : XA} {ma : MA} {oa : Nat} {H : Heap} {locs : List Loc} {cells slots : Nat} {Q : State → Prop} {ls : Array Slot} (C : LX p l s m args cd D T b L xs) (hL : L ≤ 2048) (hi : i + 4 ≤ L) (hI : LI T D s a ma oa H) (hS : va_S (fun q => s.heap.size ≤ q) s.heap H locs) (hl : lv_has ls 9 [(0, .ref b), (1, .ref a.1), (2, .ref ma.1), (3, .ref oa), (4, .int (nI i))]) (hrm : cells + 12 ≤ room_1.cells ∧ slots + 176 ≤ room_1.slots)
    (kk : ∀ (H1 : Heap) (locs1 : List Loc) (ls1 : Array Slot), LI T D s a ma oa H1 → va_S (fun q => s.heap.size ≤ q) s.heap H1 locs1 → lv_has ls1 9 [(0, .ref b), (1, .ref a.1), (2, .ref ma.1), (3, .ref oa), (4, .int (nI i))] → W p l e room_1 s m args below meth cd H1 locs1 (cells + 6) (slots + 88) Q (F0 m 1297 ls1 [])) :
    W p l e room_1 s m args below meth cd H locs cells slots Q (F0 m 1242 ls []) := by
  obtain ⟨hx, hb, hml, hown, hts, hK, hN, hZ, hfl, hX, hbl⟩ := C
  obtain ⟨c, cm, B, o, S, out, hXI, hM, hWS, hW⟩ := hI
  have hbA : ¬ (fun q : Nat => s.heap.size ≤ q) b := Nat.not_le.mpr hbl
  have hrm1 : cells + 6 ≤ room_1.cells ∧ slots + 88 ≤ room_1.slots := ⟨by omega, by omega⟩
  have hrm2 : cells + 6 + 6 ≤ room_1.cells ∧ slots + 88 + 88 ≤ room_1.slots := hrm
  obtain ⟨v, runX, runM⟩ := h_throughShare (a := a) (ma := ma) (oa := oa) (T := T) (R := MW T ma cm) (p := p) (l := l) (e := e) (s := s) (m := m) (args := args) (below := below) (meth := meth) (cd := cd) (out := out) hfl hK hN hZ hXI hM hWS 
  have hWS' := hWS
  refine lv_aload_n hx hb dL_law_1242 rfl (lv_at hl 1 rfl) ?_
  refine runX H locs cells slots Q 1243 ls [] _ (fun H locs cells slots rm mc ms Pc Qc free hMt hrc hrs hR hpre hroom => va_runV (n := 0) (C := RX6) (b := a.1) (As := []) (rest := []) ⟨hx, hb, hml, hown, hts⟩ hMt (cwV 0 hts gL_law_X6_throughShare rfl hrc hrs hdV_X6_throughShare hR) hpre rfl rfl hl.1 rfl (lv_room (Nat.le_of_ble_eq_true rfl)) dL_law_1243 hroom) hW hS hrm1 (fun c' B' o' out' H1 locs1 hXI' hW1 hS1 => ?_)
  refine lv_dstore (lv' := [(5, .double v), (0, .ref b), (1, .ref a.1), (2, .ref ma.1), (3, .ref oa), (4, .int (nI i))]) hx hb dL_law_1246 hl (by decide) rfl (fun ls hl => ?_)
  have hW1 : WD D (fun q => s.heap.size ≤ q) (MW T ma cm ++ (XW T a c' ++ (OW T oa out' ++ PW T B'))) H1 := hW1.perm (by rw [← List.append_assoc, ← List.append_assoc, ← List.append_assoc (XW T a c')]; exact List.perm_append_comm)
  refine lv_aload_n hx hb dL_law_1248 rfl (lv_at hl 3 rfl) ?_
  refine runM H1 locs1 (cells + 6) (slots + 88) Q 1249 ls [] _ _ (fun H locs cells slots rm mc ms Pc Qc free hMt hrc hrs hR hpre hroom => va_runV (n := 0) (C := RX7) (b := ma.1) (As := []) (rest := []) ⟨hx, hb, hml, hown, hts⟩ hMt (cwV 0 hts gL_law_X7_throughShare rfl hrc hrs hdV_X7_throughShare hR) hpre rfl rfl hl.1 rfl (lv_room (Nat.le_of_ble_eq_true rfl)) dL_law_1249 hroom) hW1 hS1 hrm2 (fun cm' r H2 locs2 hM' hr hW2 hS2 => ?_)
  have hI2 : LI T D s a ma oa H2 := ⟨c', cm', B', o', S, out', hXI', hM', hWS', hW2.perm (List.Perm.trans List.perm_append_comm (by rw [List.append_assoc, List.append_assoc]))⟩
  obtain rfl := hr
  refine lv_dstore (lv' := [(7, .double r), (5, .double r), (0, .ref b), (1, .ref a.1), (2, .ref ma.1), (3, .ref oa), (4, .int (nI i))]) hx hb dL_law_1252 hl (by decide) rfl (fun ls hl => ?_)
  refine lv_dload hx hb dL_law_1254 (lv_at hl 1 rfl) ?_
  refine lv_dload hx hb dL_law_1256 (lv_at hl 0 rfl) ?_
  refine lv_dcmp hx hb dL_law_1258 ?_
  refine lv_if_eq (tgt := 1280) hx hb dL_law_1259 (by decide) (fun _ => ?_) (fun hne => ?_)
  · refine lv_goto (tgt := 1297) hx hb dL_law_1280 (by decide) ?_
    exact kk H2 locs2 ls hI2 hS2 (lv_sub hl [2, 3, 4, 5, 6] rfl)
  · skip
    refine lv_dload hx hb dL_law_1262 (lv_at hl 1 rfl) ?_
    refine lv_dload hx hb dL_law_1264 (lv_at hl 1 rfl) ?_
    refine lv_dcmp hx hb dL_law_1266 ?_
    refine lv_if_eq (tgt := 1278) hx hb dL_law_1267 (by decide) (fun he => absurd he hne) (fun _ => ?_)
    refine lv_dload hx hb dL_law_1270 (lv_at hl 0 rfl) ?_
    refine lv_dload hx hb dL_law_1272 (lv_at hl 0 rfl) ?_
    refine lv_dcmp hx hb dL_law_1274 ?_
    refine lv_if_ne (tgt := 1280) hx hb dL_law_1275 (by decide) (fun _ => ?_) (fun he => absurd he hne)
    refine lv_goto (tgt := 1297) hx hb dL_law_1280 (by decide) ?_
    exact kk H2 locs2 ls hI2 hS2 (lv_sub hl [2, 3, 4, 5, 6] rfl)
set_option maxHeartbeats 4000000 in
set_option maxRecDepth 100000 in
theorem law_digest {p : Program} {l : Launch} {e : Env} {s : State} {m : MethodId} {args : Array Value} {below : List Frame} {meth : Method} {cd : Code} {D : va_G} {T : TY} {b L i : Nat} {xs : Nat → Int32} {a : XA} {ma : MA} {oa : Nat} {H : Heap} {locs : List Loc} {cells slots : Nat} {Q : State → Prop} {ls : Array Slot} (C : LX p l s m args cd D T b L xs) (hL : L ≤ 2048) (hi : i + 4 ≤ L) (hI : LI T D s a ma oa H) (hS : va_S (fun q => s.heap.size ≤ q) s.heap H locs) (hl : lv_has ls 9 [(0, .ref b), (1, .ref a.1), (2, .ref ma.1), (3, .ref oa), (4, .int (nI i))]) (hrm : cells + 12 ≤ room_1.cells ∧ slots + 176 ≤ room_1.slots)
    (kk : ∀ (H1 : Heap) (locs1 : List Loc) (ls1 : Array Slot), LI T D s a ma oa H1 → va_S (fun q => s.heap.size ≤ q) s.heap H1 locs1 → lv_has ls1 9 [(0, .ref b), (1, .ref a.1), (2, .ref ma.1), (3, .ref oa), (4, .int (nI i))] → W p l e room_1 s m args below meth cd H1 locs1 (cells + 6) (slots + 88) Q (F0 m 1297 ls1 [])) :
    W p l e room_1 s m args below meth cd H locs cells slots Q (F0 m 1283 ls []) := by
  obtain ⟨hx, hb, hml, hown, hts, hK, hN, hZ, hfl, hX, hbl⟩ := C
  obtain ⟨c, cm, B, o, S, out, hXI, hM, hWS, hW⟩ := hI
  have hbA : ¬ (fun q : Nat => s.heap.size ≤ q) b := Nat.not_le.mpr hbl
  have hrm1 : cells + 6 ≤ room_1.cells ∧ slots + 88 ≤ room_1.slots := ⟨by omega, by omega⟩
  have hrm2 : cells + 6 + 6 ≤ room_1.cells ∧ slots + 88 + 88 ≤ room_1.slots := hrm
  obtain ⟨v, runX, runM⟩ := h_digest (a := a) (ma := ma) (oa := oa) (T := T) (R := MW T ma cm) (p := p) (l := l) (e := e) (s := s) (m := m) (args := args) (below := below) (meth := meth) (cd := cd) (out := out) hfl hK hN hZ hXI hM hWS 
  have hWS' := hWS
  refine lv_aload_n hx hb dL_law_1283 rfl (lv_at hl 1 rfl) ?_
  refine runX H locs cells slots Q 1284 ls [] _ (fun H locs cells slots rm mc ms Pc Qc free hMt hrc hrs hR hpre hroom => va_runV (n := 0) (C := RX6) (b := a.1) (As := []) (rest := []) ⟨hx, hb, hml, hown, hts⟩ hMt (cwV 0 hts gL_law_X6_digest rfl hrc hrs hdV_X6_digest hR) hpre rfl rfl hl.1 rfl (lv_room (Nat.le_of_ble_eq_true rfl)) dL_law_1284 hroom) hW hS hrm1 (fun c' B' o' out' H1 locs1 hXI' hW1 hS1 => ?_)
  have hW1 : WD D (fun q => s.heap.size ≤ q) (MW T ma cm ++ (XW T a c' ++ (OW T oa out' ++ PW T B'))) H1 := hW1.perm (by rw [← List.append_assoc, ← List.append_assoc, ← List.append_assoc (XW T a c')]; exact List.perm_append_comm)
  refine lv_aload_n hx hb dL_law_1287 rfl (lv_at hl 2 rfl) ?_
  refine runM H1 locs1 (cells + 6) (slots + 88) Q 1288 ls [.long v] _ _ (fun H locs cells slots rm mc ms Pc Qc free hMt hrc hrs hR hpre hroom => va_runV (n := 0) (C := RX7) (b := ma.1) (As := []) (rest := [.long v]) ⟨hx, hb, hml, hown, hts⟩ hMt (cwV 0 hts gL_law_X7_digest rfl hrc hrs hdV_X7_digest hR) hpre rfl rfl hl.1 rfl (lv_room (Nat.le_of_ble_eq_true rfl)) dL_law_1288 hroom) hW1 hS1 hrm2 (fun cm' r H2 locs2 hM' hr hW2 hS2 => ?_)
  have hI2 : LI T D s a ma oa H2 := ⟨c', cm', B', o', S, out', hXI', hM', hWS', hW2.perm (List.Perm.trans List.perm_append_comm (by rw [List.append_assoc, List.append_assoc]))⟩
  obtain rfl := hr
  refine W.lcmp hx hb dL_law_1291 ?_
  refine lv_if_eq (tgt := 1297) hx hb dL_law_1292 (by decide) (fun _ => ?_) (fun hne => absurd (lg_same _) hne)
  exact kk H2 locs2 ls hI2 hS2 (lv_sub hl [0, 1, 2, 3, 4] rfl)
