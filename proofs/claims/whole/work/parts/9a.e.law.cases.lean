/-! ===== the law's cases, laid by wip/gen/genlaw.py ===== -/
set_option maxHeartbeats 4000000 in
set_option maxRecDepth 100000 in
theorem law_ribbon {p : Program} {l : Launch} {e : Env} {s : State} {m : MethodId} {args : Array Value} {below : List Frame} {meth : Method} {cd : Code} {D : va_G} {T : TY} {b L i : Nat} {xs : Nat → Int32} {a : XA} {ma : MA} {oa : Nat} {H : Heap} {locs : List Loc} {cells slots : Nat} {Q : State → Prop} {ls : Array Slot} (C : LX p l s m args cd D T b L xs) (hL : L ≤ 2048) (hi : i + 4 ≤ L) (hI : LI T D s a ma oa H) (hS : va_S (fun q => s.heap.size ≤ q) s.heap H locs) (hl : lv_has ls 9 [(0, .ref b), (1, .ref a.1), (2, .ref ma.1), (3, .ref oa), (4, .int (nI i))]) (hrm : cells + 12 ≤ room_1.cells ∧ slots + 176 ≤ room_1.slots)
    (kk : ∀ (H1 : Heap) (locs1 : List Loc) (ls1 : Array Slot), LI T D s a ma oa H1 → va_S (fun q => s.heap.size ≤ q) s.heap H1 locs1 → lv_has ls1 9 [(0, .ref b), (1, .ref a.1), (2, .ref ma.1), (3, .ref oa), (4, .int (nI i))] → W p l e room_1 s m args below meth cd H1 locs1 (cells + 6) (slots + 88) Q (F0 m 1297 ls1 [])) :
    W p l e room_1 s m args below meth cd H locs cells slots Q (F0 m 152 ls []) := by
  obtain ⟨hx, hb, hml, hown, hts, hK, hN, hZ, hfl, hX, hbl⟩ := C
  obtain ⟨c, cm, B, o, S, out, hXI, hM, hWS, hW⟩ := hI
  have hbA : ¬ (fun q : Nat => s.heap.size ≤ q) b := Nat.not_le.mpr hbl
  have hrm1 : cells + 6 ≤ room_1.cells ∧ slots + 88 ≤ room_1.slots := ⟨by omega, by omega⟩
  have hrm2 : cells + 6 + 6 ≤ room_1.cells ∧ slots + 88 + 88 ≤ room_1.slots := hrm
  obtain ⟨k, v, S', hWS', hk3, runX, runM⟩ := h_ribbon (a := a) (ma := ma) (oa := oa) (T := T) (R := MW T ma cm) (p := p) (l := l) (e := e) (s := s) (m := m) (args := args) (below := below) (meth := meth) (cd := cd) (out := out) hfl hK hN hZ hXI hM hWS (xs (nI i + (1 : Int32)).toNatClampNeg) (xs (nI i + (2 : Int32)).toNatClampNeg) (xs (nI i + (3 : Int32)).toNatClampNeg)
  refine lv_aload_n hx hb dL_law_152 rfl (lv_at hl 1 rfl) ?_
  refine lv_aload_n hx hb dL_law_153 rfl (lv_at hl 0 rfl) ?_
  refine lv_iload hx hb dL_law_154 (lv_at hl 4 rfl) ?_
  refine lv_iconst (v := (1 : Int32)) hx hb dL_law_156 (by decide) ?_
  refine lv_iadd hx hb dL_law_157 ?_
  refine va_sld hx hb hX hbl hbA hS (by rw [fa_lit 1, nI_step]; exact vp_in_nI (by omega) (by omega)) dL_law_158 ?_
  refine lv_aload_n hx hb dL_law_159 rfl (lv_at hl 0 rfl) ?_
  refine lv_iload hx hb dL_law_160 (lv_at hl 4 rfl) ?_
  refine lv_iconst (v := (2 : Int32)) hx hb dL_law_162 (by decide) ?_
  refine lv_iadd hx hb dL_law_163 ?_
  refine va_sld hx hb hX hbl hbA hS (by rw [fa_lit 2, nI_step]; exact vp_in_nI (by omega) (by omega)) dL_law_164 ?_
  refine lv_aload_n hx hb dL_law_165 rfl (lv_at hl 0 rfl) ?_
  refine lv_iload hx hb dL_law_166 (lv_at hl 4 rfl) ?_
  refine lv_iconst (v := (3 : Int32)) hx hb dL_law_168 (by decide) ?_
  refine lv_iadd hx hb dL_law_169 ?_
  refine va_sld hx hb hX hbl hbA hS (by rw [fa_lit 3, nI_step]; exact vp_in_nI (by omega) (by omega)) dL_law_170 ?_
  refine lv_aload_n hx hb dL_law_171 rfl (lv_at hl 3 rfl) ?_
  refine runX H locs cells slots Q 172 ls [] _ (fun H locs cells slots rm mc ms Pc Qc free hMt hrc hrs hR hpre hroom => vx_runSW (n := 5) (As := [.ref a.1, .int (xs (nI i + (1 : Int32)).toNatClampNeg), .int (xs (nI i + (2 : Int32)).toNatClampNeg), .int (xs (nI i + (3 : Int32)).toNatClampNeg), .ref oa]) (rest := []) ⟨hx, hb, hml, hown, hts⟩ hMt (vx_cwSW 5 hts gL_law_L_ribbon rfl hrc hrs hdS_L_ribbonA hR) hpre rfl rfl hl.1 rfl (lv_room (Nat.le_of_ble_eq_true rfl)) dL_law_172 hroom) hW hS hrm1 (fun c' B' o' out' H1 locs1 hXI' hout hW1 hS1 => ?_)
  refine lv_istore (lv' := [(5, .int (nI k)), (0, .ref b), (1, .ref a.1), (2, .ref ma.1), (3, .ref oa), (4, .int (nI i))]) hx hb dL_law_175 hl (by decide) rfl (fun ls hl => ?_)
  have hW1 : WD D (fun q => s.heap.size ≤ q) (MW T ma cm ++ (XW T a c' ++ (OW T oa out' ++ PW T B'))) H1 := hW1.perm (by rw [← List.append_assoc, ← List.append_assoc, ← List.append_assoc (XW T a c')]; exact List.perm_append_comm)
  refine lv_aload_n hx hb dL_law_177 rfl (lv_at hl 3 rfl) ?_
  refine lv_aload_n hx hb dL_law_178 rfl (lv_at hl 1 rfl) ?_
  refine lv_iload hx hb dL_law_179 (lv_at hl 5 rfl) ?_
  refine lv_iconst (v := (1 : Int32)) hx hb dL_law_181 (by decide) ?_
  refine lv_iadd hx hb dL_law_182 ?_
  refine va_sld hx hb hX hbl hbA hS1 (by rw [fa_lit 1, nI_step]; exact vp_in_nI (by omega) (by omega)) dL_law_183 ?_
  refine lv_aload_n hx hb dL_law_184 rfl (lv_at hl 1 rfl) ?_
  refine lv_iload hx hb dL_law_185 (lv_at hl 5 rfl) ?_
  refine lv_iconst (v := (2 : Int32)) hx hb dL_law_187 (by decide) ?_
  refine lv_iadd hx hb dL_law_188 ?_
  refine va_sld hx hb hX hbl hbA hS1 (by rw [fa_lit 2, nI_step]; exact vp_in_nI (by omega) (by omega)) dL_law_189 ?_
  refine lv_aload_n hx hb dL_law_190 rfl (lv_at hl 1 rfl) ?_
  refine lv_iload hx hb dL_law_191 (lv_at hl 5 rfl) ?_
  refine lv_iconst (v := (3 : Int32)) hx hb dL_law_193 (by decide) ?_
  refine lv_iadd hx hb dL_law_194 ?_
  refine va_sld hx hb hX hbl hbA hS1 (by rw [fa_lit 3, nI_step]; exact vp_in_nI (by omega) (by omega)) dL_law_195 ?_
  refine runM H1 locs1 (cells + 6) (slots + 88) Q 196 ls [] _ _ (fun H locs cells slots rm mc ms Pc Qc free hMt hrc hrs hR hpre hroom => va_runV (n := 3) (C := RX7) (b := ma.1) (As := [.int (xs (nI i + (1 : Int32)).toNatClampNeg), .int (xs (nI i + (2 : Int32)).toNatClampNeg), .int (xs (nI i + (3 : Int32)).toNatClampNeg)]) (rest := []) ⟨hx, hb, hml, hown, hts⟩ hMt (cwV 3 hts gL_law_X7_ribbon rfl hrc hrs hdV_X7_ribbon hR) hpre rfl rfl hl.1 rfl (lv_room (Nat.le_of_ble_eq_true rfl)) dL_law_196 hroom) hW1 hS1 hrm2 (fun cm' r H2 locs2 hM' hr hthr hW2 hS2 => ?_)
  have hI2 : LI T D s a ma oa H2 := ⟨c', cm', B', o', S', out', hXI', hM', hWS', hW2.perm (List.Perm.trans List.perm_append_comm (by rw [List.append_assoc, List.append_assoc]))⟩
  refine lv_istore (lv' := [(6, .int r), (5, .int (nI k)), (0, .ref b), (1, .ref a.1), (2, .ref ma.1), (3, .ref oa), (4, .int (nI i))]) hx hb dL_law_199 hl (by decide) rfl (fun ls hl => ?_)
  refine lv_aload_n hx hb dL_law_201 rfl (lv_at hl 4 rfl) ?_
  obtain ⟨m_thrown, m_z, m_aside, m_saved, m_saves, m_slots, m_isKept, m_text, m_length, m_sums, m_numbers, m_read, m_reads⟩ := cm'
  obtain ⟨m_a, m_z_a, m_aside_a, m_saved_a, m_slots_a, m_isKept_a, m_text_a, m_sums_a, m_numbers_a, m_read_a⟩ := ma
  have hthr : m_thrown = nI k := hthr
  refine callPi (va_runV (n := 0) (C := RX7) (b := m_a) (As := []) (rest := []) ⟨hx, hb, hml, hown, hts⟩ (c_X7_thrown l D T m_a m_z_a m_aside_a m_saved_a m_slots_a m_isKept_a m_text_a m_sums_a m_numbers_a m_read_a m_thrown m_z m_aside m_saved m_saves m_slots m_isKept m_text m_length m_sums m_numbers m_read m_reads m_thrown rfl) (cwV 0 hts gL_law_X7_thrown rfl rfl rfl hdV_X7_thrown ⟨Nat.le_of_ble_eq_true rfl, Nat.le_of_ble_eq_true rfl⟩) (preBV hW2.fst.1 hK hN (ci := 7) rfl 0 rfl) rfl rfl hl.1 rfl (lv_room (Nat.le_of_ble_eq_true rfl)) dL_law_202 (rm_room hrm2 (by decide) (by decide))) ?_
  refine lv_iload hx hb dL_law_205 (lv_at hl 1 rfl) ?_
  refine lv_icmp_eq (tgt := 212) hx hb dL_law_207 (by decide) (fun _ => ?_) (fun hne => absurd hthr hne)
  refine lv_iload hx hb dL_law_212 (lv_at hl 1 rfl) ?_
  refine lv_if_ne (tgt := 229) hx hb dL_law_214 (by decide) (fun _ => ?_) (fun hk0 => ?_)
  · refine lv_goto (tgt := 1297) hx hb dL_law_229 (by decide) ?_
    exact kk H2 locs2 ls hI2 hS2 (lv_sub hl [2, 3, 4, 5, 6] rfl)
  · have hk9 : k = 0 := ik0 (by omega) hk0
    have hrv := hr hk9
    have hov := hout hk9
    have hWo : va_P D vwCl (OW T oa out') H2 := (WD.split.mp (WD.split.mp hW2).2.1).2.1.fst.1
    refine lv_aload_n hx hb dL_law_217 rfl (lv_at hl 5 rfl) ?_
    refine lv_iconst (v := (0 : Int32)) hx hb dL_law_218 (by decide) ?_
    refine va_lald (D := D) hx hb hK hWo 0 3 rfl rfl (gd_in (by decide)) dL_law_219 ?_
    refine lv_iload hx hb dL_law_220 (lv_at hl 0 rfl) ?_
    refine lv_i2l hx hb dL_law_222 rfl ?_
    refine W.lcmp hx hb dL_law_223 ?_
    refine lv_if_eq (tgt := 229) hx hb dL_law_224 (by decide) (fun _ => ?_) (fun hne => absurd (by rw [show (0 : Int32).toNatClampNeg = 0 from by decide, hov, hrv]; exact lg_same _) hne)
    refine lv_goto (tgt := 1297) hx hb dL_law_229 (by decide) ?_
    exact kk H2 locs2 ls hI2 hS2 (lv_sub hl [2, 3, 4, 5, 6] rfl)
set_option maxHeartbeats 4000000 in
set_option maxRecDepth 100000 in
theorem law_widen {p : Program} {l : Launch} {e : Env} {s : State} {m : MethodId} {args : Array Value} {below : List Frame} {meth : Method} {cd : Code} {D : va_G} {T : TY} {b L i : Nat} {xs : Nat → Int32} {a : XA} {ma : MA} {oa : Nat} {H : Heap} {locs : List Loc} {cells slots : Nat} {Q : State → Prop} {ls : Array Slot} (C : LX p l s m args cd D T b L xs) (hL : L ≤ 2048) (hi : i + 4 ≤ L) (hI : LI T D s a ma oa H) (hS : va_S (fun q => s.heap.size ≤ q) s.heap H locs) (hl : lv_has ls 9 [(0, .ref b), (1, .ref a.1), (2, .ref ma.1), (3, .ref oa), (4, .int (nI i))]) (hrm : cells + 12 ≤ room_1.cells ∧ slots + 176 ≤ room_1.slots)
    (kk : ∀ (H1 : Heap) (locs1 : List Loc) (ls1 : Array Slot), LI T D s a ma oa H1 → va_S (fun q => s.heap.size ≤ q) s.heap H1 locs1 → lv_has ls1 9 [(0, .ref b), (1, .ref a.1), (2, .ref ma.1), (3, .ref oa), (4, .int (nI i))] → W p l e room_1 s m args below meth cd H1 locs1 (cells + 6) (slots + 88) Q (F0 m 1297 ls1 [])) :
    W p l e room_1 s m args below meth cd H locs cells slots Q (F0 m 232 ls []) := by
  obtain ⟨hx, hb, hml, hown, hts, hK, hN, hZ, hfl, hX, hbl⟩ := C
  obtain ⟨c, cm, B, o, S, out, hXI, hM, hWS, hW⟩ := hI
  have hbA : ¬ (fun q : Nat => s.heap.size ≤ q) b := Nat.not_le.mpr hbl
  have hrm1 : cells + 6 ≤ room_1.cells ∧ slots + 88 ≤ room_1.slots := ⟨by omega, by omega⟩
  have hrm2 : cells + 6 + 6 ≤ room_1.cells ∧ slots + 88 + 88 ≤ room_1.slots := hrm
  obtain ⟨k, v, S', hWS', hk3, runX, runM⟩ := h_widen (a := a) (ma := ma) (oa := oa) (T := T) (R := MW T ma cm) (p := p) (l := l) (e := e) (s := s) (m := m) (args := args) (below := below) (meth := meth) (cd := cd) (out := out) hfl hK hN hZ hXI hM hWS (xs (nI i + (1 : Int32)).toNatClampNeg) (xs (nI i + (2 : Int32)).toNatClampNeg)
  refine lv_aload_n hx hb dL_law_232 rfl (lv_at hl 1 rfl) ?_
  refine lv_aload_n hx hb dL_law_233 rfl (lv_at hl 0 rfl) ?_
  refine lv_iload hx hb dL_law_234 (lv_at hl 4 rfl) ?_
  refine lv_iconst (v := (1 : Int32)) hx hb dL_law_236 (by decide) ?_
  refine lv_iadd hx hb dL_law_237 ?_
  refine va_sld hx hb hX hbl hbA hS (by rw [fa_lit 1, nI_step]; exact vp_in_nI (by omega) (by omega)) dL_law_238 ?_
  refine lv_aload_n hx hb dL_law_239 rfl (lv_at hl 0 rfl) ?_
  refine lv_iload hx hb dL_law_240 (lv_at hl 4 rfl) ?_
  refine lv_iconst (v := (2 : Int32)) hx hb dL_law_242 (by decide) ?_
  refine lv_iadd hx hb dL_law_243 ?_
  refine va_sld hx hb hX hbl hbA hS (by rw [fa_lit 2, nI_step]; exact vp_in_nI (by omega) (by omega)) dL_law_244 ?_
  refine lv_aload_n hx hb dL_law_245 rfl (lv_at hl 3 rfl) ?_
  refine runX H locs cells slots Q 246 ls [] _ (fun H locs cells slots rm mc ms Pc Qc free hMt hrc hrs hR hpre hroom => vx_runSW (n := 4) (As := [.ref a.1, .int (xs (nI i + (1 : Int32)).toNatClampNeg), .int (xs (nI i + (2 : Int32)).toNatClampNeg), .ref oa]) (rest := []) ⟨hx, hb, hml, hown, hts⟩ hMt (vx_cwSW 4 hts gL_law_L_widen rfl hrc hrs hdS_L_widenA hR) hpre rfl rfl hl.1 rfl (lv_room (Nat.le_of_ble_eq_true rfl)) dL_law_246 hroom) hW hS hrm1 (fun c' B' o' out' H1 locs1 hXI' hout hW1 hS1 => ?_)
  refine lv_istore (lv' := [(5, .int (nI k)), (0, .ref b), (1, .ref a.1), (2, .ref ma.1), (3, .ref oa), (4, .int (nI i))]) hx hb dL_law_249 hl (by decide) rfl (fun ls hl => ?_)
  have hW1 : WD D (fun q => s.heap.size ≤ q) (MW T ma cm ++ (XW T a c' ++ (OW T oa out' ++ PW T B'))) H1 := hW1.perm (by rw [← List.append_assoc, ← List.append_assoc, ← List.append_assoc (XW T a c')]; exact List.perm_append_comm)
  refine lv_aload_n hx hb dL_law_251 rfl (lv_at hl 3 rfl) ?_
  refine lv_aload_n hx hb dL_law_252 rfl (lv_at hl 1 rfl) ?_
  refine lv_iload hx hb dL_law_253 (lv_at hl 5 rfl) ?_
  refine lv_iconst (v := (1 : Int32)) hx hb dL_law_255 (by decide) ?_
  refine lv_iadd hx hb dL_law_256 ?_
  refine va_sld hx hb hX hbl hbA hS1 (by rw [fa_lit 1, nI_step]; exact vp_in_nI (by omega) (by omega)) dL_law_257 ?_
  refine lv_aload_n hx hb dL_law_258 rfl (lv_at hl 1 rfl) ?_
  refine lv_iload hx hb dL_law_259 (lv_at hl 5 rfl) ?_
  refine lv_iconst (v := (2 : Int32)) hx hb dL_law_261 (by decide) ?_
  refine lv_iadd hx hb dL_law_262 ?_
  refine va_sld hx hb hX hbl hbA hS1 (by rw [fa_lit 2, nI_step]; exact vp_in_nI (by omega) (by omega)) dL_law_263 ?_
  refine runM H1 locs1 (cells + 6) (slots + 88) Q 264 ls [] _ _ (fun H locs cells slots rm mc ms Pc Qc free hMt hrc hrs hR hpre hroom => va_runV (n := 2) (C := RX7) (b := ma.1) (As := [.int (xs (nI i + (1 : Int32)).toNatClampNeg), .int (xs (nI i + (2 : Int32)).toNatClampNeg)]) (rest := []) ⟨hx, hb, hml, hown, hts⟩ hMt (cwV 2 hts gL_law_X7_widen rfl hrc hrs hdV_X7_widen hR) hpre rfl rfl hl.1 rfl (lv_room (Nat.le_of_ble_eq_true rfl)) dL_law_264 hroom) hW1 hS1 hrm2 (fun cm' r H2 locs2 hM' hr hthr hW2 hS2 => ?_)
  have hI2 : LI T D s a ma oa H2 := ⟨c', cm', B', o', S', out', hXI', hM', hWS', hW2.perm (List.Perm.trans List.perm_append_comm (by rw [List.append_assoc, List.append_assoc]))⟩
  refine lv_istore (lv' := [(6, .int r), (5, .int (nI k)), (0, .ref b), (1, .ref a.1), (2, .ref ma.1), (3, .ref oa), (4, .int (nI i))]) hx hb dL_law_267 hl (by decide) rfl (fun ls hl => ?_)
  refine lv_aload_n hx hb dL_law_269 rfl (lv_at hl 4 rfl) ?_
  obtain ⟨m_thrown, m_z, m_aside, m_saved, m_saves, m_slots, m_isKept, m_text, m_length, m_sums, m_numbers, m_read, m_reads⟩ := cm'
  obtain ⟨m_a, m_z_a, m_aside_a, m_saved_a, m_slots_a, m_isKept_a, m_text_a, m_sums_a, m_numbers_a, m_read_a⟩ := ma
  have hthr : m_thrown = nI k := hthr
  refine callPi (va_runV (n := 0) (C := RX7) (b := m_a) (As := []) (rest := []) ⟨hx, hb, hml, hown, hts⟩ (c_X7_thrown l D T m_a m_z_a m_aside_a m_saved_a m_slots_a m_isKept_a m_text_a m_sums_a m_numbers_a m_read_a m_thrown m_z m_aside m_saved m_saves m_slots m_isKept m_text m_length m_sums m_numbers m_read m_reads m_thrown rfl) (cwV 0 hts gL_law_X7_thrown rfl rfl rfl hdV_X7_thrown ⟨Nat.le_of_ble_eq_true rfl, Nat.le_of_ble_eq_true rfl⟩) (preBV hW2.fst.1 hK hN (ci := 7) rfl 0 rfl) rfl rfl hl.1 rfl (lv_room (Nat.le_of_ble_eq_true rfl)) dL_law_270 (rm_room hrm2 (by decide) (by decide))) ?_
  refine lv_iload hx hb dL_law_273 (lv_at hl 1 rfl) ?_
  refine lv_icmp_eq (tgt := 280) hx hb dL_law_275 (by decide) (fun _ => ?_) (fun hne => absurd hthr hne)
  refine lv_iload hx hb dL_law_280 (lv_at hl 1 rfl) ?_
  refine lv_if_ne (tgt := 297) hx hb dL_law_282 (by decide) (fun _ => ?_) (fun hk0 => ?_)
  · refine lv_goto (tgt := 1297) hx hb dL_law_297 (by decide) ?_
    exact kk H2 locs2 ls hI2 hS2 (lv_sub hl [2, 3, 4, 5, 6] rfl)
  · have hk9 : k = 0 := ik0 (by omega) hk0
    have hrv := hr hk9
    have hov := hout hk9
    have hWo : va_P D vwCl (OW T oa out') H2 := (WD.split.mp (WD.split.mp hW2).2.1).2.1.fst.1
    refine lv_aload_n hx hb dL_law_285 rfl (lv_at hl 5 rfl) ?_
    refine lv_iconst (v := (0 : Int32)) hx hb dL_law_286 (by decide) ?_
    refine va_lald (D := D) hx hb hK hWo 0 3 rfl rfl (gd_in (by decide)) dL_law_287 ?_
    refine lv_iload hx hb dL_law_288 (lv_at hl 0 rfl) ?_
    refine lv_i2l hx hb dL_law_290 rfl ?_
    refine W.lcmp hx hb dL_law_291 ?_
    refine lv_if_eq (tgt := 297) hx hb dL_law_292 (by decide) (fun _ => ?_) (fun hne => absurd (by rw [show (0 : Int32).toNatClampNeg = 0 from by decide, hov, hrv]; exact lg_same _) hne)
    refine lv_goto (tgt := 1297) hx hb dL_law_297 (by decide) ?_
    exact kk H2 locs2 ls hI2 hS2 (lv_sub hl [2, 3, 4, 5, 6] rfl)
set_option maxHeartbeats 4000000 in
set_option maxRecDepth 100000 in
theorem law_remove {p : Program} {l : Launch} {e : Env} {s : State} {m : MethodId} {args : Array Value} {below : List Frame} {meth : Method} {cd : Code} {D : va_G} {T : TY} {b L i : Nat} {xs : Nat → Int32} {a : XA} {ma : MA} {oa : Nat} {H : Heap} {locs : List Loc} {cells slots : Nat} {Q : State → Prop} {ls : Array Slot} (C : LX p l s m args cd D T b L xs) (hL : L ≤ 2048) (hi : i + 4 ≤ L) (hI : LI T D s a ma oa H) (hS : va_S (fun q => s.heap.size ≤ q) s.heap H locs) (hl : lv_has ls 9 [(0, .ref b), (1, .ref a.1), (2, .ref ma.1), (3, .ref oa), (4, .int (nI i))]) (hrm : cells + 12 ≤ room_1.cells ∧ slots + 176 ≤ room_1.slots)
    (kk : ∀ (H1 : Heap) (locs1 : List Loc) (ls1 : Array Slot), LI T D s a ma oa H1 → va_S (fun q => s.heap.size ≤ q) s.heap H1 locs1 → lv_has ls1 9 [(0, .ref b), (1, .ref a.1), (2, .ref ma.1), (3, .ref oa), (4, .int (nI i))] → W p l e room_1 s m args below meth cd H1 locs1 (cells + 6) (slots + 88) Q (F0 m 1297 ls1 [])) :
    W p l e room_1 s m args below meth cd H locs cells slots Q (F0 m 300 ls []) := by
  obtain ⟨hx, hb, hml, hown, hts, hK, hN, hZ, hfl, hX, hbl⟩ := C
  obtain ⟨c, cm, B, o, S, out, hXI, hM, hWS, hW⟩ := hI
  have hbA : ¬ (fun q : Nat => s.heap.size ≤ q) b := Nat.not_le.mpr hbl
  have hrm1 : cells + 6 ≤ room_1.cells ∧ slots + 88 ≤ room_1.slots := ⟨by omega, by omega⟩
  have hrm2 : cells + 6 + 6 ≤ room_1.cells ∧ slots + 88 + 88 ≤ room_1.slots := hrm
  obtain ⟨k, v, S', hWS', hk3, runX, runM⟩ := h_remove (a := a) (ma := ma) (oa := oa) (T := T) (R := MW T ma cm) (p := p) (l := l) (e := e) (s := s) (m := m) (args := args) (below := below) (meth := meth) (cd := cd) (out := out) hfl hK hN hZ hXI hM hWS (xs (nI i + (1 : Int32)).toNatClampNeg)
  refine lv_aload_n hx hb dL_law_300 rfl (lv_at hl 1 rfl) ?_
  refine lv_aload_n hx hb dL_law_301 rfl (lv_at hl 0 rfl) ?_
  refine lv_iload hx hb dL_law_302 (lv_at hl 4 rfl) ?_
  refine lv_iconst (v := (1 : Int32)) hx hb dL_law_304 (by decide) ?_
  refine lv_iadd hx hb dL_law_305 ?_
  refine va_sld hx hb hX hbl hbA hS (by rw [fa_lit 1, nI_step]; exact vp_in_nI (by omega) (by omega)) dL_law_306 ?_
  refine lv_aload_n hx hb dL_law_307 rfl (lv_at hl 3 rfl) ?_
  refine runX H locs cells slots Q 308 ls [] _ (fun H locs cells slots rm mc ms Pc Qc free hMt hrc hrs hR hpre hroom => vx_runSW (n := 3) (As := [.ref a.1, .int (xs (nI i + (1 : Int32)).toNatClampNeg), .ref oa]) (rest := []) ⟨hx, hb, hml, hown, hts⟩ hMt (vx_cwSW 3 hts gL_law_L_remove rfl hrc hrs hdS_L_removeA hR) hpre rfl rfl hl.1 rfl (lv_room (Nat.le_of_ble_eq_true rfl)) dL_law_308 hroom) hW hS hrm1 (fun c' B' o' out' H1 locs1 hXI' hout hW1 hS1 => ?_)
  refine lv_istore (lv' := [(5, .int (nI k)), (0, .ref b), (1, .ref a.1), (2, .ref ma.1), (3, .ref oa), (4, .int (nI i))]) hx hb dL_law_311 hl (by decide) rfl (fun ls hl => ?_)
  have hW1 : WD D (fun q => s.heap.size ≤ q) (MW T ma cm ++ (XW T a c' ++ (OW T oa out' ++ PW T B'))) H1 := hW1.perm (by rw [← List.append_assoc, ← List.append_assoc, ← List.append_assoc (XW T a c')]; exact List.perm_append_comm)
  refine lv_aload_n hx hb dL_law_313 rfl (lv_at hl 3 rfl) ?_
  refine lv_aload_n hx hb dL_law_314 rfl (lv_at hl 1 rfl) ?_
  refine lv_iload hx hb dL_law_315 (lv_at hl 5 rfl) ?_
  refine lv_iconst (v := (1 : Int32)) hx hb dL_law_317 (by decide) ?_
  refine lv_iadd hx hb dL_law_318 ?_
  refine va_sld hx hb hX hbl hbA hS1 (by rw [fa_lit 1, nI_step]; exact vp_in_nI (by omega) (by omega)) dL_law_319 ?_
  refine runM H1 locs1 (cells + 6) (slots + 88) Q 320 ls [] _ _ (fun H locs cells slots rm mc ms Pc Qc free hMt hrc hrs hR hpre hroom => va_runV (n := 1) (C := RX7) (b := ma.1) (As := [.int (xs (nI i + (1 : Int32)).toNatClampNeg)]) (rest := []) ⟨hx, hb, hml, hown, hts⟩ hMt (cwV 1 hts gL_law_X7_remove rfl hrc hrs hdV_X7_remove hR) hpre rfl rfl hl.1 rfl (lv_room (Nat.le_of_ble_eq_true rfl)) dL_law_320 hroom) hW1 hS1 hrm2 (fun cm' r H2 locs2 hM' hr hthr hW2 hS2 => ?_)
  have hI2 : LI T D s a ma oa H2 := ⟨c', cm', B', o', S', out', hXI', hM', hWS', hW2.perm (List.Perm.trans List.perm_append_comm (by rw [List.append_assoc, List.append_assoc]))⟩
  refine lv_istore (lv' := [(6, .int r), (5, .int (nI k)), (0, .ref b), (1, .ref a.1), (2, .ref ma.1), (3, .ref oa), (4, .int (nI i))]) hx hb dL_law_323 hl (by decide) rfl (fun ls hl => ?_)
  refine lv_aload_n hx hb dL_law_325 rfl (lv_at hl 4 rfl) ?_
  obtain ⟨m_thrown, m_z, m_aside, m_saved, m_saves, m_slots, m_isKept, m_text, m_length, m_sums, m_numbers, m_read, m_reads⟩ := cm'
  obtain ⟨m_a, m_z_a, m_aside_a, m_saved_a, m_slots_a, m_isKept_a, m_text_a, m_sums_a, m_numbers_a, m_read_a⟩ := ma
  have hthr : m_thrown = nI k := hthr
  refine callPi (va_runV (n := 0) (C := RX7) (b := m_a) (As := []) (rest := []) ⟨hx, hb, hml, hown, hts⟩ (c_X7_thrown l D T m_a m_z_a m_aside_a m_saved_a m_slots_a m_isKept_a m_text_a m_sums_a m_numbers_a m_read_a m_thrown m_z m_aside m_saved m_saves m_slots m_isKept m_text m_length m_sums m_numbers m_read m_reads m_thrown rfl) (cwV 0 hts gL_law_X7_thrown rfl rfl rfl hdV_X7_thrown ⟨Nat.le_of_ble_eq_true rfl, Nat.le_of_ble_eq_true rfl⟩) (preBV hW2.fst.1 hK hN (ci := 7) rfl 0 rfl) rfl rfl hl.1 rfl (lv_room (Nat.le_of_ble_eq_true rfl)) dL_law_326 (rm_room hrm2 (by decide) (by decide))) ?_
  refine lv_iload hx hb dL_law_329 (lv_at hl 1 rfl) ?_
  refine lv_icmp_eq (tgt := 336) hx hb dL_law_331 (by decide) (fun _ => ?_) (fun hne => absurd hthr hne)
  refine lv_iload hx hb dL_law_336 (lv_at hl 1 rfl) ?_
  refine lv_if_ne (tgt := 353) hx hb dL_law_338 (by decide) (fun _ => ?_) (fun hk0 => ?_)
  · refine lv_goto (tgt := 1297) hx hb dL_law_353 (by decide) ?_
    exact kk H2 locs2 ls hI2 hS2 (lv_sub hl [2, 3, 4, 5, 6] rfl)
  · have hk9 : k = 0 := ik0 (by omega) hk0
    have hrv := hr hk9
    have hov := hout hk9
    have hWo : va_P D vwCl (OW T oa out') H2 := (WD.split.mp (WD.split.mp hW2).2.1).2.1.fst.1
    refine lv_aload_n hx hb dL_law_341 rfl (lv_at hl 5 rfl) ?_
    refine lv_iconst (v := (0 : Int32)) hx hb dL_law_342 (by decide) ?_
    refine va_lald (D := D) hx hb hK hWo 0 3 rfl rfl (gd_in (by decide)) dL_law_343 ?_
    refine lv_iload hx hb dL_law_344 (lv_at hl 0 rfl) ?_
    refine lv_i2l hx hb dL_law_346 rfl ?_
    refine W.lcmp hx hb dL_law_347 ?_
    refine lv_if_eq (tgt := 353) hx hb dL_law_348 (by decide) (fun _ => ?_) (fun hne => absurd (by rw [show (0 : Int32).toNatClampNeg = 0 from by decide, hov, hrv]; exact lg_same _) hne)
    refine lv_goto (tgt := 1297) hx hb dL_law_353 (by decide) ?_
    exact kk H2 locs2 ls hI2 hS2 (lv_sub hl [2, 3, 4, 5, 6] rfl)
set_option maxHeartbeats 4000000 in
set_option maxRecDepth 100000 in
theorem law_swap {p : Program} {l : Launch} {e : Env} {s : State} {m : MethodId} {args : Array Value} {below : List Frame} {meth : Method} {cd : Code} {D : va_G} {T : TY} {b L i : Nat} {xs : Nat → Int32} {a : XA} {ma : MA} {oa : Nat} {H : Heap} {locs : List Loc} {cells slots : Nat} {Q : State → Prop} {ls : Array Slot} (C : LX p l s m args cd D T b L xs) (hL : L ≤ 2048) (hi : i + 4 ≤ L) (hI : LI T D s a ma oa H) (hS : va_S (fun q => s.heap.size ≤ q) s.heap H locs) (hl : lv_has ls 9 [(0, .ref b), (1, .ref a.1), (2, .ref ma.1), (3, .ref oa), (4, .int (nI i))]) (hrm : cells + 12 ≤ room_1.cells ∧ slots + 176 ≤ room_1.slots)
    (kk : ∀ (H1 : Heap) (locs1 : List Loc) (ls1 : Array Slot), LI T D s a ma oa H1 → va_S (fun q => s.heap.size ≤ q) s.heap H1 locs1 → lv_has ls1 9 [(0, .ref b), (1, .ref a.1), (2, .ref ma.1), (3, .ref oa), (4, .int (nI i))] → W p l e room_1 s m args below meth cd H1 locs1 (cells + 6) (slots + 88) Q (F0 m 1297 ls1 [])) :
    W p l e room_1 s m args below meth cd H locs cells slots Q (F0 m 356 ls []) := by
  obtain ⟨hx, hb, hml, hown, hts, hK, hN, hZ, hfl, hX, hbl⟩ := C
  obtain ⟨c, cm, B, o, S, out, hXI, hM, hWS, hW⟩ := hI
  have hbA : ¬ (fun q : Nat => s.heap.size ≤ q) b := Nat.not_le.mpr hbl
  have hrm1 : cells + 6 ≤ room_1.cells ∧ slots + 88 ≤ room_1.slots := ⟨by omega, by omega⟩
  have hrm2 : cells + 6 + 6 ≤ room_1.cells ∧ slots + 88 + 88 ≤ room_1.slots := hrm
  obtain ⟨k, v, S', hWS', hk3, runX, runM⟩ := h_swap (a := a) (ma := ma) (oa := oa) (T := T) (R := MW T ma cm) (p := p) (l := l) (e := e) (s := s) (m := m) (args := args) (below := below) (meth := meth) (cd := cd) (out := out) hfl hK hN hZ hXI hM hWS (xs (nI i + (1 : Int32)).toNatClampNeg) (xs (nI i + (2 : Int32)).toNatClampNeg)
  refine lv_aload_n hx hb dL_law_356 rfl (lv_at hl 1 rfl) ?_
  refine lv_aload_n hx hb dL_law_357 rfl (lv_at hl 0 rfl) ?_
  refine lv_iload hx hb dL_law_358 (lv_at hl 4 rfl) ?_
  refine lv_iconst (v := (1 : Int32)) hx hb dL_law_360 (by decide) ?_
  refine lv_iadd hx hb dL_law_361 ?_
  refine va_sld hx hb hX hbl hbA hS (by rw [fa_lit 1, nI_step]; exact vp_in_nI (by omega) (by omega)) dL_law_362 ?_
  refine lv_aload_n hx hb dL_law_363 rfl (lv_at hl 0 rfl) ?_
  refine lv_iload hx hb dL_law_364 (lv_at hl 4 rfl) ?_
  refine lv_iconst (v := (2 : Int32)) hx hb dL_law_366 (by decide) ?_
  refine lv_iadd hx hb dL_law_367 ?_
  refine va_sld hx hb hX hbl hbA hS (by rw [fa_lit 2, nI_step]; exact vp_in_nI (by omega) (by omega)) dL_law_368 ?_
  refine lv_aload_n hx hb dL_law_369 rfl (lv_at hl 3 rfl) ?_
  refine runX H locs cells slots Q 370 ls [] _ (fun H locs cells slots rm mc ms Pc Qc free hMt hrc hrs hR hpre hroom => vx_runSW (n := 4) (As := [.ref a.1, .int (xs (nI i + (1 : Int32)).toNatClampNeg), .int (xs (nI i + (2 : Int32)).toNatClampNeg), .ref oa]) (rest := []) ⟨hx, hb, hml, hown, hts⟩ hMt (vx_cwSW 4 hts gL_law_L_swap rfl hrc hrs hdS_L_swapA hR) hpre rfl rfl hl.1 rfl (lv_room (Nat.le_of_ble_eq_true rfl)) dL_law_370 hroom) hW hS hrm1 (fun c' B' o' out' H1 locs1 hXI' hout hW1 hS1 => ?_)
  refine lv_istore (lv' := [(5, .int (nI k)), (0, .ref b), (1, .ref a.1), (2, .ref ma.1), (3, .ref oa), (4, .int (nI i))]) hx hb dL_law_373 hl (by decide) rfl (fun ls hl => ?_)
  have hW1 : WD D (fun q => s.heap.size ≤ q) (MW T ma cm ++ (XW T a c' ++ (OW T oa out' ++ PW T B'))) H1 := hW1.perm (by rw [← List.append_assoc, ← List.append_assoc, ← List.append_assoc (XW T a c')]; exact List.perm_append_comm)
  refine lv_aload_n hx hb dL_law_375 rfl (lv_at hl 3 rfl) ?_
  refine lv_aload_n hx hb dL_law_376 rfl (lv_at hl 1 rfl) ?_
  refine lv_iload hx hb dL_law_377 (lv_at hl 5 rfl) ?_
  refine lv_iconst (v := (1 : Int32)) hx hb dL_law_379 (by decide) ?_
  refine lv_iadd hx hb dL_law_380 ?_
  refine va_sld hx hb hX hbl hbA hS1 (by rw [fa_lit 1, nI_step]; exact vp_in_nI (by omega) (by omega)) dL_law_381 ?_
  refine lv_aload_n hx hb dL_law_382 rfl (lv_at hl 1 rfl) ?_
  refine lv_iload hx hb dL_law_383 (lv_at hl 5 rfl) ?_
  refine lv_iconst (v := (2 : Int32)) hx hb dL_law_385 (by decide) ?_
  refine lv_iadd hx hb dL_law_386 ?_
  refine va_sld hx hb hX hbl hbA hS1 (by rw [fa_lit 2, nI_step]; exact vp_in_nI (by omega) (by omega)) dL_law_387 ?_
  refine runM H1 locs1 (cells + 6) (slots + 88) Q 388 ls [] _ _ (fun H locs cells slots rm mc ms Pc Qc free hMt hrc hrs hR hpre hroom => va_runV (n := 2) (C := RX7) (b := ma.1) (As := [.int (xs (nI i + (1 : Int32)).toNatClampNeg), .int (xs (nI i + (2 : Int32)).toNatClampNeg)]) (rest := []) ⟨hx, hb, hml, hown, hts⟩ hMt (cwV 2 hts gL_law_X7_swap rfl hrc hrs hdV_X7_swap hR) hpre rfl rfl hl.1 rfl (lv_room (Nat.le_of_ble_eq_true rfl)) dL_law_388 hroom) hW1 hS1 hrm2 (fun cm' r H2 locs2 hM' hr hthr hW2 hS2 => ?_)
  have hI2 : LI T D s a ma oa H2 := ⟨c', cm', B', o', S', out', hXI', hM', hWS', hW2.perm (List.Perm.trans List.perm_append_comm (by rw [List.append_assoc, List.append_assoc]))⟩
  refine lv_istore (lv' := [(6, .int r), (5, .int (nI k)), (0, .ref b), (1, .ref a.1), (2, .ref ma.1), (3, .ref oa), (4, .int (nI i))]) hx hb dL_law_391 hl (by decide) rfl (fun ls hl => ?_)
  refine lv_aload_n hx hb dL_law_393 rfl (lv_at hl 4 rfl) ?_
  obtain ⟨m_thrown, m_z, m_aside, m_saved, m_saves, m_slots, m_isKept, m_text, m_length, m_sums, m_numbers, m_read, m_reads⟩ := cm'
  obtain ⟨m_a, m_z_a, m_aside_a, m_saved_a, m_slots_a, m_isKept_a, m_text_a, m_sums_a, m_numbers_a, m_read_a⟩ := ma
  have hthr : m_thrown = nI k := hthr
  refine callPi (va_runV (n := 0) (C := RX7) (b := m_a) (As := []) (rest := []) ⟨hx, hb, hml, hown, hts⟩ (c_X7_thrown l D T m_a m_z_a m_aside_a m_saved_a m_slots_a m_isKept_a m_text_a m_sums_a m_numbers_a m_read_a m_thrown m_z m_aside m_saved m_saves m_slots m_isKept m_text m_length m_sums m_numbers m_read m_reads m_thrown rfl) (cwV 0 hts gL_law_X7_thrown rfl rfl rfl hdV_X7_thrown ⟨Nat.le_of_ble_eq_true rfl, Nat.le_of_ble_eq_true rfl⟩) (preBV hW2.fst.1 hK hN (ci := 7) rfl 0 rfl) rfl rfl hl.1 rfl (lv_room (Nat.le_of_ble_eq_true rfl)) dL_law_394 (rm_room hrm2 (by decide) (by decide))) ?_
  refine lv_iload hx hb dL_law_397 (lv_at hl 1 rfl) ?_
  refine lv_icmp_eq (tgt := 404) hx hb dL_law_399 (by decide) (fun _ => ?_) (fun hne => absurd hthr hne)
  refine lv_iload hx hb dL_law_404 (lv_at hl 1 rfl) ?_
  refine lv_if_ne (tgt := 421) hx hb dL_law_406 (by decide) (fun _ => ?_) (fun hk0 => ?_)
  · refine lv_goto (tgt := 1297) hx hb dL_law_421 (by decide) ?_
    exact kk H2 locs2 ls hI2 hS2 (lv_sub hl [2, 3, 4, 5, 6] rfl)
  · have hk9 : k = 0 := ik0 (by omega) hk0
    have hrv := hr hk9
    have hov := hout hk9
    have hWo : va_P D vwCl (OW T oa out') H2 := (WD.split.mp (WD.split.mp hW2).2.1).2.1.fst.1
    refine lv_aload_n hx hb dL_law_409 rfl (lv_at hl 5 rfl) ?_
    refine lv_iconst (v := (0 : Int32)) hx hb dL_law_410 (by decide) ?_
    refine va_lald (D := D) hx hb hK hWo 0 3 rfl rfl (gd_in (by decide)) dL_law_411 ?_
    refine lv_iload hx hb dL_law_412 (lv_at hl 0 rfl) ?_
    refine lv_i2l hx hb dL_law_414 rfl ?_
    refine W.lcmp hx hb dL_law_415 ?_
    refine lv_if_eq (tgt := 421) hx hb dL_law_416 (by decide) (fun _ => ?_) (fun hne => absurd (by rw [show (0 : Int32).toNatClampNeg = 0 from by decide, hov, hrv]; exact lg_same _) hne)
    refine lv_goto (tgt := 1297) hx hb dL_law_421 (by decide) ?_
    exact kk H2 locs2 ls hI2 hS2 (lv_sub hl [2, 3, 4, 5, 6] rfl)
set_option maxHeartbeats 4000000 in
set_option maxRecDepth 100000 in
theorem law_sweep {p : Program} {l : Launch} {e : Env} {s : State} {m : MethodId} {args : Array Value} {below : List Frame} {meth : Method} {cd : Code} {D : va_G} {T : TY} {b L i : Nat} {xs : Nat → Int32} {a : XA} {ma : MA} {oa : Nat} {H : Heap} {locs : List Loc} {cells slots : Nat} {Q : State → Prop} {ls : Array Slot} (C : LX p l s m args cd D T b L xs) (hL : L ≤ 2048) (hi : i + 4 ≤ L) (hI : LI T D s a ma oa H) (hS : va_S (fun q => s.heap.size ≤ q) s.heap H locs) (hl : lv_has ls 9 [(0, .ref b), (1, .ref a.1), (2, .ref ma.1), (3, .ref oa), (4, .int (nI i))]) (hrm : cells + 12 ≤ room_1.cells ∧ slots + 176 ≤ room_1.slots)
    (kk : ∀ (H1 : Heap) (locs1 : List Loc) (ls1 : Array Slot), LI T D s a ma oa H1 → va_S (fun q => s.heap.size ≤ q) s.heap H1 locs1 → lv_has ls1 9 [(0, .ref b), (1, .ref a.1), (2, .ref ma.1), (3, .ref oa), (4, .int (nI i))] → W p l e room_1 s m args below meth cd H1 locs1 (cells + 6) (slots + 88) Q (F0 m 1297 ls1 [])) :
    W p l e room_1 s m args below meth cd H locs cells slots Q (F0 m 424 ls []) := by
  obtain ⟨hx, hb, hml, hown, hts, hK, hN, hZ, hfl, hX, hbl⟩ := C
  obtain ⟨c, cm, B, o, S, out, hXI, hM, hWS, hW⟩ := hI
  have hbA : ¬ (fun q : Nat => s.heap.size ≤ q) b := Nat.not_le.mpr hbl
  have hrm1 : cells + 6 ≤ room_1.cells ∧ slots + 88 ≤ room_1.slots := ⟨by omega, by omega⟩
  have hrm2 : cells + 6 + 6 ≤ room_1.cells ∧ slots + 88 + 88 ≤ room_1.slots := hrm
  obtain ⟨v, S', hWS', runX, runM⟩ := h_sweep (a := a) (ma := ma) (oa := oa) (T := T) (R := MW T ma cm) (p := p) (l := l) (e := e) (s := s) (m := m) (args := args) (below := below) (meth := meth) (cd := cd) (out := out) hfl hK hN hZ hXI hM hWS 
  refine lv_aload_n hx hb dL_law_424 rfl (lv_at hl 1 rfl) ?_
  refine runX H locs cells slots Q 425 ls [] _ (fun H locs cells slots rm mc ms Pc Qc free hMt hrc hrs hR hpre hroom => va_runV (n := 0) (C := RX6) (b := a.1) (As := []) (rest := []) ⟨hx, hb, hml, hown, hts⟩ hMt (cwV 0 hts gL_law_X6_sweep rfl hrc hrs hdV_X6_sweepA hR) hpre rfl rfl hl.1 rfl (lv_room (Nat.le_of_ble_eq_true rfl)) dL_law_425 hroom) hW hS hrm1 (fun c' B' o' out' H1 locs1 hXI' hW1 hS1 => ?_)
  have hW1 : WD D (fun q => s.heap.size ≤ q) (MW T ma cm ++ (XW T a c' ++ (OW T oa out' ++ PW T B'))) H1 := hW1.perm (by rw [← List.append_assoc, ← List.append_assoc, ← List.append_assoc (XW T a c')]; exact List.perm_append_comm)
  refine lv_aload_n hx hb dL_law_428 rfl (lv_at hl 2 rfl) ?_
  refine runM H1 locs1 (cells + 6) (slots + 88) Q 429 ls [.int v] _ _ (fun H locs cells slots rm mc ms Pc Qc free hMt hrc hrs hR hpre hroom => va_runV (n := 0) (C := RX7) (b := ma.1) (As := []) (rest := [.int v]) ⟨hx, hb, hml, hown, hts⟩ hMt (cwV 0 hts gL_law_X7_sweep rfl hrc hrs hdV_X7_sweep hR) hpre rfl rfl hl.1 rfl (lv_room (Nat.le_of_ble_eq_true rfl)) dL_law_429 hroom) hW1 hS1 hrm2 (fun cm' r H2 locs2 hM' hr hW2 hS2 => ?_)
  have hI2 : LI T D s a ma oa H2 := ⟨c', cm', B', o', S', out', hXI', hM', hWS', hW2.perm (List.Perm.trans List.perm_append_comm (by rw [List.append_assoc, List.append_assoc]))⟩
  obtain rfl := hr
  refine lv_icmp_eq (tgt := 1297) hx hb dL_law_432 (by decide) (fun _ => ?_) (fun hne => absurd rfl hne)
  exact kk H2 locs2 ls hI2 hS2 (lv_sub hl [0, 1, 2, 3, 4] rfl)
set_option maxHeartbeats 4000000 in
set_option maxRecDepth 100000 in
theorem law_order {p : Program} {l : Launch} {e : Env} {s : State} {m : MethodId} {args : Array Value} {below : List Frame} {meth : Method} {cd : Code} {D : va_G} {T : TY} {b L i : Nat} {xs : Nat → Int32} {a : XA} {ma : MA} {oa : Nat} {H : Heap} {locs : List Loc} {cells slots : Nat} {Q : State → Prop} {ls : Array Slot} (C : LX p l s m args cd D T b L xs) (hL : L ≤ 2048) (hi : i + 4 ≤ L) (hI : LI T D s a ma oa H) (hS : va_S (fun q => s.heap.size ≤ q) s.heap H locs) (hl : lv_has ls 9 [(0, .ref b), (1, .ref a.1), (2, .ref ma.1), (3, .ref oa), (4, .int (nI i))]) (hrm : cells + 12 ≤ room_1.cells ∧ slots + 176 ≤ room_1.slots)
    (kk : ∀ (H1 : Heap) (locs1 : List Loc) (ls1 : Array Slot), LI T D s a ma oa H1 → va_S (fun q => s.heap.size ≤ q) s.heap H1 locs1 → lv_has ls1 9 [(0, .ref b), (1, .ref a.1), (2, .ref ma.1), (3, .ref oa), (4, .int (nI i))] → W p l e room_1 s m args below meth cd H1 locs1 (cells + 6) (slots + 88) Q (F0 m 1297 ls1 [])) :
    W p l e room_1 s m args below meth cd H locs cells slots Q (F0 m 437 ls []) := by
  obtain ⟨hx, hb, hml, hown, hts, hK, hN, hZ, hfl, hX, hbl⟩ := C
  obtain ⟨c, cm, B, o, S, out, hXI, hM, hWS, hW⟩ := hI
  have hbA : ¬ (fun q : Nat => s.heap.size ≤ q) b := Nat.not_le.mpr hbl
  have hrm1 : cells + 6 ≤ room_1.cells ∧ slots + 88 ≤ room_1.slots := ⟨by omega, by omega⟩
  have hrm2 : cells + 6 + 6 ≤ room_1.cells ∧ slots + 88 + 88 ≤ room_1.slots := hrm
  obtain ⟨k, v, S', hWS', hk3, runX, runM⟩ := h_order (a := a) (ma := ma) (oa := oa) (T := T) (R := MW T ma cm) (p := p) (l := l) (e := e) (s := s) (m := m) (args := args) (below := below) (meth := meth) (cd := cd) (out := out) hfl hK hN hZ hXI hM hWS (xs (nI i + (1 : Int32)).toNatClampNeg)
  refine lv_aload_n hx hb dL_law_437 rfl (lv_at hl 1 rfl) ?_
  refine lv_aload_n hx hb dL_law_438 rfl (lv_at hl 0 rfl) ?_
  refine lv_iload hx hb dL_law_439 (lv_at hl 4 rfl) ?_
  refine lv_iconst (v := (1 : Int32)) hx hb dL_law_441 (by decide) ?_
  refine lv_iadd hx hb dL_law_442 ?_
  refine va_sld hx hb hX hbl hbA hS (by rw [fa_lit 1, nI_step]; exact vp_in_nI (by omega) (by omega)) dL_law_443 ?_
  refine lv_aload_n hx hb dL_law_444 rfl (lv_at hl 3 rfl) ?_
  refine runX H locs cells slots Q 445 ls [] _ (fun H locs cells slots rm mc ms Pc Qc free hMt hrc hrs hR hpre hroom => vx_runSW (n := 3) (As := [.ref a.1, .int (xs (nI i + (1 : Int32)).toNatClampNeg), .ref oa]) (rest := []) ⟨hx, hb, hml, hown, hts⟩ hMt (vx_cwSW 3 hts gL_law_L_order rfl hrc hrs hdS_L_orderA hR) hpre rfl rfl hl.1 rfl (lv_room (Nat.le_of_ble_eq_true rfl)) dL_law_445 hroom) hW hS hrm1 (fun c' B' o' out' H1 locs1 hXI' hout hW1 hS1 => ?_)
  refine lv_istore (lv' := [(5, .int (nI k)), (0, .ref b), (1, .ref a.1), (2, .ref ma.1), (3, .ref oa), (4, .int (nI i))]) hx hb dL_law_448 hl (by decide) rfl (fun ls hl => ?_)
  have hW1 : WD D (fun q => s.heap.size ≤ q) (MW T ma cm ++ (XW T a c' ++ (OW T oa out' ++ PW T B'))) H1 := hW1.perm (by rw [← List.append_assoc, ← List.append_assoc, ← List.append_assoc (XW T a c')]; exact List.perm_append_comm)
  refine lv_aload_n hx hb dL_law_450 rfl (lv_at hl 3 rfl) ?_
  refine lv_aload_n hx hb dL_law_451 rfl (lv_at hl 1 rfl) ?_
  refine lv_iload hx hb dL_law_452 (lv_at hl 5 rfl) ?_
  refine lv_iconst (v := (1 : Int32)) hx hb dL_law_454 (by decide) ?_
  refine lv_iadd hx hb dL_law_455 ?_
  refine va_sld hx hb hX hbl hbA hS1 (by rw [fa_lit 1, nI_step]; exact vp_in_nI (by omega) (by omega)) dL_law_456 ?_
  refine runM H1 locs1 (cells + 6) (slots + 88) Q 457 ls [] _ _ (fun H locs cells slots rm mc ms Pc Qc free hMt hrc hrs hR hpre hroom => va_runV (n := 1) (C := RX7) (b := ma.1) (As := [.int (xs (nI i + (1 : Int32)).toNatClampNeg)]) (rest := []) ⟨hx, hb, hml, hown, hts⟩ hMt (cwV 1 hts gL_law_X7_order rfl hrc hrs hdV_X7_order hR) hpre rfl rfl hl.1 rfl (lv_room (Nat.le_of_ble_eq_true rfl)) dL_law_457 hroom) hW1 hS1 hrm2 (fun cm' r H2 locs2 hM' hr hthr hW2 hS2 => ?_)
  have hI2 : LI T D s a ma oa H2 := ⟨c', cm', B', o', S', out', hXI', hM', hWS', hW2.perm (List.Perm.trans List.perm_append_comm (by rw [List.append_assoc, List.append_assoc]))⟩
  refine lv_istore (lv' := [(6, .int r), (5, .int (nI k)), (0, .ref b), (1, .ref a.1), (2, .ref ma.1), (3, .ref oa), (4, .int (nI i))]) hx hb dL_law_460 hl (by decide) rfl (fun ls hl => ?_)
  refine lv_aload_n hx hb dL_law_462 rfl (lv_at hl 4 rfl) ?_
  obtain ⟨m_thrown, m_z, m_aside, m_saved, m_saves, m_slots, m_isKept, m_text, m_length, m_sums, m_numbers, m_read, m_reads⟩ := cm'
  obtain ⟨m_a, m_z_a, m_aside_a, m_saved_a, m_slots_a, m_isKept_a, m_text_a, m_sums_a, m_numbers_a, m_read_a⟩ := ma
  have hthr : m_thrown = nI k := hthr
  refine callPi (va_runV (n := 0) (C := RX7) (b := m_a) (As := []) (rest := []) ⟨hx, hb, hml, hown, hts⟩ (c_X7_thrown l D T m_a m_z_a m_aside_a m_saved_a m_slots_a m_isKept_a m_text_a m_sums_a m_numbers_a m_read_a m_thrown m_z m_aside m_saved m_saves m_slots m_isKept m_text m_length m_sums m_numbers m_read m_reads m_thrown rfl) (cwV 0 hts gL_law_X7_thrown rfl rfl rfl hdV_X7_thrown ⟨Nat.le_of_ble_eq_true rfl, Nat.le_of_ble_eq_true rfl⟩) (preBV hW2.fst.1 hK hN (ci := 7) rfl 0 rfl) rfl rfl hl.1 rfl (lv_room (Nat.le_of_ble_eq_true rfl)) dL_law_463 (rm_room hrm2 (by decide) (by decide))) ?_
  refine lv_iload hx hb dL_law_466 (lv_at hl 1 rfl) ?_
  refine lv_icmp_eq (tgt := 473) hx hb dL_law_468 (by decide) (fun _ => ?_) (fun hne => absurd hthr hne)
  refine lv_iload hx hb dL_law_473 (lv_at hl 1 rfl) ?_
  refine lv_if_ne (tgt := 490) hx hb dL_law_475 (by decide) (fun _ => ?_) (fun hk0 => ?_)
  · refine lv_goto (tgt := 1297) hx hb dL_law_490 (by decide) ?_
    exact kk H2 locs2 ls hI2 hS2 (lv_sub hl [2, 3, 4, 5, 6] rfl)
  · have hk9 : k = 0 := ik0 (by omega) hk0
    have hrv := hr hk9
    have hov := hout hk9
    have hWo : va_P D vwCl (OW T oa out') H2 := (WD.split.mp (WD.split.mp hW2).2.1).2.1.fst.1
    refine lv_aload_n hx hb dL_law_478 rfl (lv_at hl 5 rfl) ?_
    refine lv_iconst (v := (0 : Int32)) hx hb dL_law_479 (by decide) ?_
    refine va_lald (D := D) hx hb hK hWo 0 3 rfl rfl (gd_in (by decide)) dL_law_480 ?_
    refine lv_iload hx hb dL_law_481 (lv_at hl 0 rfl) ?_
    refine lv_i2l hx hb dL_law_483 rfl ?_
    refine W.lcmp hx hb dL_law_484 ?_
    refine lv_if_eq (tgt := 490) hx hb dL_law_485 (by decide) (fun _ => ?_) (fun hne => absurd (by rw [show (0 : Int32).toNatClampNeg = 0 from by decide, hov, hrv]; exact lg_same _) hne)
    refine lv_goto (tgt := 1297) hx hb dL_law_490 (by decide) ?_
    exact kk H2 locs2 ls hI2 hS2 (lv_sub hl [2, 3, 4, 5, 6] rfl)
set_option maxHeartbeats 4000000 in
set_option maxRecDepth 100000 in
theorem law_trim {p : Program} {l : Launch} {e : Env} {s : State} {m : MethodId} {args : Array Value} {below : List Frame} {meth : Method} {cd : Code} {D : va_G} {T : TY} {b L i : Nat} {xs : Nat → Int32} {a : XA} {ma : MA} {oa : Nat} {H : Heap} {locs : List Loc} {cells slots : Nat} {Q : State → Prop} {ls : Array Slot} (C : LX p l s m args cd D T b L xs) (hL : L ≤ 2048) (hi : i + 4 ≤ L) (hI : LI T D s a ma oa H) (hS : va_S (fun q => s.heap.size ≤ q) s.heap H locs) (hl : lv_has ls 9 [(0, .ref b), (1, .ref a.1), (2, .ref ma.1), (3, .ref oa), (4, .int (nI i))]) (hrm : cells + 12 ≤ room_1.cells ∧ slots + 176 ≤ room_1.slots)
    (kk : ∀ (H1 : Heap) (locs1 : List Loc) (ls1 : Array Slot), LI T D s a ma oa H1 → va_S (fun q => s.heap.size ≤ q) s.heap H1 locs1 → lv_has ls1 9 [(0, .ref b), (1, .ref a.1), (2, .ref ma.1), (3, .ref oa), (4, .int (nI i))] → W p l e room_1 s m args below meth cd H1 locs1 (cells + 6) (slots + 88) Q (F0 m 1297 ls1 [])) :
    W p l e room_1 s m args below meth cd H locs cells slots Q (F0 m 493 ls []) := by
  obtain ⟨hx, hb, hml, hown, hts, hK, hN, hZ, hfl, hX, hbl⟩ := C
  obtain ⟨c, cm, B, o, S, out, hXI, hM, hWS, hW⟩ := hI
  have hbA : ¬ (fun q : Nat => s.heap.size ≤ q) b := Nat.not_le.mpr hbl
  have hrm1 : cells + 6 ≤ room_1.cells ∧ slots + 88 ≤ room_1.slots := ⟨by omega, by omega⟩
  have hrm2 : cells + 6 + 6 ≤ room_1.cells ∧ slots + 88 + 88 ≤ room_1.slots := hrm
  obtain ⟨k, v, S', hWS', hk3, runX, runM⟩ := h_trim (a := a) (ma := ma) (oa := oa) (T := T) (R := MW T ma cm) (p := p) (l := l) (e := e) (s := s) (m := m) (args := args) (below := below) (meth := meth) (cd := cd) (out := out) hfl hK hN hZ hXI hM hWS (xs (nI i + (1 : Int32)).toNatClampNeg)
  refine lv_aload_n hx hb dL_law_493 rfl (lv_at hl 1 rfl) ?_
  refine lv_aload_n hx hb dL_law_494 rfl (lv_at hl 0 rfl) ?_
  refine lv_iload hx hb dL_law_495 (lv_at hl 4 rfl) ?_
  refine lv_iconst (v := (1 : Int32)) hx hb dL_law_497 (by decide) ?_
  refine lv_iadd hx hb dL_law_498 ?_
  refine va_sld hx hb hX hbl hbA hS (by rw [fa_lit 1, nI_step]; exact vp_in_nI (by omega) (by omega)) dL_law_499 ?_
  refine lv_aload_n hx hb dL_law_500 rfl (lv_at hl 3 rfl) ?_
  refine runX H locs cells slots Q 501 ls [] _ (fun H locs cells slots rm mc ms Pc Qc free hMt hrc hrs hR hpre hroom => vx_runSW (n := 3) (As := [.ref a.1, .int (xs (nI i + (1 : Int32)).toNatClampNeg), .ref oa]) (rest := []) ⟨hx, hb, hml, hown, hts⟩ hMt (vx_cwSW 3 hts gL_law_L_trim rfl hrc hrs hdS_L_trimA hR) hpre rfl rfl hl.1 rfl (lv_room (Nat.le_of_ble_eq_true rfl)) dL_law_501 hroom) hW hS hrm1 (fun c' B' o' out' H1 locs1 hXI' hout hW1 hS1 => ?_)
  refine lv_istore (lv' := [(5, .int (nI k)), (0, .ref b), (1, .ref a.1), (2, .ref ma.1), (3, .ref oa), (4, .int (nI i))]) hx hb dL_law_504 hl (by decide) rfl (fun ls hl => ?_)
  have hW1 : WD D (fun q => s.heap.size ≤ q) (MW T ma cm ++ (XW T a c' ++ (OW T oa out' ++ PW T B'))) H1 := hW1.perm (by rw [← List.append_assoc, ← List.append_assoc, ← List.append_assoc (XW T a c')]; exact List.perm_append_comm)
  refine lv_aload_n hx hb dL_law_506 rfl (lv_at hl 3 rfl) ?_
  refine lv_aload_n hx hb dL_law_507 rfl (lv_at hl 1 rfl) ?_
  refine lv_iload hx hb dL_law_508 (lv_at hl 5 rfl) ?_
  refine lv_iconst (v := (1 : Int32)) hx hb dL_law_510 (by decide) ?_
  refine lv_iadd hx hb dL_law_511 ?_
  refine va_sld hx hb hX hbl hbA hS1 (by rw [fa_lit 1, nI_step]; exact vp_in_nI (by omega) (by omega)) dL_law_512 ?_
  refine runM H1 locs1 (cells + 6) (slots + 88) Q 513 ls [] _ _ (fun H locs cells slots rm mc ms Pc Qc free hMt hrc hrs hR hpre hroom => va_runV (n := 1) (C := RX7) (b := ma.1) (As := [.int (xs (nI i + (1 : Int32)).toNatClampNeg)]) (rest := []) ⟨hx, hb, hml, hown, hts⟩ hMt (cwV 1 hts gL_law_X7_trim rfl hrc hrs hdV_X7_trim hR) hpre rfl rfl hl.1 rfl (lv_room (Nat.le_of_ble_eq_true rfl)) dL_law_513 hroom) hW1 hS1 hrm2 (fun cm' r H2 locs2 hM' hr hthr hW2 hS2 => ?_)
  have hI2 : LI T D s a ma oa H2 := ⟨c', cm', B', o', S', out', hXI', hM', hWS', hW2.perm (List.Perm.trans List.perm_append_comm (by rw [List.append_assoc, List.append_assoc]))⟩
  refine lv_istore (lv' := [(6, .int r), (5, .int (nI k)), (0, .ref b), (1, .ref a.1), (2, .ref ma.1), (3, .ref oa), (4, .int (nI i))]) hx hb dL_law_516 hl (by decide) rfl (fun ls hl => ?_)
  refine lv_aload_n hx hb dL_law_518 rfl (lv_at hl 4 rfl) ?_
  obtain ⟨m_thrown, m_z, m_aside, m_saved, m_saves, m_slots, m_isKept, m_text, m_length, m_sums, m_numbers, m_read, m_reads⟩ := cm'
  obtain ⟨m_a, m_z_a, m_aside_a, m_saved_a, m_slots_a, m_isKept_a, m_text_a, m_sums_a, m_numbers_a, m_read_a⟩ := ma
  have hthr : m_thrown = nI k := hthr
  refine callPi (va_runV (n := 0) (C := RX7) (b := m_a) (As := []) (rest := []) ⟨hx, hb, hml, hown, hts⟩ (c_X7_thrown l D T m_a m_z_a m_aside_a m_saved_a m_slots_a m_isKept_a m_text_a m_sums_a m_numbers_a m_read_a m_thrown m_z m_aside m_saved m_saves m_slots m_isKept m_text m_length m_sums m_numbers m_read m_reads m_thrown rfl) (cwV 0 hts gL_law_X7_thrown rfl rfl rfl hdV_X7_thrown ⟨Nat.le_of_ble_eq_true rfl, Nat.le_of_ble_eq_true rfl⟩) (preBV hW2.fst.1 hK hN (ci := 7) rfl 0 rfl) rfl rfl hl.1 rfl (lv_room (Nat.le_of_ble_eq_true rfl)) dL_law_519 (rm_room hrm2 (by decide) (by decide))) ?_
  refine lv_iload hx hb dL_law_522 (lv_at hl 1 rfl) ?_
  refine lv_icmp_eq (tgt := 529) hx hb dL_law_524 (by decide) (fun _ => ?_) (fun hne => absurd hthr hne)
  refine lv_iload hx hb dL_law_529 (lv_at hl 1 rfl) ?_
  refine lv_if_ne (tgt := 546) hx hb dL_law_531 (by decide) (fun _ => ?_) (fun hk0 => ?_)
  · refine lv_goto (tgt := 1297) hx hb dL_law_546 (by decide) ?_
    exact kk H2 locs2 ls hI2 hS2 (lv_sub hl [2, 3, 4, 5, 6] rfl)
  · have hk9 : k = 0 := ik0 (by omega) hk0
    have hrv := hr hk9
    have hov := hout hk9
    have hWo : va_P D vwCl (OW T oa out') H2 := (WD.split.mp (WD.split.mp hW2).2.1).2.1.fst.1
    refine lv_aload_n hx hb dL_law_534 rfl (lv_at hl 5 rfl) ?_
    refine lv_iconst (v := (0 : Int32)) hx hb dL_law_535 (by decide) ?_
    refine va_lald (D := D) hx hb hK hWo 0 3 rfl rfl (gd_in (by decide)) dL_law_536 ?_
    refine lv_iload hx hb dL_law_537 (lv_at hl 0 rfl) ?_
    refine lv_i2l hx hb dL_law_539 rfl ?_
    refine W.lcmp hx hb dL_law_540 ?_
    refine lv_if_eq (tgt := 546) hx hb dL_law_541 (by decide) (fun _ => ?_) (fun hne => absurd (by rw [show (0 : Int32).toNatClampNeg = 0 from by decide, hov, hrv]; exact lg_same _) hne)
    refine lv_goto (tgt := 1297) hx hb dL_law_546 (by decide) ?_
    exact kk H2 locs2 ls hI2 hS2 (lv_sub hl [2, 3, 4, 5, 6] rfl)
set_option maxHeartbeats 4000000 in
set_option maxRecDepth 100000 in
theorem law_settle {p : Program} {l : Launch} {e : Env} {s : State} {m : MethodId} {args : Array Value} {below : List Frame} {meth : Method} {cd : Code} {D : va_G} {T : TY} {b L i : Nat} {xs : Nat → Int32} {a : XA} {ma : MA} {oa : Nat} {H : Heap} {locs : List Loc} {cells slots : Nat} {Q : State → Prop} {ls : Array Slot} (C : LX p l s m args cd D T b L xs) (hL : L ≤ 2048) (hi : i + 4 ≤ L) (hI : LI T D s a ma oa H) (hS : va_S (fun q => s.heap.size ≤ q) s.heap H locs) (hl : lv_has ls 9 [(0, .ref b), (1, .ref a.1), (2, .ref ma.1), (3, .ref oa), (4, .int (nI i))]) (hrm : cells + 12 ≤ room_1.cells ∧ slots + 176 ≤ room_1.slots)
    (kk : ∀ (H1 : Heap) (locs1 : List Loc) (ls1 : Array Slot), LI T D s a ma oa H1 → va_S (fun q => s.heap.size ≤ q) s.heap H1 locs1 → lv_has ls1 9 [(0, .ref b), (1, .ref a.1), (2, .ref ma.1), (3, .ref oa), (4, .int (nI i))] → W p l e room_1 s m args below meth cd H1 locs1 (cells + 6) (slots + 88) Q (F0 m 1297 ls1 [])) :
    W p l e room_1 s m args below meth cd H locs cells slots Q (F0 m 549 ls []) := by
  obtain ⟨hx, hb, hml, hown, hts, hK, hN, hZ, hfl, hX, hbl⟩ := C
  obtain ⟨c, cm, B, o, S, out, hXI, hM, hWS, hW⟩ := hI
  have hbA : ¬ (fun q : Nat => s.heap.size ≤ q) b := Nat.not_le.mpr hbl
  have hrm1 : cells + 6 ≤ room_1.cells ∧ slots + 88 ≤ room_1.slots := ⟨by omega, by omega⟩
  have hrm2 : cells + 6 + 6 ≤ room_1.cells ∧ slots + 88 + 88 ≤ room_1.slots := hrm
  obtain ⟨v, S', hWS', runX, runM⟩ := h_settle (a := a) (ma := ma) (oa := oa) (T := T) (R := MW T ma cm) (p := p) (l := l) (e := e) (s := s) (m := m) (args := args) (below := below) (meth := meth) (cd := cd) (out := out) hfl hK hN hZ hXI hM hWS 
  refine lv_aload_n hx hb dL_law_549 rfl (lv_at hl 1 rfl) ?_
  refine runX H locs cells slots Q 550 ls [] _ (fun H locs cells slots rm mc ms Pc Qc free hMt hrc hrs hR hpre hroom => va_runV (n := 0) (C := RX6) (b := a.1) (As := []) (rest := []) ⟨hx, hb, hml, hown, hts⟩ hMt (cwV 0 hts gL_law_X6_settle rfl hrc hrs hdV_X6_settleA hR) hpre rfl rfl hl.1 rfl (lv_room (Nat.le_of_ble_eq_true rfl)) dL_law_550 hroom) hW hS hrm1 (fun c' B' o' out' H1 locs1 hXI' hW1 hS1 => ?_)
  have hW1 : WD D (fun q => s.heap.size ≤ q) (MW T ma cm ++ (XW T a c' ++ (OW T oa out' ++ PW T B'))) H1 := hW1.perm (by rw [← List.append_assoc, ← List.append_assoc, ← List.append_assoc (XW T a c')]; exact List.perm_append_comm)
  refine lv_aload_n hx hb dL_law_553 rfl (lv_at hl 2 rfl) ?_
  refine runM H1 locs1 (cells + 6) (slots + 88) Q 554 ls [.int v] _ _ (fun H locs cells slots rm mc ms Pc Qc free hMt hrc hrs hR hpre hroom => va_runV (n := 0) (C := RX7) (b := ma.1) (As := []) (rest := [.int v]) ⟨hx, hb, hml, hown, hts⟩ hMt (cwV 0 hts gL_law_X7_settle rfl hrc hrs hdV_X7_settle hR) hpre rfl rfl hl.1 rfl (lv_room (Nat.le_of_ble_eq_true rfl)) dL_law_554 hroom) hW1 hS1 hrm2 (fun cm' r H2 locs2 hM' hr hW2 hS2 => ?_)
  have hI2 : LI T D s a ma oa H2 := ⟨c', cm', B', o', S', out', hXI', hM', hWS', hW2.perm (List.Perm.trans List.perm_append_comm (by rw [List.append_assoc, List.append_assoc]))⟩
  obtain rfl := hr
  refine lv_icmp_eq (tgt := 1297) hx hb dL_law_557 (by decide) (fun _ => ?_) (fun hne => absurd rfl hne)
  exact kk H2 locs2 ls hI2 hS2 (lv_sub hl [0, 1, 2, 3, 4] rfl)
set_option maxHeartbeats 4000000 in
set_option maxRecDepth 100000 in
theorem law_append {p : Program} {l : Launch} {e : Env} {s : State} {m : MethodId} {args : Array Value} {below : List Frame} {meth : Method} {cd : Code} {D : va_G} {T : TY} {b L i : Nat} {xs : Nat → Int32} {a : XA} {ma : MA} {oa : Nat} {H : Heap} {locs : List Loc} {cells slots : Nat} {Q : State → Prop} {ls : Array Slot} (C : LX p l s m args cd D T b L xs) (hL : L ≤ 2048) (hi : i + 4 ≤ L) (hI : LI T D s a ma oa H) (hS : va_S (fun q => s.heap.size ≤ q) s.heap H locs) (hl : lv_has ls 9 [(0, .ref b), (1, .ref a.1), (2, .ref ma.1), (3, .ref oa), (4, .int (nI i))]) (hrm : cells + 12 ≤ room_1.cells ∧ slots + 176 ≤ room_1.slots)
    (kk : ∀ (H1 : Heap) (locs1 : List Loc) (ls1 : Array Slot), LI T D s a ma oa H1 → va_S (fun q => s.heap.size ≤ q) s.heap H1 locs1 → lv_has ls1 9 [(0, .ref b), (1, .ref a.1), (2, .ref ma.1), (3, .ref oa), (4, .int (nI i))] → W p l e room_1 s m args below meth cd H1 locs1 (cells + 6) (slots + 88) Q (F0 m 1297 ls1 [])) :
    W p l e room_1 s m args below meth cd H locs cells slots Q (F0 m 562 ls []) := by
  obtain ⟨hx, hb, hml, hown, hts, hK, hN, hZ, hfl, hX, hbl⟩ := C
  obtain ⟨c, cm, B, o, S, out, hXI, hM, hWS, hW⟩ := hI
  have hbA : ¬ (fun q : Nat => s.heap.size ≤ q) b := Nat.not_le.mpr hbl
  have hrm1 : cells + 6 ≤ room_1.cells ∧ slots + 88 ≤ room_1.slots := ⟨by omega, by omega⟩
  have hrm2 : cells + 6 + 6 ≤ room_1.cells ∧ slots + 88 + 88 ≤ room_1.slots := hrm
  obtain ⟨k, v, S', hWS', hk3, runX, runM⟩ := h_append (a := a) (ma := ma) (oa := oa) (T := T) (R := MW T ma cm) (p := p) (l := l) (e := e) (s := s) (m := m) (args := args) (below := below) (meth := meth) (cd := cd) (out := out) hfl hK hN hZ hXI hM hWS (xs (nI i + (1 : Int32)).toNatClampNeg)
  refine lv_aload_n hx hb dL_law_562 rfl (lv_at hl 1 rfl) ?_
  refine lv_aload_n hx hb dL_law_563 rfl (lv_at hl 0 rfl) ?_
  refine lv_iload hx hb dL_law_564 (lv_at hl 4 rfl) ?_
  refine lv_iconst (v := (1 : Int32)) hx hb dL_law_566 (by decide) ?_
  refine lv_iadd hx hb dL_law_567 ?_
  refine va_sld hx hb hX hbl hbA hS (by rw [fa_lit 1, nI_step]; exact vp_in_nI (by omega) (by omega)) dL_law_568 ?_
  refine lv_aload_n hx hb dL_law_569 rfl (lv_at hl 3 rfl) ?_
  refine runX H locs cells slots Q 570 ls [] _ (fun H locs cells slots rm mc ms Pc Qc free hMt hrc hrs hR hpre hroom => vx_runSW (n := 3) (As := [.ref a.1, .int (xs (nI i + (1 : Int32)).toNatClampNeg), .ref oa]) (rest := []) ⟨hx, hb, hml, hown, hts⟩ hMt (vx_cwSW 3 hts gL_law_L_append rfl hrc hrs hdS_L_append hR) hpre rfl rfl hl.1 rfl (lv_room (Nat.le_of_ble_eq_true rfl)) dL_law_570 hroom) hW hS hrm1 (fun c' B' o' out' H1 locs1 hXI' hout hW1 hS1 => ?_)
  refine lv_istore (lv' := [(5, .int (nI k)), (0, .ref b), (1, .ref a.1), (2, .ref ma.1), (3, .ref oa), (4, .int (nI i))]) hx hb dL_law_573 hl (by decide) rfl (fun ls hl => ?_)
  have hW1 : WD D (fun q => s.heap.size ≤ q) (MW T ma cm ++ (XW T a c' ++ (OW T oa out' ++ PW T B'))) H1 := hW1.perm (by rw [← List.append_assoc, ← List.append_assoc, ← List.append_assoc (XW T a c')]; exact List.perm_append_comm)
  refine lv_aload_n hx hb dL_law_575 rfl (lv_at hl 3 rfl) ?_
  refine lv_aload_n hx hb dL_law_576 rfl (lv_at hl 1 rfl) ?_
  refine lv_iload hx hb dL_law_577 (lv_at hl 5 rfl) ?_
  refine lv_iconst (v := (1 : Int32)) hx hb dL_law_579 (by decide) ?_
  refine lv_iadd hx hb dL_law_580 ?_
  refine va_sld hx hb hX hbl hbA hS1 (by rw [fa_lit 1, nI_step]; exact vp_in_nI (by omega) (by omega)) dL_law_581 ?_
  refine runM H1 locs1 (cells + 6) (slots + 88) Q 582 ls [] _ _ (fun H locs cells slots rm mc ms Pc Qc free hMt hrc hrs hR hpre hroom => va_runV (n := 1) (C := RX7) (b := ma.1) (As := [.int (xs (nI i + (1 : Int32)).toNatClampNeg)]) (rest := []) ⟨hx, hb, hml, hown, hts⟩ hMt (cwV 1 hts gL_law_X7_append rfl hrc hrs hdV_X7_append hR) hpre rfl rfl hl.1 rfl (lv_room (Nat.le_of_ble_eq_true rfl)) dL_law_582 hroom) hW1 hS1 hrm2 (fun cm' r H2 locs2 hM' hr hthr hW2 hS2 => ?_)
  have hI2 : LI T D s a ma oa H2 := ⟨c', cm', B', o', S', out', hXI', hM', hWS', hW2.perm (List.Perm.trans List.perm_append_comm (by rw [List.append_assoc, List.append_assoc]))⟩
  refine lv_istore (lv' := [(6, .int r), (5, .int (nI k)), (0, .ref b), (1, .ref a.1), (2, .ref ma.1), (3, .ref oa), (4, .int (nI i))]) hx hb dL_law_585 hl (by decide) rfl (fun ls hl => ?_)
  refine lv_aload_n hx hb dL_law_587 rfl (lv_at hl 4 rfl) ?_
  obtain ⟨m_thrown, m_z, m_aside, m_saved, m_saves, m_slots, m_isKept, m_text, m_length, m_sums, m_numbers, m_read, m_reads⟩ := cm'
  obtain ⟨m_a, m_z_a, m_aside_a, m_saved_a, m_slots_a, m_isKept_a, m_text_a, m_sums_a, m_numbers_a, m_read_a⟩ := ma
  have hthr : m_thrown = nI k := hthr
  refine callPi (va_runV (n := 0) (C := RX7) (b := m_a) (As := []) (rest := []) ⟨hx, hb, hml, hown, hts⟩ (c_X7_thrown l D T m_a m_z_a m_aside_a m_saved_a m_slots_a m_isKept_a m_text_a m_sums_a m_numbers_a m_read_a m_thrown m_z m_aside m_saved m_saves m_slots m_isKept m_text m_length m_sums m_numbers m_read m_reads m_thrown rfl) (cwV 0 hts gL_law_X7_thrown rfl rfl rfl hdV_X7_thrown ⟨Nat.le_of_ble_eq_true rfl, Nat.le_of_ble_eq_true rfl⟩) (preBV hW2.fst.1 hK hN (ci := 7) rfl 0 rfl) rfl rfl hl.1 rfl (lv_room (Nat.le_of_ble_eq_true rfl)) dL_law_588 (rm_room hrm2 (by decide) (by decide))) ?_
  refine lv_iload hx hb dL_law_591 (lv_at hl 1 rfl) ?_
  refine lv_icmp_eq (tgt := 598) hx hb dL_law_593 (by decide) (fun _ => ?_) (fun hne => absurd hthr hne)
  refine lv_iload hx hb dL_law_598 (lv_at hl 1 rfl) ?_
  refine lv_if_ne (tgt := 615) hx hb dL_law_600 (by decide) (fun _ => ?_) (fun hk0 => ?_)
  · refine lv_goto (tgt := 1297) hx hb dL_law_615 (by decide) ?_
    exact kk H2 locs2 ls hI2 hS2 (lv_sub hl [2, 3, 4, 5, 6] rfl)
  · have hk9 : k = 0 := ik0 (by omega) hk0
    have hrv := hr hk9
    have hov := hout hk9
    have hWo : va_P D vwCl (OW T oa out') H2 := (WD.split.mp (WD.split.mp hW2).2.1).2.1.fst.1
    refine lv_aload_n hx hb dL_law_603 rfl (lv_at hl 5 rfl) ?_
    refine lv_iconst (v := (0 : Int32)) hx hb dL_law_604 (by decide) ?_
    refine va_lald (D := D) hx hb hK hWo 0 3 rfl rfl (gd_in (by decide)) dL_law_605 ?_
    refine lv_iload hx hb dL_law_606 (lv_at hl 0 rfl) ?_
    refine lv_i2l hx hb dL_law_608 rfl ?_
    refine W.lcmp hx hb dL_law_609 ?_
    refine lv_if_eq (tgt := 615) hx hb dL_law_610 (by decide) (fun _ => ?_) (fun hne => absurd (by rw [show (0 : Int32).toNatClampNeg = 0 from by decide, hov, hrv]; exact lg_same _) hne)
    refine lv_goto (tgt := 1297) hx hb dL_law_615 (by decide) ?_
    exact kk H2 locs2 ls hI2 hS2 (lv_sub hl [2, 3, 4, 5, 6] rfl)
set_option maxHeartbeats 4000000 in
set_option maxRecDepth 100000 in
theorem law_clearBuffer {p : Program} {l : Launch} {e : Env} {s : State} {m : MethodId} {args : Array Value} {below : List Frame} {meth : Method} {cd : Code} {D : va_G} {T : TY} {b L i : Nat} {xs : Nat → Int32} {a : XA} {ma : MA} {oa : Nat} {H : Heap} {locs : List Loc} {cells slots : Nat} {Q : State → Prop} {ls : Array Slot} (C : LX p l s m args cd D T b L xs) (hL : L ≤ 2048) (hi : i + 4 ≤ L) (hI : LI T D s a ma oa H) (hS : va_S (fun q => s.heap.size ≤ q) s.heap H locs) (hl : lv_has ls 9 [(0, .ref b), (1, .ref a.1), (2, .ref ma.1), (3, .ref oa), (4, .int (nI i))]) (hrm : cells + 12 ≤ room_1.cells ∧ slots + 176 ≤ room_1.slots)
    (kk : ∀ (H1 : Heap) (locs1 : List Loc) (ls1 : Array Slot), LI T D s a ma oa H1 → va_S (fun q => s.heap.size ≤ q) s.heap H1 locs1 → lv_has ls1 9 [(0, .ref b), (1, .ref a.1), (2, .ref ma.1), (3, .ref oa), (4, .int (nI i))] → W p l e room_1 s m args below meth cd H1 locs1 (cells + 6) (slots + 88) Q (F0 m 1297 ls1 [])) :
    W p l e room_1 s m args below meth cd H locs cells slots Q (F0 m 618 ls []) := by
  obtain ⟨hx, hb, hml, hown, hts, hK, hN, hZ, hfl, hX, hbl⟩ := C
  obtain ⟨c, cm, B, o, S, out, hXI, hM, hWS, hW⟩ := hI
  have hbA : ¬ (fun q : Nat => s.heap.size ≤ q) b := Nat.not_le.mpr hbl
  have hrm1 : cells + 6 ≤ room_1.cells ∧ slots + 88 ≤ room_1.slots := ⟨by omega, by omega⟩
  have hrm2 : cells + 6 + 6 ≤ room_1.cells ∧ slots + 88 + 88 ≤ room_1.slots := hrm
  obtain ⟨v, S', hWS', runX, runM⟩ := h_clearBuffer (a := a) (ma := ma) (oa := oa) (T := T) (R := MW T ma cm) (p := p) (l := l) (e := e) (s := s) (m := m) (args := args) (below := below) (meth := meth) (cd := cd) (out := out) hfl hK hN hZ hXI hM hWS 
  refine lv_aload_n hx hb dL_law_618 rfl (lv_at hl 1 rfl) ?_
  refine runX H locs cells slots Q 619 ls [] _ (fun H locs cells slots rm mc ms Pc Qc free hMt hrc hrs hR hpre hroom => va_runV (n := 0) (C := RX6) (b := a.1) (As := []) (rest := []) ⟨hx, hb, hml, hown, hts⟩ hMt (cwV 0 hts gL_law_X6_clearBuffer rfl hrc hrs hdV_X6_clearBuffer hR) hpre rfl rfl hl.1 rfl (lv_room (Nat.le_of_ble_eq_true rfl)) dL_law_619 hroom) hW hS hrm1 (fun c' B' o' out' H1 locs1 hXI' hW1 hS1 => ?_)
  have hW1 : WD D (fun q => s.heap.size ≤ q) (MW T ma cm ++ (XW T a c' ++ (OW T oa out' ++ PW T B'))) H1 := hW1.perm (by rw [← List.append_assoc, ← List.append_assoc, ← List.append_assoc (XW T a c')]; exact List.perm_append_comm)
  refine lv_aload_n hx hb dL_law_622 rfl (lv_at hl 2 rfl) ?_
  refine runM H1 locs1 (cells + 6) (slots + 88) Q 623 ls [.int v] _ _ (fun H locs cells slots rm mc ms Pc Qc free hMt hrc hrs hR hpre hroom => va_runV (n := 0) (C := RX7) (b := ma.1) (As := []) (rest := [.int v]) ⟨hx, hb, hml, hown, hts⟩ hMt (cwV 0 hts gL_law_X7_clearBuffer rfl hrc hrs hdV_X7_clearBuffer hR) hpre rfl rfl hl.1 rfl (lv_room (Nat.le_of_ble_eq_true rfl)) dL_law_623 hroom) hW1 hS1 hrm2 (fun cm' r H2 locs2 hM' hr hW2 hS2 => ?_)
  have hI2 : LI T D s a ma oa H2 := ⟨c', cm', B', o', S', out', hXI', hM', hWS', hW2.perm (List.Perm.trans List.perm_append_comm (by rw [List.append_assoc, List.append_assoc]))⟩
  obtain rfl := hr
  refine lv_icmp_eq (tgt := 1297) hx hb dL_law_626 (by decide) (fun _ => ?_) (fun hne => absurd rfl hne)
  exact kk H2 locs2 ls hI2 hS2 (lv_sub hl [0, 1, 2, 3, 4] rfl)
set_option maxHeartbeats 4000000 in
set_option maxRecDepth 100000 in
theorem law_firstError {p : Program} {l : Launch} {e : Env} {s : State} {m : MethodId} {args : Array Value} {below : List Frame} {meth : Method} {cd : Code} {D : va_G} {T : TY} {b L i : Nat} {xs : Nat → Int32} {a : XA} {ma : MA} {oa : Nat} {H : Heap} {locs : List Loc} {cells slots : Nat} {Q : State → Prop} {ls : Array Slot} (C : LX p l s m args cd D T b L xs) (hL : L ≤ 2048) (hi : i + 4 ≤ L) (hI : LI T D s a ma oa H) (hS : va_S (fun q => s.heap.size ≤ q) s.heap H locs) (hl : lv_has ls 9 [(0, .ref b), (1, .ref a.1), (2, .ref ma.1), (3, .ref oa), (4, .int (nI i))]) (hrm : cells + 12 ≤ room_1.cells ∧ slots + 176 ≤ room_1.slots)
    (kk : ∀ (H1 : Heap) (locs1 : List Loc) (ls1 : Array Slot), LI T D s a ma oa H1 → va_S (fun q => s.heap.size ≤ q) s.heap H1 locs1 → lv_has ls1 9 [(0, .ref b), (1, .ref a.1), (2, .ref ma.1), (3, .ref oa), (4, .int (nI i))] → W p l e room_1 s m args below meth cd H1 locs1 (cells + 6) (slots + 88) Q (F0 m 1297 ls1 [])) :
    W p l e room_1 s m args below meth cd H locs cells slots Q (F0 m 631 ls []) := by
  obtain ⟨hx, hb, hml, hown, hts, hK, hN, hZ, hfl, hX, hbl⟩ := C
  obtain ⟨c, cm, B, o, S, out, hXI, hM, hWS, hW⟩ := hI
  have hbA : ¬ (fun q : Nat => s.heap.size ≤ q) b := Nat.not_le.mpr hbl
  have hrm1 : cells + 6 ≤ room_1.cells ∧ slots + 88 ≤ room_1.slots := ⟨by omega, by omega⟩
  have hrm2 : cells + 6 + 6 ≤ room_1.cells ∧ slots + 88 + 88 ≤ room_1.slots := hrm
  obtain ⟨v, runX, runM⟩ := h_firstError (a := a) (ma := ma) (oa := oa) (T := T) (R := MW T ma cm) (p := p) (l := l) (e := e) (s := s) (m := m) (args := args) (below := below) (meth := meth) (cd := cd) (out := out) hfl hK hN hZ hXI hM hWS 
  have hWS' := hWS
  refine lv_aload_n hx hb dL_law_631 rfl (lv_at hl 1 rfl) ?_
  refine runX H locs cells slots Q 632 ls [] _ (fun H locs cells slots rm mc ms Pc Qc free hMt hrc hrs hR hpre hroom => va_runV (n := 0) (C := RX6) (b := a.1) (As := []) (rest := []) ⟨hx, hb, hml, hown, hts⟩ hMt (cwV 0 hts gL_law_X6_firstError rfl hrc hrs hdV_X6_firstError hR) hpre rfl rfl hl.1 rfl (lv_room (Nat.le_of_ble_eq_true rfl)) dL_law_632 hroom) hW hS hrm1 (fun c' B' o' out' H1 locs1 hXI' hW1 hS1 => ?_)
  have hW1 : WD D (fun q => s.heap.size ≤ q) (MW T ma cm ++ (XW T a c' ++ (OW T oa out' ++ PW T B'))) H1 := hW1.perm (by rw [← List.append_assoc, ← List.append_assoc, ← List.append_assoc (XW T a c')]; exact List.perm_append_comm)
  refine lv_aload_n hx hb dL_law_635 rfl (lv_at hl 2 rfl) ?_
  refine runM H1 locs1 (cells + 6) (slots + 88) Q 636 ls [.int v] _ _ (fun H locs cells slots rm mc ms Pc Qc free hMt hrc hrs hR hpre hroom => va_runV (n := 0) (C := RX7) (b := ma.1) (As := []) (rest := [.int v]) ⟨hx, hb, hml, hown, hts⟩ hMt (cwV 0 hts gL_law_X7_firstError rfl hrc hrs hdV_X7_firstError hR) hpre rfl rfl hl.1 rfl (lv_room (Nat.le_of_ble_eq_true rfl)) dL_law_636 hroom) hW1 hS1 hrm2 (fun cm' r H2 locs2 hM' hr hW2 hS2 => ?_)
  have hI2 : LI T D s a ma oa H2 := ⟨c', cm', B', o', S, out', hXI', hM', hWS', hW2.perm (List.Perm.trans List.perm_append_comm (by rw [List.append_assoc, List.append_assoc]))⟩
  obtain rfl := hr
  refine lv_icmp_eq (tgt := 1297) hx hb dL_law_639 (by decide) (fun _ => ?_) (fun hne => absurd rfl hne)
  exact kk H2 locs2 ls hI2 hS2 (lv_sub hl [0, 1, 2, 3, 4] rfl)
set_option maxHeartbeats 4000000 in
set_option maxRecDepth 100000 in
theorem law_load {p : Program} {l : Launch} {e : Env} {s : State} {m : MethodId} {args : Array Value} {below : List Frame} {meth : Method} {cd : Code} {D : va_G} {T : TY} {b L i : Nat} {xs : Nat → Int32} {a : XA} {ma : MA} {oa : Nat} {H : Heap} {locs : List Loc} {cells slots : Nat} {Q : State → Prop} {ls : Array Slot} (C : LX p l s m args cd D T b L xs) (hL : L ≤ 2048) (hi : i + 4 ≤ L) (hI : LI T D s a ma oa H) (hS : va_S (fun q => s.heap.size ≤ q) s.heap H locs) (hl : lv_has ls 9 [(0, .ref b), (1, .ref a.1), (2, .ref ma.1), (3, .ref oa), (4, .int (nI i))]) (hrm : cells + 12 ≤ room_1.cells ∧ slots + 176 ≤ room_1.slots)
    (kk : ∀ (H1 : Heap) (locs1 : List Loc) (ls1 : Array Slot), LI T D s a ma oa H1 → va_S (fun q => s.heap.size ≤ q) s.heap H1 locs1 → lv_has ls1 9 [(0, .ref b), (1, .ref a.1), (2, .ref ma.1), (3, .ref oa), (4, .int (nI i))] → W p l e room_1 s m args below meth cd H1 locs1 (cells + 6) (slots + 88) Q (F0 m 1297 ls1 [])) :
    W p l e room_1 s m args below meth cd H locs cells slots Q (F0 m 644 ls []) := by
  obtain ⟨hx, hb, hml, hown, hts, hK, hN, hZ, hfl, hX, hbl⟩ := C
  obtain ⟨c, cm, B, o, S, out, hXI, hM, hWS, hW⟩ := hI
  have hbA : ¬ (fun q : Nat => s.heap.size ≤ q) b := Nat.not_le.mpr hbl
  have hrm1 : cells + 6 ≤ room_1.cells ∧ slots + 88 ≤ room_1.slots := ⟨by omega, by omega⟩
  have hrm2 : cells + 6 + 6 ≤ room_1.cells ∧ slots + 88 + 88 ≤ room_1.slots := hrm
  obtain ⟨k, v, S', hWS', hk3, runX, runM⟩ := h_load (a := a) (ma := ma) (oa := oa) (T := T) (R := MW T ma cm) (p := p) (l := l) (e := e) (s := s) (m := m) (args := args) (below := below) (meth := meth) (cd := cd) (out := out) hfl hK hN hZ hXI hM hWS 
  refine lv_aload_n hx hb dL_law_644 rfl (lv_at hl 1 rfl) ?_
  refine lv_aload_n hx hb dL_law_645 rfl (lv_at hl 3 rfl) ?_
  refine runX H locs cells slots Q 646 ls [] _ (fun H locs cells slots rm mc ms Pc Qc free hMt hrc hrs hR hpre hroom => vx_runSW (n := 2) (As := [.ref a.1, .ref oa]) (rest := []) ⟨hx, hb, hml, hown, hts⟩ hMt (vx_cwSW 2 hts gL_law_L_load rfl hrc hrs hdS_L_loadA hR) hpre rfl rfl hl.1 rfl (lv_room (Nat.le_of_ble_eq_true rfl)) dL_law_646 hroom) hW hS hrm1 (fun c' B' o' out' H1 locs1 hXI' hout hW1 hS1 => ?_)
  refine lv_istore (lv' := [(5, .int (nI k)), (0, .ref b), (1, .ref a.1), (2, .ref ma.1), (3, .ref oa), (4, .int (nI i))]) hx hb dL_law_649 hl (by decide) rfl (fun ls hl => ?_)
  have hW1 : WD D (fun q => s.heap.size ≤ q) (MW T ma cm ++ (XW T a c' ++ (OW T oa out' ++ PW T B'))) H1 := hW1.perm (by rw [← List.append_assoc, ← List.append_assoc, ← List.append_assoc (XW T a c')]; exact List.perm_append_comm)
  refine lv_aload_n hx hb dL_law_651 rfl (lv_at hl 3 rfl) ?_
  refine runM H1 locs1 (cells + 6) (slots + 88) Q 652 ls [] _ _ (fun H locs cells slots rm mc ms Pc Qc free hMt hrc hrs hR hpre hroom => va_runV (n := 0) (C := RX7) (b := ma.1) (As := []) (rest := []) ⟨hx, hb, hml, hown, hts⟩ hMt (cwV 0 hts gL_law_X7_load rfl hrc hrs hdV_X7_load hR) hpre rfl rfl hl.1 rfl (lv_room (Nat.le_of_ble_eq_true rfl)) dL_law_652 hroom) hW1 hS1 hrm2 (fun cm' r H2 locs2 hM' hr hthr hW2 hS2 => ?_)
  have hI2 : LI T D s a ma oa H2 := ⟨c', cm', B', o', S', out', hXI', hM', hWS', hW2.perm (List.Perm.trans List.perm_append_comm (by rw [List.append_assoc, List.append_assoc]))⟩
  refine lv_istore (lv' := [(6, .int r), (5, .int (nI k)), (0, .ref b), (1, .ref a.1), (2, .ref ma.1), (3, .ref oa), (4, .int (nI i))]) hx hb dL_law_655 hl (by decide) rfl (fun ls hl => ?_)
  refine lv_aload_n hx hb dL_law_657 rfl (lv_at hl 4 rfl) ?_
  obtain ⟨m_thrown, m_z, m_aside, m_saved, m_saves, m_slots, m_isKept, m_text, m_length, m_sums, m_numbers, m_read, m_reads⟩ := cm'
  obtain ⟨m_a, m_z_a, m_aside_a, m_saved_a, m_slots_a, m_isKept_a, m_text_a, m_sums_a, m_numbers_a, m_read_a⟩ := ma
  have hthr : m_thrown = nI k := hthr
  refine callPi (va_runV (n := 0) (C := RX7) (b := m_a) (As := []) (rest := []) ⟨hx, hb, hml, hown, hts⟩ (c_X7_thrown l D T m_a m_z_a m_aside_a m_saved_a m_slots_a m_isKept_a m_text_a m_sums_a m_numbers_a m_read_a m_thrown m_z m_aside m_saved m_saves m_slots m_isKept m_text m_length m_sums m_numbers m_read m_reads m_thrown rfl) (cwV 0 hts gL_law_X7_thrown rfl rfl rfl hdV_X7_thrown ⟨Nat.le_of_ble_eq_true rfl, Nat.le_of_ble_eq_true rfl⟩) (preBV hW2.fst.1 hK hN (ci := 7) rfl 0 rfl) rfl rfl hl.1 rfl (lv_room (Nat.le_of_ble_eq_true rfl)) dL_law_658 (rm_room hrm2 (by decide) (by decide))) ?_
  refine lv_iload hx hb dL_law_661 (lv_at hl 1 rfl) ?_
  refine lv_icmp_eq (tgt := 668) hx hb dL_law_663 (by decide) (fun _ => ?_) (fun hne => absurd hthr hne)
  refine lv_iload hx hb dL_law_668 (lv_at hl 1 rfl) ?_
  refine lv_if_ne (tgt := 685) hx hb dL_law_670 (by decide) (fun _ => ?_) (fun hk0 => ?_)
  · refine lv_goto (tgt := 1297) hx hb dL_law_685 (by decide) ?_
    exact kk H2 locs2 ls hI2 hS2 (lv_sub hl [2, 3, 4, 5, 6] rfl)
  · have hk9 : k = 0 := ik0 (by omega) hk0
    have hrv := hr hk9
    have hov := hout hk9
    have hWo : va_P D vwCl (OW T oa out') H2 := (WD.split.mp (WD.split.mp hW2).2.1).2.1.fst.1
    refine lv_aload_n hx hb dL_law_673 rfl (lv_at hl 5 rfl) ?_
    refine lv_iconst (v := (0 : Int32)) hx hb dL_law_674 (by decide) ?_
    refine va_lald (D := D) hx hb hK hWo 0 3 rfl rfl (gd_in (by decide)) dL_law_675 ?_
    refine lv_iload hx hb dL_law_676 (lv_at hl 0 rfl) ?_
    refine lv_i2l hx hb dL_law_678 rfl ?_
    refine W.lcmp hx hb dL_law_679 ?_
    refine lv_if_eq (tgt := 685) hx hb dL_law_680 (by decide) (fun _ => ?_) (fun hne => absurd (by rw [show (0 : Int32).toNatClampNeg = 0 from by decide, hov, hrv]; exact lg_same _) hne)
    refine lv_goto (tgt := 1297) hx hb dL_law_685 (by decide) ?_
    exact kk H2 locs2 ls hI2 hS2 (lv_sub hl [2, 3, 4, 5, 6] rfl)
set_option maxHeartbeats 4000000 in
set_option maxRecDepth 100000 in
theorem law_keep {p : Program} {l : Launch} {e : Env} {s : State} {m : MethodId} {args : Array Value} {below : List Frame} {meth : Method} {cd : Code} {D : va_G} {T : TY} {b L i : Nat} {xs : Nat → Int32} {a : XA} {ma : MA} {oa : Nat} {H : Heap} {locs : List Loc} {cells slots : Nat} {Q : State → Prop} {ls : Array Slot} (C : LX p l s m args cd D T b L xs) (hL : L ≤ 2048) (hi : i + 4 ≤ L) (hI : LI T D s a ma oa H) (hS : va_S (fun q => s.heap.size ≤ q) s.heap H locs) (hl : lv_has ls 9 [(0, .ref b), (1, .ref a.1), (2, .ref ma.1), (3, .ref oa), (4, .int (nI i))]) (hrm : cells + 12 ≤ room_1.cells ∧ slots + 176 ≤ room_1.slots)
    (kk : ∀ (H1 : Heap) (locs1 : List Loc) (ls1 : Array Slot), LI T D s a ma oa H1 → va_S (fun q => s.heap.size ≤ q) s.heap H1 locs1 → lv_has ls1 9 [(0, .ref b), (1, .ref a.1), (2, .ref ma.1), (3, .ref oa), (4, .int (nI i))] → W p l e room_1 s m args below meth cd H1 locs1 (cells + 6) (slots + 88) Q (F0 m 1297 ls1 [])) :
    W p l e room_1 s m args below meth cd H locs cells slots Q (F0 m 688 ls []) := by
  obtain ⟨hx, hb, hml, hown, hts, hK, hN, hZ, hfl, hX, hbl⟩ := C
  obtain ⟨c, cm, B, o, S, out, hXI, hM, hWS, hW⟩ := hI
  have hbA : ¬ (fun q : Nat => s.heap.size ≤ q) b := Nat.not_le.mpr hbl
  have hrm1 : cells + 6 ≤ room_1.cells ∧ slots + 88 ≤ room_1.slots := ⟨by omega, by omega⟩
  have hrm2 : cells + 6 + 6 ≤ room_1.cells ∧ slots + 88 + 88 ≤ room_1.slots := hrm
  obtain ⟨k, v, S', hWS', hk3, runX, runM⟩ := h_keep (a := a) (ma := ma) (oa := oa) (T := T) (R := MW T ma cm) (p := p) (l := l) (e := e) (s := s) (m := m) (args := args) (below := below) (meth := meth) (cd := cd) (out := out) hfl hK hN hZ hXI hM hWS (xs (nI i + (1 : Int32)).toNatClampNeg)
  refine lv_aload_n hx hb dL_law_688 rfl (lv_at hl 1 rfl) ?_
  refine lv_aload_n hx hb dL_law_689 rfl (lv_at hl 0 rfl) ?_
  refine lv_iload hx hb dL_law_690 (lv_at hl 4 rfl) ?_
  refine lv_iconst (v := (1 : Int32)) hx hb dL_law_692 (by decide) ?_
  refine lv_iadd hx hb dL_law_693 ?_
  refine va_sld hx hb hX hbl hbA hS (by rw [fa_lit 1, nI_step]; exact vp_in_nI (by omega) (by omega)) dL_law_694 ?_
  refine lv_aload_n hx hb dL_law_695 rfl (lv_at hl 3 rfl) ?_
  refine runX H locs cells slots Q 696 ls [] _ (fun H locs cells slots rm mc ms Pc Qc free hMt hrc hrs hR hpre hroom => vx_runSW (n := 3) (As := [.ref a.1, .int (xs (nI i + (1 : Int32)).toNatClampNeg), .ref oa]) (rest := []) ⟨hx, hb, hml, hown, hts⟩ hMt (vx_cwSW 3 hts gL_law_L_keep rfl hrc hrs hdS_L_keepA hR) hpre rfl rfl hl.1 rfl (lv_room (Nat.le_of_ble_eq_true rfl)) dL_law_696 hroom) hW hS hrm1 (fun c' B' o' out' H1 locs1 hXI' hout hW1 hS1 => ?_)
  refine lv_istore (lv' := [(5, .int (nI k)), (0, .ref b), (1, .ref a.1), (2, .ref ma.1), (3, .ref oa), (4, .int (nI i))]) hx hb dL_law_699 hl (by decide) rfl (fun ls hl => ?_)
  have hW1 : WD D (fun q => s.heap.size ≤ q) (MW T ma cm ++ (XW T a c' ++ (OW T oa out' ++ PW T B'))) H1 := hW1.perm (by rw [← List.append_assoc, ← List.append_assoc, ← List.append_assoc (XW T a c')]; exact List.perm_append_comm)
  refine lv_aload_n hx hb dL_law_701 rfl (lv_at hl 3 rfl) ?_
  refine lv_aload_n hx hb dL_law_702 rfl (lv_at hl 1 rfl) ?_
  refine lv_iload hx hb dL_law_703 (lv_at hl 5 rfl) ?_
  refine lv_iconst (v := (1 : Int32)) hx hb dL_law_705 (by decide) ?_
  refine lv_iadd hx hb dL_law_706 ?_
  refine va_sld hx hb hX hbl hbA hS1 (by rw [fa_lit 1, nI_step]; exact vp_in_nI (by omega) (by omega)) dL_law_707 ?_
  refine runM H1 locs1 (cells + 6) (slots + 88) Q 708 ls [] _ _ (fun H locs cells slots rm mc ms Pc Qc free hMt hrc hrs hR hpre hroom => va_runV (n := 1) (C := RX7) (b := ma.1) (As := [.int (xs (nI i + (1 : Int32)).toNatClampNeg)]) (rest := []) ⟨hx, hb, hml, hown, hts⟩ hMt (cwV 1 hts gL_law_X7_keep rfl hrc hrs hdV_X7_keep hR) hpre rfl rfl hl.1 rfl (lv_room (Nat.le_of_ble_eq_true rfl)) dL_law_708 hroom) hW1 hS1 hrm2 (fun cm' r H2 locs2 hM' hr hthr hW2 hS2 => ?_)
  have hI2 : LI T D s a ma oa H2 := ⟨c', cm', B', o', S', out', hXI', hM', hWS', hW2.perm (List.Perm.trans List.perm_append_comm (by rw [List.append_assoc, List.append_assoc]))⟩
  refine lv_istore (lv' := [(6, .int r), (5, .int (nI k)), (0, .ref b), (1, .ref a.1), (2, .ref ma.1), (3, .ref oa), (4, .int (nI i))]) hx hb dL_law_711 hl (by decide) rfl (fun ls hl => ?_)
  refine lv_aload_n hx hb dL_law_713 rfl (lv_at hl 4 rfl) ?_
  obtain ⟨m_thrown, m_z, m_aside, m_saved, m_saves, m_slots, m_isKept, m_text, m_length, m_sums, m_numbers, m_read, m_reads⟩ := cm'
  obtain ⟨m_a, m_z_a, m_aside_a, m_saved_a, m_slots_a, m_isKept_a, m_text_a, m_sums_a, m_numbers_a, m_read_a⟩ := ma
  have hthr : m_thrown = nI k := hthr
  refine callPi (va_runV (n := 0) (C := RX7) (b := m_a) (As := []) (rest := []) ⟨hx, hb, hml, hown, hts⟩ (c_X7_thrown l D T m_a m_z_a m_aside_a m_saved_a m_slots_a m_isKept_a m_text_a m_sums_a m_numbers_a m_read_a m_thrown m_z m_aside m_saved m_saves m_slots m_isKept m_text m_length m_sums m_numbers m_read m_reads m_thrown rfl) (cwV 0 hts gL_law_X7_thrown rfl rfl rfl hdV_X7_thrown ⟨Nat.le_of_ble_eq_true rfl, Nat.le_of_ble_eq_true rfl⟩) (preBV hW2.fst.1 hK hN (ci := 7) rfl 0 rfl) rfl rfl hl.1 rfl (lv_room (Nat.le_of_ble_eq_true rfl)) dL_law_714 (rm_room hrm2 (by decide) (by decide))) ?_
  refine lv_iload hx hb dL_law_717 (lv_at hl 1 rfl) ?_
  refine lv_icmp_eq (tgt := 724) hx hb dL_law_719 (by decide) (fun _ => ?_) (fun hne => absurd hthr hne)
  refine lv_iload hx hb dL_law_724 (lv_at hl 1 rfl) ?_
  refine lv_if_ne (tgt := 741) hx hb dL_law_726 (by decide) (fun _ => ?_) (fun hk0 => ?_)
  · refine lv_goto (tgt := 1297) hx hb dL_law_741 (by decide) ?_
    exact kk H2 locs2 ls hI2 hS2 (lv_sub hl [2, 3, 4, 5, 6] rfl)
  · have hk9 : k = 0 := ik0 (by omega) hk0
    have hrv := hr hk9
    have hov := hout hk9
    have hWo : va_P D vwCl (OW T oa out') H2 := (WD.split.mp (WD.split.mp hW2).2.1).2.1.fst.1
    refine lv_aload_n hx hb dL_law_729 rfl (lv_at hl 5 rfl) ?_
    refine lv_iconst (v := (0 : Int32)) hx hb dL_law_730 (by decide) ?_
    refine va_lald (D := D) hx hb hK hWo 0 3 rfl rfl (gd_in (by decide)) dL_law_731 ?_
    refine lv_iload hx hb dL_law_732 (lv_at hl 0 rfl) ?_
    refine lv_i2l hx hb dL_law_734 rfl ?_
    refine W.lcmp hx hb dL_law_735 ?_
    refine lv_if_eq (tgt := 741) hx hb dL_law_736 (by decide) (fun _ => ?_) (fun hne => absurd (by rw [show (0 : Int32).toNatClampNeg = 0 from by decide, hov, hrv]; exact lg_same _) hne)
    refine lv_goto (tgt := 1297) hx hb dL_law_741 (by decide) ?_
    exact kk H2 locs2 ls hI2 hS2 (lv_sub hl [2, 3, 4, 5, 6] rfl)
