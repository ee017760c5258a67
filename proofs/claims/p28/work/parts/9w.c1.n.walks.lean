/-! ===== walks, laid by wip/gen28/genlaw28.py: L_isSo ===== -/
def rmL_isSo : Room := { frames := 11, cells := 0, slots := 0, locals := 230 }
theorem hdS_L_isSo : yL_isSo.cls ≠ "java/lang/invoke/MethodHandle" ∧ yL_isSo.cls ≠ "java/lang/invoke/VarHandle" ∧ (parseMethodDescriptor yL_isSo.desc).map (fun d => d.parameters.length) = some 4 := by decide +kernel
theorem mw_L_isSo_0 : Cond.static yL_goesOn ∈ wsL_isSo := by decide +kernel
theorem mw_L_isSo_1 : Cond.static yL_cross ∈ wsL_isSo := by decide +kernel
theorem mw_L_isSo_2 : Cond.static yL_crossings ∈ wsL_isSo := by decide +kernel
theorem mw_L_isSo_3 : Cond.static yL_side ∈ wsL_isSo := by decide +kernel
set_option maxHeartbeats 4000000 in
set_option maxRecDepth 100000 in
theorem w_L_isSo_b63 {p : Program} {l : Launch} {e : Env} {s : State} {m : MethodId} {args : Array Value} {below : List Frame} {meth : Method} {c : Code} {D : va_G} {T : TY} {zr_a za_a zg_a : Nat} {xa : XA} {xB : Nat → Option DB} {xo xh : Nat} {zr : Nat → Int32} {za : Nat → Int32} {zg : Nat → Int32} {E : DR} {res : Int32} {K17 : Int32 → Int32 → Int32 → Int32 → Int32 → Option (Int32)} {K30 : Int32 → Int32 → Int32 → Int32 → Int32 → Int32 → Int32 → Option (Int32)} (hw : WF E) (C : CX p s m args meth c cL_isSo 11 RL wsL_isSo (some .boolean) D T) {A : Nat → Prop} (hA : ∀ q, s.heap.size ≤ q → A q) (hK17 : ∀ x4 : Int32, ∀ x5 : Int32, ∀ x6 : Int32, ∀ x7 : Int32, ∀ x8 : Int32, K17 x4 x5 x6 x7 x8 = some res → ∀ (xc : XC), XP xc xB xo xh E → ∀ (H : Heap) (locs : List Loc), va_P D vwCl ((zr_a, .inl (T.1, (60, .inl zr))) :: (za_a, .inl (T.1, (16, .inl za))) :: (zg_a, .inl (T.1, (2, .inl zg))) :: (XW T xa xc ++ PW T xB)) H → va_D A ((zr_a, .inl (T.1, (60, .inl zr))) :: (za_a, .inl (T.1, (16, .inl za))) :: (zg_a, .inl (T.1, (2, .inl zg))) :: (XW T xa xc ++ PW T xB)) → va_S A s.heap H locs → ∀ ls : Array Slot, lv_has ls 11 [(0, .ref xa.1), (1, .ref zr_a), (2, .ref za_a), (3, .ref zg_a), (4, .int x4), (5, .int x5), (6, .int x6), (7, .int x7), (8, .int x8)] → W p l e rmL_isSo s m args below meth c H locs 0 0 (MQ below (Qm (some (.int res)) D (fun W9 => ∃ xc : XC, XP xc xB xo xh E ∧ W9 = ((zr_a, .inl (T.1, (60, .inl zr))) :: (za_a, .inl (T.1, (16, .inl za))) :: (zg_a, .inl (T.1, (2, .inl zg))) :: (XW T xa xc ++ PW T xB))) A) args s 0 0 A) (F0 m 17 ls [])) (hK30 : ∀ x4 : Int32, ∀ x5 : Int32, ∀ x6 : Int32, ∀ x7 : Int32, ∀ x8 : Int32, ∀ x9 : Int32, ∀ x10 : Int32, K30 x4 x5 x6 x7 x8 x9 x10 = some res → ∀ (xc : XC), XP xc xB xo xh E → ∀ (H : Heap) (locs : List Loc), va_P D vwCl ((zr_a, .inl (T.1, (60, .inl zr))) :: (za_a, .inl (T.1, (16, .inl za))) :: (zg_a, .inl (T.1, (2, .inl zg))) :: (XW T xa xc ++ PW T xB)) H → va_D A ((zr_a, .inl (T.1, (60, .inl zr))) :: (za_a, .inl (T.1, (16, .inl za))) :: (zg_a, .inl (T.1, (2, .inl zg))) :: (XW T xa xc ++ PW T xB)) → va_S A s.heap H locs → ∀ ls : Array Slot, lv_has ls 11 [(0, .ref xa.1), (1, .ref zr_a), (2, .ref za_a), (3, .ref zg_a), (4, .int x4), (5, .int x5), (6, .int x6), (7, .int x7), (8, .int x8), (9, .int x9), (10, .int x10)] → W p l e rmL_isSo s m args below meth c H locs 0 0 (MQ below (Qm (some (.int res)) D (fun W9 => ∃ xc : XC, XP xc xB xo xh E ∧ W9 = ((zr_a, .inl (T.1, (60, .inl zr))) :: (za_a, .inl (T.1, (16, .inl za))) :: (zg_a, .inl (T.1, (2, .inl zg))) :: (XW T xa xc ++ PW T xB))) A) args s 0 0 A) (F0 m 30 ls [])) : ∀ s0 : Int32, ∀ s1 : Int32, ∀ x4 : Int32, ∀ x5 : Int32, ∀ x6 : Int32, ∀ x7 : Int32, ∀ x8 : Int32, ∀ x10 : Int32, f_L_isSo_b63 zr za zg E K17 K30 s0 s1 x4 x5 x6 x7 x8 x10 = some res → ∀ (xc : XC), XP xc xB xo xh E → ∀ (H : Heap) (locs : List Loc), va_P D vwCl ((zr_a, .inl (T.1, (60, .inl zr))) :: (za_a, .inl (T.1, (16, .inl za))) :: (zg_a, .inl (T.1, (2, .inl zg))) :: (XW T xa xc ++ PW T xB)) H → va_D A ((zr_a, .inl (T.1, (60, .inl zr))) :: (za_a, .inl (T.1, (16, .inl za))) :: (zg_a, .inl (T.1, (2, .inl zg))) :: (XW T xa xc ++ PW T xB)) → va_S A s.heap H locs → ∀ ls : Array Slot, lv_has ls 11 [(0, .ref xa.1), (1, .ref zr_a), (2, .ref za_a), (3, .ref zg_a), (4, .int x4), (5, .int x5), (6, .int x6), (7, .int x7), (8, .int x8), (10, .int x10)] → W p l e rmL_isSo s m args below meth c H locs 0 0 (MQ below (Qm (some (.int res)) D (fun W9 => ∃ xc : XC, XP xc xB xo xh E ∧ W9 = ((zr_a, .inl (T.1, (60, .inl zr))) :: (za_a, .inl (T.1, (16, .inl za))) :: (zg_a, .inl (T.1, (2, .inl zg))) :: (XW T xa xc ++ PW T xB))) A) args s 0 0 A) (F0 m 63 ls [.int s0, .int s1]) := by
  obtain ⟨hx, hb, hml, hown, hts, hr, hlocks, hK, hN⟩ := id C
  intro s0 s1 x4 x5 x6 x7 x8 x10 hf xc hX H locs hP hD hS ls hl
  unfold f_L_isSo_b63 at hf
  refine lv_iadd hx hb dL_isSo_63 ?_
  obtain ⟨v64, e_64, hf⟩ := nm_some hf
  refine lv_nmi e_64 ?_
  refine lv_istore (lv' := [(9, .int v64), (0, .ref xa.1), (1, .ref zr_a), (2, .ref za_a), (3, .ref zg_a), (4, .int x4), (5, .int x5), (6, .int x6), (7, .int x7), (8, .int x8), (10, .int x10)]) hx hb dL_isSo_64 hl (by decide) rfl (fun ls hl => ?_)
  obtain ⟨v66, e_66, hf⟩ := nm_some hf
  refine lv_iinc (v := v66) (lv' := [(10, .int v66), (9, .int v64), (0, .ref xa.1), (1, .ref zr_a), (2, .ref za_a), (3, .ref zg_a), (4, .int x4), (5, .int x5), (6, .int x6), (7, .int x7), (8, .int x8)]) hx hb dL_isSo_66 hl (k := 10) rfl (by rw [e_66]; rfl) (by decide) rfl (fun ls hl => ?_)
  refine lv_goto (tgt := 30) hx hb dL_isSo_69 (by decide) ?_
  exact hK30 _ _ _ _ _ _ _ hf _ hX _ _ hP hD hS _ (lv_sub hl [2, 3, 4, 5, 6, 7, 8, 9, 10, 1, 0] rfl)
set_option maxHeartbeats 4000000 in
set_option maxRecDepth 100000 in
theorem w_L_isSo_b62 {p : Program} {l : Launch} {e : Env} {s : State} {m : MethodId} {args : Array Value} {below : List Frame} {meth : Method} {c : Code} {D : va_G} {T : TY} {zr_a za_a zg_a : Nat} {xa : XA} {xB : Nat → Option DB} {xo xh : Nat} {zr : Nat → Int32} {za : Nat → Int32} {zg : Nat → Int32} {E : DR} {res : Int32} {K17 : Int32 → Int32 → Int32 → Int32 → Int32 → Option (Int32)} {K30 : Int32 → Int32 → Int32 → Int32 → Int32 → Int32 → Int32 → Option (Int32)} (hw : WF E) (C : CX p s m args meth c cL_isSo 11 RL wsL_isSo (some .boolean) D T) {A : Nat → Prop} (hA : ∀ q, s.heap.size ≤ q → A q) (hK17 : ∀ x4 : Int32, ∀ x5 : Int32, ∀ x6 : Int32, ∀ x7 : Int32, ∀ x8 : Int32, K17 x4 x5 x6 x7 x8 = some res → ∀ (xc : XC), XP xc xB xo xh E → ∀ (H : Heap) (locs : List Loc), va_P D vwCl ((zr_a, .inl (T.1, (60, .inl zr))) :: (za_a, .inl (T.1, (16, .inl za))) :: (zg_a, .inl (T.1, (2, .inl zg))) :: (XW T xa xc ++ PW T xB)) H → va_D A ((zr_a, .inl (T.1, (60, .inl zr))) :: (za_a, .inl (T.1, (16, .inl za))) :: (zg_a, .inl (T.1, (2, .inl zg))) :: (XW T xa xc ++ PW T xB)) → va_S A s.heap H locs → ∀ ls : Array Slot, lv_has ls 11 [(0, .ref xa.1), (1, .ref zr_a), (2, .ref za_a), (3, .ref zg_a), (4, .int x4), (5, .int x5), (6, .int x6), (7, .int x7), (8, .int x8)] → W p l e rmL_isSo s m args below meth c H locs 0 0 (MQ below (Qm (some (.int res)) D (fun W9 => ∃ xc : XC, XP xc xB xo xh E ∧ W9 = ((zr_a, .inl (T.1, (60, .inl zr))) :: (za_a, .inl (T.1, (16, .inl za))) :: (zg_a, .inl (T.1, (2, .inl zg))) :: (XW T xa xc ++ PW T xB))) A) args s 0 0 A) (F0 m 17 ls [])) (hK30 : ∀ x4 : Int32, ∀ x5 : Int32, ∀ x6 : Int32, ∀ x7 : Int32, ∀ x8 : Int32, ∀ x9 : Int32, ∀ x10 : Int32, K30 x4 x5 x6 x7 x8 x9 x10 = some res → ∀ (xc : XC), XP xc xB xo xh E → ∀ (H : Heap) (locs : List Loc), va_P D vwCl ((zr_a, .inl (T.1, (60, .inl zr))) :: (za_a, .inl (T.1, (16, .inl za))) :: (zg_a, .inl (T.1, (2, .inl zg))) :: (XW T xa xc ++ PW T xB)) H → va_D A ((zr_a, .inl (T.1, (60, .inl zr))) :: (za_a, .inl (T.1, (16, .inl za))) :: (zg_a, .inl (T.1, (2, .inl zg))) :: (XW T xa xc ++ PW T xB)) → va_S A s.heap H locs → ∀ ls : Array Slot, lv_has ls 11 [(0, .ref xa.1), (1, .ref zr_a), (2, .ref za_a), (3, .ref zg_a), (4, .int x4), (5, .int x5), (6, .int x6), (7, .int x7), (8, .int x8), (9, .int x9), (10, .int x10)] → W p l e rmL_isSo s m args below meth c H locs 0 0 (MQ below (Qm (some (.int res)) D (fun W9 => ∃ xc : XC, XP xc xB xo xh E ∧ W9 = ((zr_a, .inl (T.1, (60, .inl zr))) :: (za_a, .inl (T.1, (16, .inl za))) :: (zg_a, .inl (T.1, (2, .inl zg))) :: (XW T xa xc ++ PW T xB))) A) args s 0 0 A) (F0 m 30 ls [])) : ∀ s0 : Int32, ∀ x4 : Int32, ∀ x5 : Int32, ∀ x6 : Int32, ∀ x7 : Int32, ∀ x8 : Int32, ∀ x10 : Int32, f_L_isSo_b62 zr za zg E K17 K30 s0 x4 x5 x6 x7 x8 x10 = some res → ∀ (xc : XC), XP xc xB xo xh E → ∀ (H : Heap) (locs : List Loc), va_P D vwCl ((zr_a, .inl (T.1, (60, .inl zr))) :: (za_a, .inl (T.1, (16, .inl za))) :: (zg_a, .inl (T.1, (2, .inl zg))) :: (XW T xa xc ++ PW T xB)) H → va_D A ((zr_a, .inl (T.1, (60, .inl zr))) :: (za_a, .inl (T.1, (16, .inl za))) :: (zg_a, .inl (T.1, (2, .inl zg))) :: (XW T xa xc ++ PW T xB)) → va_S A s.heap H locs → ∀ ls : Array Slot, lv_has ls 11 [(0, .ref xa.1), (1, .ref zr_a), (2, .ref za_a), (3, .ref zg_a), (4, .int x4), (5, .int x5), (6, .int x6), (7, .int x7), (8, .int x8), (10, .int x10)] → W p l e rmL_isSo s m args below meth c H locs 0 0 (MQ below (Qm (some (.int res)) D (fun W9 => ∃ xc : XC, XP xc xB xo xh E ∧ W9 = ((zr_a, .inl (T.1, (60, .inl zr))) :: (za_a, .inl (T.1, (16, .inl za))) :: (zg_a, .inl (T.1, (2, .inl zg))) :: (XW T xa xc ++ PW T xB))) A) args s 0 0 A) (F0 m 62 ls [.int s0]) := by
  obtain ⟨hx, hb, hml, hown, hts, hr, hlocks, hK, hN⟩ := id C
  intro s0 x4 x5 x6 x7 x8 x10 hf xc hX H locs hP hD hS ls hl
  unfold f_L_isSo_b62 at hf
  refine lv_iconst (v := (0 : Int32)) hx hb dL_isSo_62 (by decide) ?_
  exact w_L_isSo_b63 hw C hA hK17 hK30 _ _ _ _ _ _ _ _ hf _ hX _ _ hP hD hS _ (lv_sub hl [0, 1, 2, 3, 4, 5, 6, 7, 8, 9] rfl)
set_option maxHeartbeats 4000000 in
set_option maxRecDepth 100000 in
theorem w_L_isSo_b145 {p : Program} {l : Launch} {e : Env} {s : State} {m : MethodId} {args : Array Value} {below : List Frame} {meth : Method} {c : Code} {D : va_G} {T : TY} {zr_a za_a zg_a : Nat} {xa : XA} {xB : Nat → Option DB} {xo xh : Nat} {zr : Nat → Int32} {za : Nat → Int32} {zg : Nat → Int32} {E : DR} {res : Int32} {K17 : Int32 → Int32 → Int32 → Int32 → Int32 → Option (Int32)} (hw : WF E) (C : CX p s m args meth c cL_isSo 11 RL wsL_isSo (some .boolean) D T) {A : Nat → Prop} (hA : ∀ q, s.heap.size ≤ q → A q) (hK17 : ∀ x4 : Int32, ∀ x5 : Int32, ∀ x6 : Int32, ∀ x7 : Int32, ∀ x8 : Int32, K17 x4 x5 x6 x7 x8 = some res → ∀ (xc : XC), XP xc xB xo xh E → ∀ (H : Heap) (locs : List Loc), va_P D vwCl ((zr_a, .inl (T.1, (60, .inl zr))) :: (za_a, .inl (T.1, (16, .inl za))) :: (zg_a, .inl (T.1, (2, .inl zg))) :: (XW T xa xc ++ PW T xB)) H → va_D A ((zr_a, .inl (T.1, (60, .inl zr))) :: (za_a, .inl (T.1, (16, .inl za))) :: (zg_a, .inl (T.1, (2, .inl zg))) :: (XW T xa xc ++ PW T xB)) → va_S A s.heap H locs → ∀ ls : Array Slot, lv_has ls 11 [(0, .ref xa.1), (1, .ref zr_a), (2, .ref za_a), (3, .ref zg_a), (4, .int x4), (5, .int x5), (6, .int x6), (7, .int x7), (8, .int x8)] → W p l e rmL_isSo s m args below meth c H locs 0 0 (MQ below (Qm (some (.int res)) D (fun W9 => ∃ xc : XC, XP xc xB xo xh E ∧ W9 = ((zr_a, .inl (T.1, (60, .inl zr))) :: (za_a, .inl (T.1, (16, .inl za))) :: (zg_a, .inl (T.1, (2, .inl zg))) :: (XW T xa xc ++ PW T xB))) A) args s 0 0 A) (F0 m 17 ls [])) : ∀ s0 : Int32, ∀ s1 : Int32, ∀ x4 : Int32, ∀ x5 : Int32, ∀ x6 : Int32, ∀ x7 : Int32, ∀ x8 : Int32, ∀ x9 : Int32, f_L_isSo_b145 zr za zg E K17 s0 s1 x4 x5 x6 x7 x8 x9 = some res → ∀ (xc : XC), XP xc xB xo xh E → ∀ (H : Heap) (locs : List Loc), va_P D vwCl ((zr_a, .inl (T.1, (60, .inl zr))) :: (za_a, .inl (T.1, (16, .inl za))) :: (zg_a, .inl (T.1, (2, .inl zg))) :: (XW T xa xc ++ PW T xB)) H → va_D A ((zr_a, .inl (T.1, (60, .inl zr))) :: (za_a, .inl (T.1, (16, .inl za))) :: (zg_a, .inl (T.1, (2, .inl zg))) :: (XW T xa xc ++ PW T xB)) → va_S A s.heap H locs → ∀ ls : Array Slot, lv_has ls 11 [(0, .ref xa.1), (1, .ref zr_a), (2, .ref za_a), (3, .ref zg_a), (4, .int x4), (5, .int x5), (6, .int x6), (7, .int x7), (8, .int x8), (9, .int x9)] → W p l e rmL_isSo s m args below meth c H locs 0 0 (MQ below (Qm (some (.int res)) D (fun W9 => ∃ xc : XC, XP xc xB xo xh E ∧ W9 = ((zr_a, .inl (T.1, (60, .inl zr))) :: (za_a, .inl (T.1, (16, .inl za))) :: (zg_a, .inl (T.1, (2, .inl zg))) :: (XW T xa xc ++ PW T xB))) A) args s 0 0 A) (F0 m 145 ls [.int s0, .int s1]) := by
  obtain ⟨hx, hb, hml, hown, hts, hr, hlocks, hK, hN⟩ := id C
  intro s0 s1 x4 x5 x6 x7 x8 x9 hf xc hX H locs hP hD hS ls hl
  unfold f_L_isSo_b145 at hf
  refine lv_icmp_ne (tgt := 160) hx hb dL_isSo_145 (by decide) (fun c_145 => ?_) (fun c_145 => ?_)
  · have hf := it_neg c_145 hf
    refine lv_iconst (v := (0 : Int32)) hx hb dL_isSo_160 (by decide) ?_
    obtain rfl := Option.some.inj hf
    exact W.zret hx hb hr (by decide) (fun t ht hW => ⟨rfl, ⟨_, ⟨_, hX, rfl⟩, by rw [ht]; exact hP, hD⟩, hS.F ht⟩) hS.2.2 dL_isSo_161 hlocks
  · have hf := it_pos c_145 hf
    refine lv_aload_n hx hb dL_isSo_148 rfl (lv_at hl 0 rfl) ?_
    refine lv_iload hx hb dL_isSo_149 (lv_at hl 8 rfl) ?_
    refine lv_iconst (v := (4 : Int32)) hx hb dL_isSo_151 (by decide) ?_
    obtain ⟨q152, e_152, hf⟩ := bd_some hf
    refine k_ribbonOf ⟨by decide, by decide⟩ hK hN hA (a := xa) (R := [(zr_a, .inl (T.1, (60, .inl zr))), (za_a, .inl (T.1, (16, .inl za))), (zg_a, .inl (T.1, (2, .inl zg)))]) hX hw e_152 (fun H locs cells slots rm mc ms Pc Qc free hMt hrc hrs hR hpre hroom => va_runV (n := 2) (C := RX6) (b := xa.1) (As := [.int x8, .int (4 : Int32)]) (rest := []) ⟨hx, hb, hml, hown, hts⟩ hMt (cwV 2 hts gL_isSo_X6_ribbonOf rfl hrc hrs hdV_X6_ribbonOf hR) hpre rfl rfl hl.1 rfl (lv_room (Nat.le_of_ble_eq_true rfl)) dL_isSo_152 hroom) ⟨hP, hD⟩ hS ⟨Nat.le_of_ble_eq_true rfl, Nat.le_of_ble_eq_true rfl⟩ ?_
    refine lv_iload hx hb dL_isSo_155 (lv_at hl 9 rfl) ?_
    refine lv_icmp_eq (tgt := 162) hx hb dL_isSo_157 (by decide) (fun c_157 => ?_) (fun c_157 => ?_)
    · have hf := it_pos c_157 hf
      refine lv_iload hx hb dL_isSo_162 (lv_at hl 5 rfl) ?_
      refine lv_aload_n hx hb dL_isSo_164 rfl (lv_at hl 1 rfl) ?_
      refine lv_iconst (v := (3 : Int32)) hx hb dL_isSo_165 (by decide) ?_
      refine lv_iload hx hb dL_isSo_166 (lv_at hl 8 rfl) ?_
      refine lv_imul hx hb dL_isSo_168 ?_
      refine lv_iconst (v := (2 : Int32)) hx hb dL_isSo_169 (by decide) ?_
      refine lv_iadd hx hb dL_isSo_170 ?_
      obtain ⟨g_171, hf⟩ := gd_some hf
      refine va_iald (D := D) hx hb hK hP 0 0 rfl rfl (gd_in g_171) dL_isSo_171 ?_
      refine lv_iadd hx hb dL_isSo_172 ?_
      obtain ⟨v173, e_173, hf⟩ := nm_some hf
      refine lv_nmi e_173 ?_
      refine lv_istore (lv' := [(5, .int v173), (0, .ref xa.1), (1, .ref zr_a), (2, .ref za_a), (3, .ref zg_a), (4, .int x4), (6, .int x6), (7, .int x7), (8, .int x8), (9, .int x9)]) hx hb dL_isSo_173 hl (by decide) rfl (fun ls hl => ?_)
      refine lv_iload hx hb dL_isSo_175 (lv_at hl 6 rfl) ?_
      refine lv_iload hx hb dL_isSo_177 (lv_at hl 9 rfl) ?_
      refine lv_iadd hx hb dL_isSo_179 ?_
      obtain ⟨v180, e_180, hf⟩ := nm_some hf
      refine lv_nmi e_180 ?_
      refine lv_istore (lv' := [(6, .int v180), (5, .int v173), (0, .ref xa.1), (1, .ref zr_a), (2, .ref za_a), (3, .ref zg_a), (4, .int x4), (7, .int x7), (8, .int x8), (9, .int x9)]) hx hb dL_isSo_180 hl (by decide) rfl (fun ls hl => ?_)
      obtain ⟨v182, e_182, hf⟩ := nm_some hf
      refine lv_iinc (v := v182) (lv' := [(8, .int v182), (6, .int v180), (5, .int v173), (0, .ref xa.1), (1, .ref zr_a), (2, .ref za_a), (3, .ref zg_a), (4, .int x4), (7, .int x7), (9, .int x9)]) hx hb dL_isSo_182 hl (k := 8) rfl (by rw [e_182]; rfl) (by decide) rfl (fun ls hl => ?_)
      refine lv_goto (tgt := 17) hx hb dL_isSo_185 (by decide) ?_
      exact hK17 _ _ _ _ _ hf _ hX _ _ hP hD hS _ (lv_sub hl [3, 4, 5, 6, 7, 2, 1, 8, 0] rfl)
    · have hf := it_neg c_157 hf
      refine lv_iconst (v := (0 : Int32)) hx hb dL_isSo_160 (by decide) ?_
      obtain rfl := Option.some.inj hf
      exact W.zret hx hb hr (by decide) (fun t ht hW => ⟨rfl, ⟨_, ⟨_, hX, rfl⟩, by rw [ht]; exact hP, hD⟩, hS.F ht⟩) hS.2.2 dL_isSo_161 hlocks
set_option maxHeartbeats 4000000 in
set_option maxRecDepth 100000 in
theorem w_L_isSo_b30 {p : Program} {l : Launch} {e : Env} {s : State} {m : MethodId} {args : Array Value} {below : List Frame} {meth : Method} {c : Code} {D : va_G} {T : TY} {zr_a za_a zg_a : Nat} {xa : XA} {xB : Nat → Option DB} {xo xh : Nat} {zr : Nat → Int32} {za : Nat → Int32} {zg : Nat → Int32} {E : DR} {res : Int32} {K17 : Int32 → Int32 → Int32 → Int32 → Int32 → Option (Int32)} (hw : WF E) (C : CX p s m args meth c cL_isSo 11 RL wsL_isSo (some .boolean) D T) {A : Nat → Prop} (hA : ∀ q, s.heap.size ≤ q → A q) (hK17 : ∀ x4 : Int32, ∀ x5 : Int32, ∀ x6 : Int32, ∀ x7 : Int32, ∀ x8 : Int32, K17 x4 x5 x6 x7 x8 = some res → ∀ (xc : XC), XP xc xB xo xh E → ∀ (H : Heap) (locs : List Loc), va_P D vwCl ((zr_a, .inl (T.1, (60, .inl zr))) :: (za_a, .inl (T.1, (16, .inl za))) :: (zg_a, .inl (T.1, (2, .inl zg))) :: (XW T xa xc ++ PW T xB)) H → va_D A ((zr_a, .inl (T.1, (60, .inl zr))) :: (za_a, .inl (T.1, (16, .inl za))) :: (zg_a, .inl (T.1, (2, .inl zg))) :: (XW T xa xc ++ PW T xB)) → va_S A s.heap H locs → ∀ ls : Array Slot, lv_has ls 11 [(0, .ref xa.1), (1, .ref zr_a), (2, .ref za_a), (3, .ref zg_a), (4, .int x4), (5, .int x5), (6, .int x6), (7, .int x7), (8, .int x8)] → W p l e rmL_isSo s m args below meth c H locs 0 0 (MQ below (Qm (some (.int res)) D (fun W9 => ∃ xc : XC, XP xc xB xo xh E ∧ W9 = ((zr_a, .inl (T.1, (60, .inl zr))) :: (za_a, .inl (T.1, (16, .inl za))) :: (zg_a, .inl (T.1, (2, .inl zg))) :: (XW T xa xc ++ PW T xB))) A) args s 0 0 A) (F0 m 17 ls [])) : ∀ F : Nat, ∀ x4 : Int32, ∀ x5 : Int32, ∀ x6 : Int32, ∀ x7 : Int32, ∀ x8 : Int32, ∀ x9 : Int32, ∀ x10 : Int32, f_L_isSo_b30 zr za zg E K17 F x4 x5 x6 x7 x8 x9 x10 = some res → ∀ (xc : XC), XP xc xB xo xh E → ∀ (H : Heap) (locs : List Loc), va_P D vwCl ((zr_a, .inl (T.1, (60, .inl zr))) :: (za_a, .inl (T.1, (16, .inl za))) :: (zg_a, .inl (T.1, (2, .inl zg))) :: (XW T xa xc ++ PW T xB)) H → va_D A ((zr_a, .inl (T.1, (60, .inl zr))) :: (za_a, .inl (T.1, (16, .inl za))) :: (zg_a, .inl (T.1, (2, .inl zg))) :: (XW T xa xc ++ PW T xB)) → va_S A s.heap H locs → ∀ ls : Array Slot, lv_has ls 11 [(0, .ref xa.1), (1, .ref zr_a), (2, .ref za_a), (3, .ref zg_a), (4, .int x4), (5, .int x5), (6, .int x6), (7, .int x7), (8, .int x8), (9, .int x9), (10, .int x10)] → W p l e rmL_isSo s m args below meth c H locs 0 0 (MQ below (Qm (some (.int res)) D (fun W9 => ∃ xc : XC, XP xc xB xo xh E ∧ W9 = ((zr_a, .inl (T.1, (60, .inl zr))) :: (za_a, .inl (T.1, (16, .inl za))) :: (zg_a, .inl (T.1, (2, .inl zg))) :: (XW T xa xc ++ PW T xB))) A) args s 0 0 A) (F0 m 30 ls []) := by
  obtain ⟨hx, hb, hml, hown, hts, hr, hlocks, hK, hN⟩ := id C
  intro F
  induction F with
  | zero => intro _ _ _ _ _ _ _ hf; cases hf
  | succ F ih =>
    intro x4 x5 x6 x7 x8 x9 x10 hf xc hX H locs hP hD hS ls hl
    unfold f_L_isSo_b30 at hf
    refine lv_iload hx hb dL_isSo_30 (lv_at hl 10 rfl) ?_
    refine lv_iload hx hb dL_isSo_32 (lv_at hl 4 rfl) ?_
    refine lv_icmp_ge (tgt := 72) hx hb dL_isSo_34 (by decide) (fun c_34 => ?_) (fun c_34 => ?_)
    · have hf := it_pos c_34 hf
      refine lv_aload_n hx hb dL_isSo_72 rfl (lv_at hl 0 rfl) ?_
      refine lv_iload hx hb dL_isSo_73 (lv_at hl 8 rfl) ?_
      refine lv_iconst (v := (0 : Int32)) hx hb dL_isSo_75 (by decide) ?_
      obtain ⟨q76, e_76, hf⟩ := bd_some hf
      refine k_ribbonOf ⟨by decide, by decide⟩ hK hN hA (a := xa) (R := [(zr_a, .inl (T.1, (60, .inl zr))), (za_a, .inl (T.1, (16, .inl za))), (zg_a, .inl (T.1, (2, .inl zg)))]) hX hw e_76 (fun H locs cells slots rm mc ms Pc Qc free hMt hrc hrs hR hpre hroom => va_runV (n := 2) (C := RX6) (b := xa.1) (As := [.int x8, .int (0 : Int32)]) (rest := []) ⟨hx, hb, hml, hown, hts⟩ hMt (cwV 2 hts gL_isSo_X6_ribbonOf rfl hrc hrs hdV_X6_ribbonOf hR) hpre rfl rfl hl.1 rfl (lv_room (Nat.le_of_ble_eq_true rfl)) dL_isSo_76 hroom) ⟨hP, hD⟩ hS ⟨Nat.le_of_ble_eq_true rfl, Nat.le_of_ble_eq_true rfl⟩ ?_
      refine lv_aload_n hx hb dL_isSo_79 rfl (lv_at hl 1 rfl) ?_
      refine lv_iconst (v := (3 : Int32)) hx hb dL_isSo_80 (by decide) ?_
      refine lv_iload hx hb dL_isSo_81 (lv_at hl 8 rfl) ?_
      refine lv_imul hx hb dL_isSo_83 ?_
      obtain ⟨g_84, hf⟩ := gd_some hf
      refine va_iald (D := D) hx hb hK hP 0 0 rfl rfl (gd_in g_84) dL_isSo_84 ?_
      refine lv_icmp_ne (tgt := 160) hx hb dL_isSo_85 (by decide) (fun c_85 => ?_) (fun c_85 => ?_)
      · have hf := it_neg c_85 hf
        refine lv_iconst (v := (0 : Int32)) hx hb dL_isSo_160 (by decide) ?_
        obtain rfl := Option.some.inj hf
        exact W.zret hx hb hr (by decide) (fun t ht hW => ⟨rfl, ⟨_, ⟨_, hX, rfl⟩, by rw [ht]; exact hP, hD⟩, hS.F ht⟩) hS.2.2 dL_isSo_161 hlocks
      · have hf := it_pos c_85 hf
        refine lv_aload_n hx hb dL_isSo_88 rfl (lv_at hl 0 rfl) ?_
        refine lv_iload hx hb dL_isSo_89 (lv_at hl 8 rfl) ?_
        refine lv_iconst (v := (1 : Int32)) hx hb dL_isSo_91 (by decide) ?_
        obtain ⟨q92, e_92, hf⟩ := bd_some hf
        refine k_ribbonOf ⟨by decide, by decide⟩ hK hN hA (a := xa) (R := [(zr_a, .inl (T.1, (60, .inl zr))), (za_a, .inl (T.1, (16, .inl za))), (zg_a, .inl (T.1, (2, .inl zg)))]) hX hw e_92 (fun H locs cells slots rm mc ms Pc Qc free hMt hrc hrs hR hpre hroom => va_runV (n := 2) (C := RX6) (b := xa.1) (As := [.int x8, .int (1 : Int32)]) (rest := []) ⟨hx, hb, hml, hown, hts⟩ hMt (cwV 2 hts gL_isSo_X6_ribbonOf rfl hrc hrs hdV_X6_ribbonOf hR) hpre rfl rfl hl.1 rfl (lv_room (Nat.le_of_ble_eq_true rfl)) dL_isSo_92 hroom) ⟨hP, hD⟩ hS ⟨Nat.le_of_ble_eq_true rfl, Nat.le_of_ble_eq_true rfl⟩ ?_
        refine lv_aload_n hx hb dL_isSo_95 rfl (lv_at hl 1 rfl) ?_
        refine lv_iconst (v := (3 : Int32)) hx hb dL_isSo_96 (by decide) ?_
        refine lv_iload hx hb dL_isSo_97 (lv_at hl 8 rfl) ?_
        refine lv_imul hx hb dL_isSo_99 ?_
        refine lv_iconst (v := (1 : Int32)) hx hb dL_isSo_100 (by decide) ?_
        refine lv_iadd hx hb dL_isSo_101 ?_
        obtain ⟨g_102, hf⟩ := gd_some hf
        refine va_iald (D := D) hx hb hK hP 0 0 rfl rfl (gd_in g_102) dL_isSo_102 ?_
        refine lv_icmp_ne (tgt := 160) hx hb dL_isSo_103 (by decide) (fun c_103 => ?_) (fun c_103 => ?_)
        · have hf := it_neg c_103 hf
          refine lv_iconst (v := (0 : Int32)) hx hb dL_isSo_160 (by decide) ?_
          obtain rfl := Option.some.inj hf
          exact W.zret hx hb hr (by decide) (fun t ht hW => ⟨rfl, ⟨_, ⟨_, hX, rfl⟩, by rw [ht]; exact hP, hD⟩, hS.F ht⟩) hS.2.2 dL_isSo_161 hlocks
        · have hf := it_pos c_103 hf
          refine lv_aload_n hx hb dL_isSo_106 rfl (lv_at hl 0 rfl) ?_
          refine lv_iload hx hb dL_isSo_107 (lv_at hl 8 rfl) ?_
          refine lv_iconst (v := (2 : Int32)) hx hb dL_isSo_109 (by decide) ?_
          obtain ⟨q110, e_110, hf⟩ := bd_some hf
          refine k_ribbonOf ⟨by decide, by decide⟩ hK hN hA (a := xa) (R := [(zr_a, .inl (T.1, (60, .inl zr))), (za_a, .inl (T.1, (16, .inl za))), (zg_a, .inl (T.1, (2, .inl zg)))]) hX hw e_110 (fun H locs cells slots rm mc ms Pc Qc free hMt hrc hrs hR hpre hroom => va_runV (n := 2) (C := RX6) (b := xa.1) (As := [.int x8, .int (2 : Int32)]) (rest := []) ⟨hx, hb, hml, hown, hts⟩ hMt (cwV 2 hts gL_isSo_X6_ribbonOf rfl hrc hrs hdV_X6_ribbonOf hR) hpre rfl rfl hl.1 rfl (lv_room (Nat.le_of_ble_eq_true rfl)) dL_isSo_110 hroom) ⟨hP, hD⟩ hS ⟨Nat.le_of_ble_eq_true rfl, Nat.le_of_ble_eq_true rfl⟩ ?_
          refine lv_aload_n hx hb dL_isSo_113 rfl (lv_at hl 1 rfl) ?_
          refine lv_iconst (v := (3 : Int32)) hx hb dL_isSo_114 (by decide) ?_
          refine lv_iload hx hb dL_isSo_115 (lv_at hl 8 rfl) ?_
          refine lv_imul hx hb dL_isSo_117 ?_
          refine lv_iconst (v := (2 : Int32)) hx hb dL_isSo_118 (by decide) ?_
          refine lv_iadd hx hb dL_isSo_119 ?_
          obtain ⟨g_120, hf⟩ := gd_some hf
          refine va_iald (D := D) hx hb hK hP 0 0 rfl rfl (gd_in g_120) dL_isSo_120 ?_
          refine lv_icmp_ne (tgt := 160) hx hb dL_isSo_121 (by decide) (fun c_121 => ?_) (fun c_121 => ?_)
          · have hf := it_neg c_121 hf
            refine lv_iconst (v := (0 : Int32)) hx hb dL_isSo_160 (by decide) ?_
            obtain rfl := Option.some.inj hf
            exact W.zret hx hb hr (by decide) (fun t ht hW => ⟨rfl, ⟨_, ⟨_, hX, rfl⟩, by rw [ht]; exact hP, hD⟩, hS.F ht⟩) hS.2.2 dL_isSo_161 hlocks
          · have hf := it_pos c_121 hf
            refine lv_aload_n hx hb dL_isSo_124 rfl (lv_at hl 0 rfl) ?_
            refine lv_iload hx hb dL_isSo_125 (lv_at hl 8 rfl) ?_
            refine lv_iconst (v := (3 : Int32)) hx hb dL_isSo_127 (by decide) ?_
            obtain ⟨q128, e_128, hf⟩ := bd_some hf
            refine k_ribbonOf ⟨by decide, by decide⟩ hK hN hA (a := xa) (R := [(zr_a, .inl (T.1, (60, .inl zr))), (za_a, .inl (T.1, (16, .inl za))), (zg_a, .inl (T.1, (2, .inl zg)))]) hX hw e_128 (fun H locs cells slots rm mc ms Pc Qc free hMt hrc hrs hR hpre hroom => va_runV (n := 2) (C := RX6) (b := xa.1) (As := [.int x8, .int (3 : Int32)]) (rest := []) ⟨hx, hb, hml, hown, hts⟩ hMt (cwV 2 hts gL_isSo_X6_ribbonOf rfl hrc hrs hdV_X6_ribbonOf hR) hpre rfl rfl hl.1 rfl (lv_room (Nat.le_of_ble_eq_true rfl)) dL_isSo_128 hroom) ⟨hP, hD⟩ hS ⟨Nat.le_of_ble_eq_true rfl, Nat.le_of_ble_eq_true rfl⟩ ?_
            refine lv_aload_n hx hb dL_isSo_131 rfl (lv_at hl 1 rfl) ?_
            refine lv_iload hx hb dL_isSo_132 (lv_at hl 8 rfl) ?_
            obtain ⟨q134, e_134, hf⟩ := bd_some hf
            refine callPi (va_runS (As := [.ref zr_a, .int x8]) (rest := [.int q128]) ⟨hx, hb, hml, hown, hts⟩ (c_L_goesOn l D T zr_a zr x8 q134 e_134) (va_cwS 2 hts gL_isSo_L_goesOn rfl rfl rfl hdS_L_goesOn ⟨Nat.le_of_ble_eq_true rfl, Nat.le_of_ble_eq_true rfl⟩) (preBS (hP.sub (ws' := [(zr_a, .inl (T.1, (60, .inl zr)))]) [0] rfl) hK hN) rfl rfl hl.1 rfl (lv_room (Nat.le_of_ble_eq_true rfl)) dL_isSo_134 ⟨Nat.le_of_ble_eq_true rfl, Nat.le_of_ble_eq_true rfl⟩) ?_
            refine lv_if_eq (tgt := 144) hx hb dL_isSo_137 (by decide) (fun c_137 => ?_) (fun c_137 => ?_)
            · have hf := it_pos c_137 hf
              refine lv_iconst (v := (0 : Int32)) hx hb dL_isSo_144 (by decide) ?_
              exact w_L_isSo_b145 hw C hA hK17 _ _ _ _ _ _ _ _ hf _ hX _ _ hP hD hS _ (lv_sub hl [0, 1, 2, 3, 4, 5, 6, 7, 8, 9] rfl)
            · have hf := it_neg c_137 hf
              refine lv_iconst (v := (1 : Int32)) hx hb dL_isSo_140 (by decide) ?_
              refine lv_goto (tgt := 145) hx hb dL_isSo_141 (by decide) ?_
              exact w_L_isSo_b145 hw C hA hK17 _ _ _ _ _ _ _ _ hf _ hX _ _ hP hD hS _ (lv_sub hl [0, 1, 2, 3, 4, 5, 6, 7, 8, 9] rfl)
    · have hf := it_neg c_34 hf
      refine lv_iload hx hb dL_isSo_37 (lv_at hl 9 rfl) ?_
      refine lv_iload hx hb dL_isSo_39 (lv_at hl 10 rfl) ?_
      refine lv_iload hx hb dL_isSo_41 (lv_at hl 8 rfl) ?_
      refine lv_icmp_eq (tgt := 62) hx hb dL_isSo_43 (by decide) (fun c_43 => ?_) (fun c_43 => ?_)
      · have hf := it_pos c_43 hf
        exact w_L_isSo_b62 hw C hA hK17 (fun v0 v1 v2 v3 v4 v5 v6 hf c9 X9 H1 l1 p1 d1 s1 ls hl => ih v0 v1 v2 v3 v4 v5 v6 hf c9 X9 H1 l1 p1 d1 s1 ls hl) _ _ _ _ _ _ _ hf _ hX _ _ hP hD hS _ (lv_sub hl [0, 1, 2, 3, 4, 5, 6, 7, 8, 10] rfl)
      · have hf := it_neg c_43 hf
        refine lv_aload_n hx hb dL_isSo_46 rfl (lv_at hl 1 rfl) ?_
        refine lv_aload_n hx hb dL_isSo_47 rfl (lv_at hl 2 rfl) ?_
        refine lv_iload hx hb dL_isSo_48 (lv_at hl 10 rfl) ?_
        refine lv_iload hx hb dL_isSo_50 (lv_at hl 8 rfl) ?_
        obtain ⟨q52, e_52, hf⟩ := bd_some hf
        refine callPi (va_runS (As := [.ref zr_a, .ref za_a, .int x10, .int x8]) (rest := [.int x9]) ⟨hx, hb, hml, hown, hts⟩ (c_L_cross l D T zr_a za_a zr za x10 x8 q52 e_52) (va_cwS 4 hts gL_isSo_L_cross rfl rfl rfl hdS_L_cross ⟨Nat.le_of_ble_eq_true rfl, Nat.le_of_ble_eq_true rfl⟩) (preBS (hP.sub (ws' := [(zr_a, .inl (T.1, (60, .inl zr))), (za_a, .inl (T.1, (16, .inl za)))]) [0, 1] rfl) hK hN) rfl rfl hl.1 rfl (lv_room (Nat.le_of_ble_eq_true rfl)) dL_isSo_52 ⟨Nat.le_of_ble_eq_true rfl, Nat.le_of_ble_eq_true rfl⟩) ?_
        refine lv_if_eq (tgt := 62) hx hb dL_isSo_55 (by decide) (fun c_55 => ?_) (fun c_55 => ?_)
        · have hf := it_pos c_55 hf
          exact w_L_isSo_b62 hw C hA hK17 (fun v0 v1 v2 v3 v4 v5 v6 hf c9 X9 H1 l1 p1 d1 s1 ls hl => ih v0 v1 v2 v3 v4 v5 v6 hf c9 X9 H1 l1 p1 d1 s1 ls hl) _ _ _ _ _ _ _ hf _ hX _ _ hP hD hS _ (lv_sub hl [0, 1, 2, 3, 4, 5, 6, 7, 8, 10] rfl)
        · have hf := it_neg c_55 hf
          refine lv_iconst (v := (1 : Int32)) hx hb dL_isSo_58 (by decide) ?_
          refine lv_goto (tgt := 63) hx hb dL_isSo_59 (by decide) ?_
          exact w_L_isSo_b63 hw C hA hK17 (fun v0 v1 v2 v3 v4 v5 v6 hf c9 X9 H1 l1 p1 d1 s1 ls hl => ih v0 v1 v2 v3 v4 v5 v6 hf c9 X9 H1 l1 p1 d1 s1 ls hl) _ _ _ _ _ _ _ _ hf _ hX _ _ hP hD hS _ (lv_sub hl [0, 1, 2, 3, 4, 5, 6, 7, 8, 10] rfl)
set_option maxHeartbeats 4000000 in
set_option maxRecDepth 100000 in
theorem w_L_isSo_b226 {p : Program} {l : Launch} {e : Env} {s : State} {m : MethodId} {args : Array Value} {below : List Frame} {meth : Method} {c : Code} {D : va_G} {T : TY} {zr_a za_a zg_a : Nat} {xa : XA} {xB : Nat → Option DB} {xo xh : Nat} {zr : Nat → Int32} {za : Nat → Int32} {zg : Nat → Int32} {E : DR} {res : Int32} {K191 : Int32 → Int32 → Int32 → Int32 → Int32 → Option (Int32)} (hw : WF E) (C : CX p s m args meth c cL_isSo 11 RL wsL_isSo (some .boolean) D T) {A : Nat → Prop} (hA : ∀ q, s.heap.size ≤ q → A q) (hK191 : ∀ x4 : Int32, ∀ x5 : Int32, ∀ x6 : Int32, ∀ x7 : Int32, ∀ x8 : Int32, K191 x4 x5 x6 x7 x8 = some res → ∀ (xc : XC), XP xc xB xo xh E → ∀ (H : Heap) (locs : List Loc), va_P D vwCl ((zr_a, .inl (T.1, (60, .inl zr))) :: (za_a, .inl (T.1, (16, .inl za))) :: (zg_a, .inl (T.1, (2, .inl zg))) :: (XW T xa xc ++ PW T xB)) H → va_D A ((zr_a, .inl (T.1, (60, .inl zr))) :: (za_a, .inl (T.1, (16, .inl za))) :: (zg_a, .inl (T.1, (2, .inl zg))) :: (XW T xa xc ++ PW T xB)) → va_S A s.heap H locs → ∀ ls : Array Slot, lv_has ls 11 [(0, .ref xa.1), (1, .ref zr_a), (2, .ref za_a), (3, .ref zg_a), (4, .int x4), (5, .int x5), (6, .int x6), (7, .int x7), (8, .int x8)] → W p l e rmL_isSo s m args below meth c H locs 0 0 (MQ below (Qm (some (.int res)) D (fun W9 => ∃ xc : XC, XP xc xB xo xh E ∧ W9 = ((zr_a, .inl (T.1, (60, .inl zr))) :: (za_a, .inl (T.1, (16, .inl za))) :: (zg_a, .inl (T.1, (2, .inl zg))) :: (XW T xa xc ++ PW T xB))) A) args s 0 0 A) (F0 m 191 ls [])) : ∀ s0 : Int32, ∀ s1 : Int32, ∀ x4 : Int32, ∀ x5 : Int32, ∀ x6 : Int32, ∀ x8 : Int32, f_L_isSo_b226 zr za zg E K191 s0 s1 x4 x5 x6 x8 = some res → ∀ (xc : XC), XP xc xB xo xh E → ∀ (H : Heap) (locs : List Loc), va_P D vwCl ((zr_a, .inl (T.1, (60, .inl zr))) :: (za_a, .inl (T.1, (16, .inl za))) :: (zg_a, .inl (T.1, (2, .inl zg))) :: (XW T xa xc ++ PW T xB)) H → va_D A ((zr_a, .inl (T.1, (60, .inl zr))) :: (za_a, .inl (T.1, (16, .inl za))) :: (zg_a, .inl (T.1, (2, .inl zg))) :: (XW T xa xc ++ PW T xB)) → va_S A s.heap H locs → ∀ ls : Array Slot, lv_has ls 11 [(0, .ref xa.1), (1, .ref zr_a), (2, .ref za_a), (3, .ref zg_a), (4, .int x4), (5, .int x5), (6, .int x6), (8, .int x8)] → W p l e rmL_isSo s m args below meth c H locs 0 0 (MQ below (Qm (some (.int res)) D (fun W9 => ∃ xc : XC, XP xc xB xo xh E ∧ W9 = ((zr_a, .inl (T.1, (60, .inl zr))) :: (za_a, .inl (T.1, (16, .inl za))) :: (zg_a, .inl (T.1, (2, .inl zg))) :: (XW T xa xc ++ PW T xB))) A) args s 0 0 A) (F0 m 226 ls [.int s0, .int s1]) := by
  obtain ⟨hx, hb, hml, hown, hts, hr, hlocks, hK, hN⟩ := id C
  intro s0 s1 x4 x5 x6 x8 hf xc hX H locs hP hD hS ls hl
  unfold f_L_isSo_b226 at hf
  refine lv_iadd hx hb dL_isSo_226 ?_
  obtain ⟨v227, e_227, hf⟩ := nm_some hf
  refine lv_nmi e_227 ?_
  refine lv_istore (lv' := [(7, .int v227), (0, .ref xa.1), (1, .ref zr_a), (2, .ref za_a), (3, .ref zg_a), (4, .int x4), (5, .int x5), (6, .int x6), (8, .int x8)]) hx hb dL_isSo_227 hl (by decide) rfl (fun ls hl => ?_)
  obtain ⟨v229, e_229, hf⟩ := nm_some hf
  refine lv_iinc (v := v229) (lv' := [(8, .int v229), (7, .int v227), (0, .ref xa.1), (1, .ref zr_a), (2, .ref za_a), (3, .ref zg_a), (4, .int x4), (5, .int x5), (6, .int x6)]) hx hb dL_isSo_229 hl (k := 8) rfl (by rw [e_229]; rfl) (by decide) rfl (fun ls hl => ?_)
  refine lv_goto (tgt := 191) hx hb dL_isSo_232 (by decide) ?_
  exact hK191 _ _ _ _ _ hf _ hX _ _ hP hD hS _ (lv_sub hl [2, 3, 4, 5, 6, 7, 8, 1, 0] rfl)
set_option maxHeartbeats 4000000 in
set_option maxRecDepth 100000 in
theorem w_L_isSo_b191 {p : Program} {l : Launch} {e : Env} {s : State} {m : MethodId} {args : Array Value} {below : List Frame} {meth : Method} {c : Code} {D : va_G} {T : TY} {zr_a za_a zg_a : Nat} {xa : XA} {xB : Nat → Option DB} {xo xh : Nat} {zr : Nat → Int32} {za : Nat → Int32} {zg : Nat → Int32} {E : DR} {res : Int32} (hw : WF E) (C : CX p s m args meth c cL_isSo 11 RL wsL_isSo (some .boolean) D T) {A : Nat → Prop} (hA : ∀ q, s.heap.size ≤ q → A q) : ∀ F : Nat, ∀ x4 : Int32, ∀ x5 : Int32, ∀ x6 : Int32, ∀ x7 : Int32, ∀ x8 : Int32, f_L_isSo_b191 zr za zg E F x4 x5 x6 x7 x8 = some res → ∀ (xc : XC), XP xc xB xo xh E → ∀ (H : Heap) (locs : List Loc), va_P D vwCl ((zr_a, .inl (T.1, (60, .inl zr))) :: (za_a, .inl (T.1, (16, .inl za))) :: (zg_a, .inl (T.1, (2, .inl zg))) :: (XW T xa xc ++ PW T xB)) H → va_D A ((zr_a, .inl (T.1, (60, .inl zr))) :: (za_a, .inl (T.1, (16, .inl za))) :: (zg_a, .inl (T.1, (2, .inl zg))) :: (XW T xa xc ++ PW T xB)) → va_S A s.heap H locs → ∀ ls : Array Slot, lv_has ls 11 [(0, .ref xa.1), (1, .ref zr_a), (2, .ref za_a), (3, .ref zg_a), (4, .int x4), (5, .int x5), (6, .int x6), (7, .int x7), (8, .int x8)] → W p l e rmL_isSo s m args below meth c H locs 0 0 (MQ below (Qm (some (.int res)) D (fun W9 => ∃ xc : XC, XP xc xB xo xh E ∧ W9 = ((zr_a, .inl (T.1, (60, .inl zr))) :: (za_a, .inl (T.1, (16, .inl za))) :: (zg_a, .inl (T.1, (2, .inl zg))) :: (XW T xa xc ++ PW T xB))) A) args s 0 0 A) (F0 m 191 ls []) := by
  obtain ⟨hx, hb, hml, hown, hts, hr, hlocks, hK, hN⟩ := id C
  intro F
  induction F with
  | zero => intro _ _ _ _ _ hf; cases hf
  | succ F ih =>
    intro x4 x5 x6 x7 x8 hf xc hX H locs hP hD hS ls hl
    unfold f_L_isSo_b191 at hf
    refine lv_iload hx hb dL_isSo_191 (lv_at hl 8 rfl) ?_
    refine lv_bipush (v := (12 : Int32)) hx hb dL_isSo_193 (by decide) ?_
    refine lv_icmp_ge (tgt := 235) hx hb dL_isSo_195 (by decide) (fun c_195 => ?_) (fun c_195 => ?_)
    · have hf := it_pos c_195 hf
      refine lv_aload_n hx hb dL_isSo_235 rfl (lv_at hl 1 rfl) ?_
      refine lv_aload_n hx hb dL_isSo_236 rfl (lv_at hl 2 rfl) ?_
      refine lv_iload hx hb dL_isSo_237 (lv_at hl 4 rfl) ?_
      obtain ⟨q239, e_239, hf⟩ := bd_some hf
      refine callPi (va_runS (As := [.ref zr_a, .ref za_a, .int x4]) (rest := []) ⟨hx, hb, hml, hown, hts⟩ (c_L_crossings l D T zr_a za_a zr za x4 q239 e_239) (va_cwS 3 hts gL_isSo_L_crossings rfl rfl rfl hdS_L_crossings ⟨Nat.le_of_ble_eq_true rfl, Nat.le_of_ble_eq_true rfl⟩) (preBS (hP.sub (ws' := [(zr_a, .inl (T.1, (60, .inl zr))), (za_a, .inl (T.1, (16, .inl za)))]) [0, 1] rfl) hK hN) rfl rfl hl.1 rfl (lv_room (Nat.le_of_ble_eq_true rfl)) dL_isSo_239 ⟨Nat.le_of_ble_eq_true rfl, Nat.le_of_ble_eq_true rfl⟩) ?_
      refine lv_istore (lv' := [(8, .int q239), (0, .ref xa.1), (1, .ref zr_a), (2, .ref za_a), (3, .ref zg_a), (4, .int x4), (5, .int x5), (6, .int x6), (7, .int x7)]) hx hb dL_isSo_242 hl (by decide) rfl (fun ls hl => ?_)
      refine lv_aload_n hx hb dL_isSo_244 rfl (lv_at hl 1 rfl) ?_
      refine lv_aload_n hx hb dL_isSo_245 rfl (lv_at hl 2 rfl) ?_
      refine lv_aload_n hx hb dL_isSo_246 rfl (lv_at hl 3 rfl) ?_
      refine lv_iload hx hb dL_isSo_247 (lv_at hl 5 rfl) ?_
      obtain ⟨q249, e_249, hf⟩ := bd_some hf
      refine callLWi (wc := ((zr_a, .inl (T.1, (60, .inl zr))) :: (za_a, .inl (T.1, (16, .inl za))) :: (zg_a, .inl (T.1, (2, .inl zg))) :: (XW T xa xc ++ PW T xB))) (va_runS (As := [.ref xa.1, .ref zr_a, .ref za_a, .int x4]) (rest := []) ⟨hx, hb, hml, hown, hts⟩ (c_L_arePosts l D T zr_a za_a zg_a xa zr za zg E x4 q249 e_249 xc xB xo xh hX hw H.size) (va_cwS 4 hts gL_isSo_L_arePosts rfl rfl rfl hdS_L_arePosts ⟨Nat.le_of_ble_eq_true rfl, Nat.le_of_ble_eq_true rfl⟩) (preMS hP hD hK hN) rfl rfl hl.1 rfl (lv_room (Nat.le_of_ble_eq_true rfl)) dL_isSo_249 ⟨Nat.le_of_ble_eq_true rfl, Nat.le_of_ble_eq_true rfl⟩) ⟨hP, hD⟩ hS hA (fun W9 H locs hw9 hW hS => ?_)
      obtain ⟨xc, hX, rfl⟩ := hw9
      obtain ⟨hP, hD⟩ := hW
      have hP : va_P D vwCl ((zr_a, .inl (T.1, (60, .inl zr))) :: (za_a, .inl (T.1, (16, .inl za))) :: (zg_a, .inl (T.1, (2, .inl zg))) :: (XW T xa xc ++ PW T xB)) H := hP
      have hD : va_D A ((zr_a, .inl (T.1, (60, .inl zr))) :: (za_a, .inl (T.1, (16, .inl za))) :: (zg_a, .inl (T.1, (2, .inl zg))) :: (XW T xa xc ++ PW T xB)) := hD
      refine lv_if_eq (tgt := 333) hx hb dL_isSo_252 (by decide) (fun c_252 => ?_) (fun c_252 => ?_)
      · have hf := it_pos c_252 hf
        refine lv_iconst (v := (0 : Int32)) hx hb dL_isSo_333 (by decide) ?_
        obtain rfl := Option.some.inj hf
        exact W.zret hx hb hr (by decide) (fun t ht hW => ⟨rfl, ⟨_, ⟨_, hX, rfl⟩, by rw [ht]; exact hP, hD⟩, hS.F ht⟩) hS.2.2 dL_isSo_334 hlocks
      · have hf := it_neg c_252 hf
        refine lv_aload_n hx hb dL_isSo_255 rfl (lv_at hl 1 rfl) ?_
        refine lv_iconst (v := (0 : Int32)) hx hb dL_isSo_256 (by decide) ?_
        obtain ⟨q257, e_257, hf⟩ := bd_some hf
        refine k_count ⟨by decide, by decide⟩ hK hN hA (a := xa) (R := [(zr_a, .inl (T.1, (60, .inl zr))), (za_a, .inl (T.1, (16, .inl za))), (zg_a, .inl (T.1, (2, .inl zg)))]) hX hw e_257 (fun H locs cells slots rm mc ms Pc Qc free hMt hrc hrs hR hpre hroom => va_runV (n := 1) (C := RX6) (b := xa.1) (As := [.int (0 : Int32)]) (rest := []) ⟨hx, hb, hml, hown, hts⟩ hMt (cwV 1 hts gL_isSo_X6_count rfl hrc hrs hdV_X6_count hR) hpre rfl rfl hl.1 rfl (lv_room (Nat.le_of_ble_eq_true rfl)) dL_isSo_257 hroom) ⟨hP, hD⟩ hS ⟨Nat.le_of_ble_eq_true rfl, Nat.le_of_ble_eq_true rfl⟩ (fun xc H locs hX hW hS => ?_)
        obtain ⟨hP, hD⟩ := hW
        have hP : va_P D vwCl ((zr_a, .inl (T.1, (60, .inl zr))) :: (za_a, .inl (T.1, (16, .inl za))) :: (zg_a, .inl (T.1, (2, .inl zg))) :: (XW T xa xc ++ PW T xB)) H := hP
        have hD : va_D A ((zr_a, .inl (T.1, (60, .inl zr))) :: (za_a, .inl (T.1, (16, .inl za))) :: (zg_a, .inl (T.1, (2, .inl zg))) :: (XW T xa xc ++ PW T xB)) := hD
        refine lv_iload hx hb dL_isSo_260 (lv_at hl 5 rfl) ?_
        refine lv_icmp_ne (tgt := 333) hx hb dL_isSo_262 (by decide) (fun c_262 => ?_) (fun c_262 => ?_)
        · have hf := it_neg c_262 hf
          refine lv_iconst (v := (0 : Int32)) hx hb dL_isSo_333 (by decide) ?_
          obtain rfl := Option.some.inj hf
          exact W.zret hx hb hr (by decide) (fun t ht hW => ⟨rfl, ⟨_, ⟨_, hX, rfl⟩, by rw [ht]; exact hP, hD⟩, hS.F ht⟩) hS.2.2 dL_isSo_334 hlocks
        · have hf := it_pos c_262 hf
          refine lv_aload_n hx hb dL_isSo_265 rfl (lv_at hl 1 rfl) ?_
          refine lv_iconst (v := (1 : Int32)) hx hb dL_isSo_266 (by decide) ?_
          obtain ⟨q267, e_267, hf⟩ := bd_some hf
          refine k_count ⟨by decide, by decide⟩ hK hN hA (a := xa) (R := [(zr_a, .inl (T.1, (60, .inl zr))), (za_a, .inl (T.1, (16, .inl za))), (zg_a, .inl (T.1, (2, .inl zg)))]) hX hw e_267 (fun H locs cells slots rm mc ms Pc Qc free hMt hrc hrs hR hpre hroom => va_runV (n := 1) (C := RX6) (b := xa.1) (As := [.int (1 : Int32)]) (rest := []) ⟨hx, hb, hml, hown, hts⟩ hMt (cwV 1 hts gL_isSo_X6_count rfl hrc hrs hdV_X6_count hR) hpre rfl rfl hl.1 rfl (lv_room (Nat.le_of_ble_eq_true rfl)) dL_isSo_267 hroom) ⟨hP, hD⟩ hS ⟨Nat.le_of_ble_eq_true rfl, Nat.le_of_ble_eq_true rfl⟩ (fun xc H locs hX hW hS => ?_)
          obtain ⟨hP, hD⟩ := hW
          have hP : va_P D vwCl ((zr_a, .inl (T.1, (60, .inl zr))) :: (za_a, .inl (T.1, (16, .inl za))) :: (zg_a, .inl (T.1, (2, .inl zg))) :: (XW T xa xc ++ PW T xB)) H := hP
          have hD : va_D A ((zr_a, .inl (T.1, (60, .inl zr))) :: (za_a, .inl (T.1, (16, .inl za))) :: (zg_a, .inl (T.1, (2, .inl zg))) :: (XW T xa xc ++ PW T xB)) := hD
          refine lv_iload hx hb dL_isSo_270 (lv_at hl 6 rfl) ?_
          refine lv_icmp_ne (tgt := 333) hx hb dL_isSo_272 (by decide) (fun c_272 => ?_) (fun c_272 => ?_)
          · have hf := it_neg c_272 hf
            refine lv_iconst (v := (0 : Int32)) hx hb dL_isSo_333 (by decide) ?_
            obtain rfl := Option.some.inj hf
            exact W.zret hx hb hr (by decide) (fun t ht hW => ⟨rfl, ⟨_, ⟨_, hX, rfl⟩, by rw [ht]; exact hP, hD⟩, hS.F ht⟩) hS.2.2 dL_isSo_334 hlocks
          · have hf := it_pos c_272 hf
            refine lv_aload_n hx hb dL_isSo_275 rfl (lv_at hl 1 rfl) ?_
            refine lv_iconst (v := (2 : Int32)) hx hb dL_isSo_276 (by decide) ?_
            obtain ⟨q277, e_277, hf⟩ := bd_some hf
            refine k_count ⟨by decide, by decide⟩ hK hN hA (a := xa) (R := [(zr_a, .inl (T.1, (60, .inl zr))), (za_a, .inl (T.1, (16, .inl za))), (zg_a, .inl (T.1, (2, .inl zg)))]) hX hw e_277 (fun H locs cells slots rm mc ms Pc Qc free hMt hrc hrs hR hpre hroom => va_runV (n := 1) (C := RX6) (b := xa.1) (As := [.int (2 : Int32)]) (rest := []) ⟨hx, hb, hml, hown, hts⟩ hMt (cwV 1 hts gL_isSo_X6_count rfl hrc hrs hdV_X6_count hR) hpre rfl rfl hl.1 rfl (lv_room (Nat.le_of_ble_eq_true rfl)) dL_isSo_277 hroom) ⟨hP, hD⟩ hS ⟨Nat.le_of_ble_eq_true rfl, Nat.le_of_ble_eq_true rfl⟩ (fun xc H locs hX hW hS => ?_)
            obtain ⟨hP, hD⟩ := hW
            have hP : va_P D vwCl ((zr_a, .inl (T.1, (60, .inl zr))) :: (za_a, .inl (T.1, (16, .inl za))) :: (zg_a, .inl (T.1, (2, .inl zg))) :: (XW T xa xc ++ PW T xB)) H := hP
            have hD : va_D A ((zr_a, .inl (T.1, (60, .inl zr))) :: (za_a, .inl (T.1, (16, .inl za))) :: (zg_a, .inl (T.1, (2, .inl zg))) :: (XW T xa xc ++ PW T xB)) := hD
            refine lv_iload hx hb dL_isSo_280 (lv_at hl 0 rfl) ?_
            refine lv_icmp_ne (tgt := 333) hx hb dL_isSo_282 (by decide) (fun c_282 => ?_) (fun c_282 => ?_)
            · have hf := it_neg c_282 hf
              refine lv_iconst (v := (0 : Int32)) hx hb dL_isSo_333 (by decide) ?_
              obtain rfl := Option.some.inj hf
              exact W.zret hx hb hr (by decide) (fun t ht hW => ⟨rfl, ⟨_, ⟨_, hX, rfl⟩, by rw [ht]; exact hP, hD⟩, hS.F ht⟩) hS.2.2 dL_isSo_334 hlocks
            · have hf := it_pos c_282 hf
              refine lv_aload_n hx hb dL_isSo_285 rfl (lv_at hl 1 rfl) ?_
              refine lv_iconst (v := (3 : Int32)) hx hb dL_isSo_286 (by decide) ?_
              obtain ⟨q287, e_287, hf⟩ := bd_some hf
              refine k_count ⟨by decide, by decide⟩ hK hN hA (a := xa) (R := [(zr_a, .inl (T.1, (60, .inl zr))), (za_a, .inl (T.1, (16, .inl za))), (zg_a, .inl (T.1, (2, .inl zg)))]) hX hw e_287 (fun H locs cells slots rm mc ms Pc Qc free hMt hrc hrs hR hpre hroom => va_runV (n := 1) (C := RX6) (b := xa.1) (As := [.int (3 : Int32)]) (rest := []) ⟨hx, hb, hml, hown, hts⟩ hMt (cwV 1 hts gL_isSo_X6_count rfl hrc hrs hdV_X6_count hR) hpre rfl rfl hl.1 rfl (lv_room (Nat.le_of_ble_eq_true rfl)) dL_isSo_287 hroom) ⟨hP, hD⟩ hS ⟨Nat.le_of_ble_eq_true rfl, Nat.le_of_ble_eq_true rfl⟩ (fun xc H locs hX hW hS => ?_)
              obtain ⟨hP, hD⟩ := hW
              have hP : va_P D vwCl ((zr_a, .inl (T.1, (60, .inl zr))) :: (za_a, .inl (T.1, (16, .inl za))) :: (zg_a, .inl (T.1, (2, .inl zg))) :: (XW T xa xc ++ PW T xB)) H := hP
              have hD : va_D A ((zr_a, .inl (T.1, (60, .inl zr))) :: (za_a, .inl (T.1, (16, .inl za))) :: (zg_a, .inl (T.1, (2, .inl zg))) :: (XW T xa xc ++ PW T xB)) := hD
              refine lv_iload hx hb dL_isSo_290 (lv_at hl 0 rfl) ?_
              refine lv_icmp_ne (tgt := 333) hx hb dL_isSo_292 (by decide) (fun c_292 => ?_) (fun c_292 => ?_)
              · have hf := it_neg c_292 hf
                refine lv_iconst (v := (0 : Int32)) hx hb dL_isSo_333 (by decide) ?_
                obtain rfl := Option.some.inj hf
                exact W.zret hx hb hr (by decide) (fun t ht hW => ⟨rfl, ⟨_, ⟨_, hX, rfl⟩, by rw [ht]; exact hP, hD⟩, hS.F ht⟩) hS.2.2 dL_isSo_334 hlocks
              · have hf := it_pos c_292 hf
                refine lv_aload_n hx hb dL_isSo_295 rfl (lv_at hl 1 rfl) ?_
                refine lv_iconst (v := (4 : Int32)) hx hb dL_isSo_296 (by decide) ?_
                obtain ⟨q297, e_297, hf⟩ := bd_some hf
                refine k_count ⟨by decide, by decide⟩ hK hN hA (a := xa) (R := [(zr_a, .inl (T.1, (60, .inl zr))), (za_a, .inl (T.1, (16, .inl za))), (zg_a, .inl (T.1, (2, .inl zg)))]) hX hw e_297 (fun H locs cells slots rm mc ms Pc Qc free hMt hrc hrs hR hpre hroom => va_runV (n := 1) (C := RX6) (b := xa.1) (As := [.int (4 : Int32)]) (rest := []) ⟨hx, hb, hml, hown, hts⟩ hMt (cwV 1 hts gL_isSo_X6_count rfl hrc hrs hdV_X6_count hR) hpre rfl rfl hl.1 rfl (lv_room (Nat.le_of_ble_eq_true rfl)) dL_isSo_297 hroom) ⟨hP, hD⟩ hS ⟨Nat.le_of_ble_eq_true rfl, Nat.le_of_ble_eq_true rfl⟩ (fun xc H locs hX hW hS => ?_)
                obtain ⟨hP, hD⟩ := hW
                have hP : va_P D vwCl ((zr_a, .inl (T.1, (60, .inl zr))) :: (za_a, .inl (T.1, (16, .inl za))) :: (zg_a, .inl (T.1, (2, .inl zg))) :: (XW T xa xc ++ PW T xB)) H := hP
                have hD : va_D A ((zr_a, .inl (T.1, (60, .inl zr))) :: (za_a, .inl (T.1, (16, .inl za))) :: (zg_a, .inl (T.1, (2, .inl zg))) :: (XW T xa xc ++ PW T xB)) := hD
                refine lv_iload hx hb dL_isSo_300 (lv_at hl 7 rfl) ?_
                refine lv_iconst (v := (2 : Int32)) hx hb dL_isSo_302 (by decide) ?_
                refine lv_idiv hx hb dL_isSo_303 (by decide) ?_
                refine lv_icmp_ne (tgt := 333) hx hb dL_isSo_304 (by decide) (fun c_304 => ?_) (fun c_304 => ?_)
                · have hf := it_neg c_304 hf
                  refine lv_iconst (v := (0 : Int32)) hx hb dL_isSo_333 (by decide) ?_
                  obtain rfl := Option.some.inj hf
                  exact W.zret hx hb hr (by decide) (fun t ht hW => ⟨rfl, ⟨_, ⟨_, hX, rfl⟩, by rw [ht]; exact hP, hD⟩, hS.F ht⟩) hS.2.2 dL_isSo_334 hlocks
                · have hf := it_pos c_304 hf
                  refine lv_aload_n hx hb dL_isSo_307 rfl (lv_at hl 1 rfl) ?_
                  refine lv_iconst (v := (5 : Int32)) hx hb dL_isSo_308 (by decide) ?_
                  obtain ⟨q309, e_309, hf⟩ := bd_some hf
                  refine k_count ⟨by decide, by decide⟩ hK hN hA (a := xa) (R := [(zr_a, .inl (T.1, (60, .inl zr))), (za_a, .inl (T.1, (16, .inl za))), (zg_a, .inl (T.1, (2, .inl zg)))]) hX hw e_309 (fun H locs cells slots rm mc ms Pc Qc free hMt hrc hrs hR hpre hroom => va_runV (n := 1) (C := RX6) (b := xa.1) (As := [.int (5 : Int32)]) (rest := []) ⟨hx, hb, hml, hown, hts⟩ hMt (cwV 1 hts gL_isSo_X6_count rfl hrc hrs hdV_X6_count hR) hpre rfl rfl hl.1 rfl (lv_room (Nat.le_of_ble_eq_true rfl)) dL_isSo_309 hroom) ⟨hP, hD⟩ hS ⟨Nat.le_of_ble_eq_true rfl, Nat.le_of_ble_eq_true rfl⟩ (fun xc H locs hX hW hS => ?_)
                  obtain ⟨hP, hD⟩ := hW
                  have hP : va_P D vwCl ((zr_a, .inl (T.1, (60, .inl zr))) :: (za_a, .inl (T.1, (16, .inl za))) :: (zg_a, .inl (T.1, (2, .inl zg))) :: (XW T xa xc ++ PW T xB)) H := hP
                  have hD : va_D A ((zr_a, .inl (T.1, (60, .inl zr))) :: (za_a, .inl (T.1, (16, .inl za))) :: (zg_a, .inl (T.1, (2, .inl zg))) :: (XW T xa xc ++ PW T xB)) := hD
                  refine lv_iload hx hb dL_isSo_312 (lv_at hl 8 rfl) ?_
                  refine lv_icmp_ne (tgt := 333) hx hb dL_isSo_314 (by decide) (fun c_314 => ?_) (fun c_314 => ?_)
                  · have hf := it_neg c_314 hf
                    refine lv_iconst (v := (0 : Int32)) hx hb dL_isSo_333 (by decide) ?_
                    obtain rfl := Option.some.inj hf
                    exact W.zret hx hb hr (by decide) (fun t ht hW => ⟨rfl, ⟨_, ⟨_, hX, rfl⟩, by rw [ht]; exact hP, hD⟩, hS.F ht⟩) hS.2.2 dL_isSo_334 hlocks
                  · have hf := it_pos c_314 hf
                    refine lv_aload_n hx hb dL_isSo_317 rfl (lv_at hl 1 rfl) ?_
                    refine lv_bipush (v := (8 : Int32)) hx hb dL_isSo_318 (by decide) ?_
                    obtain ⟨q320, e_320, hf⟩ := bd_some hf
                    refine k_count ⟨by decide, by decide⟩ hK hN hA (a := xa) (R := [(zr_a, .inl (T.1, (60, .inl zr))), (za_a, .inl (T.1, (16, .inl za))), (zg_a, .inl (T.1, (2, .inl zg)))]) hX hw e_320 (fun H locs cells slots rm mc ms Pc Qc free hMt hrc hrs hR hpre hroom => va_runV (n := 1) (C := RX6) (b := xa.1) (As := [.int (8 : Int32)]) (rest := []) ⟨hx, hb, hml, hown, hts⟩ hMt (cwV 1 hts gL_isSo_X6_count rfl hrc hrs hdV_X6_count hR) hpre rfl rfl hl.1 rfl (lv_room (Nat.le_of_ble_eq_true rfl)) dL_isSo_320 hroom) ⟨hP, hD⟩ hS ⟨Nat.le_of_ble_eq_true rfl, Nat.le_of_ble_eq_true rfl⟩ (fun xc H locs hX hW hS => ?_)
                    obtain ⟨hP, hD⟩ := hW
                    have hP : va_P D vwCl ((zr_a, .inl (T.1, (60, .inl zr))) :: (za_a, .inl (T.1, (16, .inl za))) :: (zg_a, .inl (T.1, (2, .inl zg))) :: (XW T xa xc ++ PW T xB)) H := hP
                    have hD : va_D A ((zr_a, .inl (T.1, (60, .inl zr))) :: (za_a, .inl (T.1, (16, .inl za))) :: (zg_a, .inl (T.1, (2, .inl zg))) :: (XW T xa xc ++ PW T xB)) := hD
                    refine lv_aload_n hx hb dL_isSo_323 rfl (lv_at hl 4 rfl) ?_
                    refine lv_iconst (v := (1 : Int32)) hx hb dL_isSo_324 (by decide) ?_
                    refine va_iald (D := D) hx hb hK hP 2 0 rfl rfl (gd_in (by decide)) dL_isSo_325 ?_
                    refine lv_icmp_ne (tgt := 333) hx hb dL_isSo_326 (by decide) (fun c_326 => ?_) (fun c_326 => ?_)
                    · have hf := it_neg c_326 hf
                      refine lv_iconst (v := (0 : Int32)) hx hb dL_isSo_333 (by decide) ?_
                      obtain rfl := Option.some.inj hf
                      exact W.zret hx hb hr (by decide) (fun t ht hW => ⟨rfl, ⟨_, ⟨_, hX, rfl⟩, by rw [ht]; exact hP, hD⟩, hS.F ht⟩) hS.2.2 dL_isSo_334 hlocks
                    · have hf := it_pos c_326 hf
                      refine lv_iconst (v := (1 : Int32)) hx hb dL_isSo_329 (by decide) ?_
                      refine lv_goto (tgt := 334) hx hb dL_isSo_330 (by decide) ?_
                      obtain rfl := Option.some.inj hf
                      exact W.zret hx hb hr (by decide) (fun t ht hW => ⟨rfl, ⟨_, ⟨_, hX, rfl⟩, by rw [ht]; exact hP, hD⟩, hS.F ht⟩) hS.2.2 dL_isSo_334 hlocks
    · have hf := it_neg c_195 hf
      refine lv_iload hx hb dL_isSo_198 (lv_at hl 7 rfl) ?_
      refine lv_aload_n hx hb dL_isSo_200 rfl (lv_at hl 1 rfl) ?_
      refine lv_iload hx hb dL_isSo_201 (lv_at hl 4 rfl) ?_
      refine lv_iload hx hb dL_isSo_203 (lv_at hl 8 rfl) ?_
      refine lv_iconst (v := (0 : Int32)) hx hb dL_isSo_205 (by decide) ?_
      obtain ⟨q206, e_206, hf⟩ := bd_some hf
      refine callPi (va_runS (As := [.ref zr_a, .int x4, .int x8, .int (0 : Int32)]) (rest := [.int x7]) ⟨hx, hb, hml, hown, hts⟩ (c_L_side l D T zr_a zr x4 x8 (0 : Int32) q206 e_206) (va_cwS 4 hts gL_isSo_L_side rfl rfl rfl hdS_L_side ⟨Nat.le_of_ble_eq_true rfl, Nat.le_of_ble_eq_true rfl⟩) (preBS (hP.sub (ws' := [(zr_a, .inl (T.1, (60, .inl zr)))]) [0] rfl) hK hN) rfl rfl hl.1 rfl (lv_room (Nat.le_of_ble_eq_true rfl)) dL_isSo_206 ⟨Nat.le_of_ble_eq_true rfl, Nat.le_of_ble_eq_true rfl⟩) ?_
      refine lv_aload_n hx hb dL_isSo_209 rfl (lv_at hl 1 rfl) ?_
      refine lv_iload hx hb dL_isSo_210 (lv_at hl 4 rfl) ?_
      refine lv_iload hx hb dL_isSo_212 (lv_at hl 8 rfl) ?_
      refine lv_iconst (v := (1 : Int32)) hx hb dL_isSo_214 (by decide) ?_
      obtain ⟨q215, e_215, hf⟩ := bd_some hf
      refine callPi (va_runS (As := [.ref zr_a, .int x4, .int x8, .int (1 : Int32)]) (rest := [.int q206, .int x7]) ⟨hx, hb, hml, hown, hts⟩ (c_L_side l D T zr_a zr x4 x8 (1 : Int32) q215 e_215) (va_cwS 4 hts gL_isSo_L_side rfl rfl rfl hdS_L_side ⟨Nat.le_of_ble_eq_true rfl, Nat.le_of_ble_eq_true rfl⟩) (preBS (hP.sub (ws' := [(zr_a, .inl (T.1, (60, .inl zr)))]) [0] rfl) hK hN) rfl rfl hl.1 rfl (lv_room (Nat.le_of_ble_eq_true rfl)) dL_isSo_215 ⟨Nat.le_of_ble_eq_true rfl, Nat.le_of_ble_eq_true rfl⟩) ?_
      refine lv_icmp_ne (tgt := 225) hx hb dL_isSo_218 (by decide) (fun c_218 => ?_) (fun c_218 => ?_)
      · have hf := it_neg c_218 hf
        refine lv_iconst (v := (1 : Int32)) hx hb dL_isSo_225 (by decide) ?_
        exact w_L_isSo_b226 hw C hA (fun v0 v1 v2 v3 v4 hf c9 X9 H1 l1 p1 d1 s1 ls hl => ih v0 v1 v2 v3 v4 hf c9 X9 H1 l1 p1 d1 s1 ls hl) _ _ _ _ _ _ hf _ hX _ _ hP hD hS _ (lv_sub hl [0, 1, 2, 3, 4, 5, 6, 8] rfl)
      · have hf := it_pos c_218 hf
        refine lv_iconst (v := (0 : Int32)) hx hb dL_isSo_221 (by decide) ?_
        refine lv_goto (tgt := 226) hx hb dL_isSo_222 (by decide) ?_
        exact w_L_isSo_b226 hw C hA (fun v0 v1 v2 v3 v4 hf c9 X9 H1 l1 p1 d1 s1 ls hl => ih v0 v1 v2 v3 v4 hf c9 X9 H1 l1 p1 d1 s1 ls hl) _ _ _ _ _ _ hf _ hX _ _ hP hD hS _ (lv_sub hl [0, 1, 2, 3, 4, 5, 6, 8] rfl)
set_option maxHeartbeats 4000000 in
set_option maxRecDepth 100000 in
theorem w_L_isSo_b17 {p : Program} {l : Launch} {e : Env} {s : State} {m : MethodId} {args : Array Value} {below : List Frame} {meth : Method} {c : Code} {D : va_G} {T : TY} {zr_a za_a zg_a : Nat} {xa : XA} {xB : Nat → Option DB} {xo xh : Nat} {zr : Nat → Int32} {za : Nat → Int32} {zg : Nat → Int32} {E : DR} {res : Int32} (hw : WF E) (C : CX p s m args meth c cL_isSo 11 RL wsL_isSo (some .boolean) D T) {A : Nat → Prop} (hA : ∀ q, s.heap.size ≤ q → A q) : ∀ F : Nat, ∀ x4 : Int32, ∀ x5 : Int32, ∀ x6 : Int32, ∀ x7 : Int32, ∀ x8 : Int32, f_L_isSo_b17 zr za zg E F x4 x5 x6 x7 x8 = some res → ∀ (xc : XC), XP xc xB xo xh E → ∀ (H : Heap) (locs : List Loc), va_P D vwCl ((zr_a, .inl (T.1, (60, .inl zr))) :: (za_a, .inl (T.1, (16, .inl za))) :: (zg_a, .inl (T.1, (2, .inl zg))) :: (XW T xa xc ++ PW T xB)) H → va_D A ((zr_a, .inl (T.1, (60, .inl zr))) :: (za_a, .inl (T.1, (16, .inl za))) :: (zg_a, .inl (T.1, (2, .inl zg))) :: (XW T xa xc ++ PW T xB)) → va_S A s.heap H locs → ∀ ls : Array Slot, lv_has ls 11 [(0, .ref xa.1), (1, .ref zr_a), (2, .ref za_a), (3, .ref zg_a), (4, .int x4), (5, .int x5), (6, .int x6), (7, .int x7), (8, .int x8)] → W p l e rmL_isSo s m args below meth c H locs 0 0 (MQ below (Qm (some (.int res)) D (fun W9 => ∃ xc : XC, XP xc xB xo xh E ∧ W9 = ((zr_a, .inl (T.1, (60, .inl zr))) :: (za_a, .inl (T.1, (16, .inl za))) :: (zg_a, .inl (T.1, (2, .inl zg))) :: (XW T xa xc ++ PW T xB))) A) args s 0 0 A) (F0 m 17 ls []) := by
  obtain ⟨hx, hb, hml, hown, hts, hr, hlocks, hK, hN⟩ := id C
  intro F
  induction F with
  | zero => intro _ _ _ _ _ hf; cases hf
  | succ F ih =>
    intro x4 x5 x6 x7 x8 hf xc hX H locs hP hD hS ls hl
    unfold f_L_isSo_b17 at hf
    refine lv_iload hx hb dL_isSo_17 (lv_at hl 8 rfl) ?_
    refine lv_iload hx hb dL_isSo_19 (lv_at hl 4 rfl) ?_
    refine lv_icmp_ge (tgt := 188) hx hb dL_isSo_21 (by decide) (fun c_21 => ?_) (fun c_21 => ?_)
    · have hf := it_pos c_21 hf
      refine lv_iconst (v := (4 : Int32)) hx hb dL_isSo_188 (by decide) ?_
      refine lv_istore (lv' := [(8, .int (4 : Int32)), (0, .ref xa.1), (1, .ref zr_a), (2, .ref za_a), (3, .ref zg_a), (4, .int x4), (5, .int x5), (6, .int x6), (7, .int x7)]) hx hb dL_isSo_189 hl (by decide) rfl (fun ls hl => ?_)
      exact w_L_isSo_b191 hw C hA _ _ _ _ _ _ hf _ hX _ _ hP hD hS _ (lv_sub hl [1, 2, 3, 4, 5, 6, 7, 8, 0] rfl)
    · have hf := it_neg c_21 hf
      refine lv_iconst (v := (0 : Int32)) hx hb dL_isSo_24 (by decide) ?_
      refine lv_istore (lv' := [(9, .int (0 : Int32)), (0, .ref xa.1), (1, .ref zr_a), (2, .ref za_a), (3, .ref zg_a), (4, .int x4), (5, .int x5), (6, .int x6), (7, .int x7), (8, .int x8)]) hx hb dL_isSo_25 hl (by decide) rfl (fun ls hl => ?_)
      refine lv_iconst (v := (0 : Int32)) hx hb dL_isSo_27 (by decide) ?_
      refine lv_istore (lv' := [(10, .int (0 : Int32)), (9, .int (0 : Int32)), (0, .ref xa.1), (1, .ref zr_a), (2, .ref za_a), (3, .ref zg_a), (4, .int x4), (5, .int x5), (6, .int x6), (7, .int x7), (8, .int x8)]) hx hb dL_isSo_28 hl (by decide) rfl (fun ls hl => ?_)
      exact w_L_isSo_b30 hw C hA (fun v0 v1 v2 v3 v4 hf c9 X9 H1 l1 p1 d1 s1 ls hl => ih v0 v1 v2 v3 v4 hf c9 X9 H1 l1 p1 d1 s1 ls hl) _ _ _ _ _ _ _ _ hf _ hX _ _ hP hD hS _ (lv_sub hl [2, 3, 4, 5, 6, 7, 8, 9, 10, 1, 0] rfl)
set_option maxHeartbeats 4000000 in
set_option maxRecDepth 100000 in
theorem w_L_isSo_b0 {p : Program} {l : Launch} {e : Env} {s : State} {m : MethodId} {args : Array Value} {below : List Frame} {meth : Method} {c : Code} {D : va_G} {T : TY} {zr_a za_a zg_a : Nat} {xa : XA} {xB : Nat → Option DB} {xo xh : Nat} {zr : Nat → Int32} {za : Nat → Int32} {zg : Nat → Int32} {E : DR} {res : Int32} (hw : WF E) (C : CX p s m args meth c cL_isSo 11 RL wsL_isSo (some .boolean) D T) {A : Nat → Prop} (hA : ∀ q, s.heap.size ≤ q → A q) : f_L_isSo zr za zg E = some res → ∀ (xc : XC), XP xc xB xo xh E → ∀ (H : Heap) (locs : List Loc), va_P D vwCl ((zr_a, .inl (T.1, (60, .inl zr))) :: (za_a, .inl (T.1, (16, .inl za))) :: (zg_a, .inl (T.1, (2, .inl zg))) :: (XW T xa xc ++ PW T xB)) H → va_D A ((zr_a, .inl (T.1, (60, .inl zr))) :: (za_a, .inl (T.1, (16, .inl za))) :: (zg_a, .inl (T.1, (2, .inl zg))) :: (XW T xa xc ++ PW T xB)) → va_S A s.heap H locs → ∀ ls : Array Slot, lv_has ls 11 [(0, .ref xa.1), (1, .ref zr_a), (2, .ref za_a), (3, .ref zg_a)] → W p l e rmL_isSo s m args below meth c H locs 0 0 (MQ below (Qm (some (.int res)) D (fun W9 => ∃ xc : XC, XP xc xB xo xh E ∧ W9 = ((zr_a, .inl (T.1, (60, .inl zr))) :: (za_a, .inl (T.1, (16, .inl za))) :: (zg_a, .inl (T.1, (2, .inl zg))) :: (XW T xa xc ++ PW T xB))) A) args s 0 0 A) (F0 m 0 ls []) := by
  obtain ⟨hx, hb, hml, hown, hts, hr, hlocks, hK, hN⟩ := id C
  intro  hf xc hX H locs hP hD hS ls hl
  unfold f_L_isSo at hf
  refine lv_aload_n hx hb dL_isSo_0 rfl (lv_at hl 3 rfl) ?_
  refine lv_iconst (v := (0 : Int32)) hx hb dL_isSo_1 (by decide) ?_
  refine va_iald (D := D) hx hb hK hP 2 0 rfl rfl (gd_in (by decide)) dL_isSo_2 ?_
  obtain ⟨v3, e_3, hf⟩ := nm_some hf
  refine lv_nmi e_3 ?_
  refine lv_istore (lv' := [(4, .int v3), (0, .ref xa.1), (1, .ref zr_a), (2, .ref za_a), (3, .ref zg_a)]) hx hb dL_isSo_3 hl (by decide) rfl (fun ls hl => ?_)
  refine lv_iconst (v := (0 : Int32)) hx hb dL_isSo_5 (by decide) ?_
  refine lv_istore (lv' := [(5, .int (0 : Int32)), (4, .int v3), (0, .ref xa.1), (1, .ref zr_a), (2, .ref za_a), (3, .ref zg_a)]) hx hb dL_isSo_6 hl (by decide) rfl (fun ls hl => ?_)
  refine lv_iconst (v := (0 : Int32)) hx hb dL_isSo_8 (by decide) ?_
  refine lv_istore (lv' := [(6, .int (0 : Int32)), (5, .int (0 : Int32)), (4, .int v3), (0, .ref xa.1), (1, .ref zr_a), (2, .ref za_a), (3, .ref zg_a)]) hx hb dL_isSo_9 hl (by decide) rfl (fun ls hl => ?_)
  refine lv_iconst (v := (0 : Int32)) hx hb dL_isSo_11 (by decide) ?_
  refine lv_istore (lv' := [(7, .int (0 : Int32)), (6, .int (0 : Int32)), (5, .int (0 : Int32)), (4, .int v3), (0, .ref xa.1), (1, .ref zr_a), (2, .ref za_a), (3, .ref zg_a)]) hx hb dL_isSo_12 hl (by decide) rfl (fun ls hl => ?_)
  refine lv_iconst (v := (0 : Int32)) hx hb dL_isSo_14 (by decide) ?_
  refine lv_istore (lv' := [(8, .int (0 : Int32)), (7, .int (0 : Int32)), (6, .int (0 : Int32)), (5, .int (0 : Int32)), (4, .int v3), (0, .ref xa.1), (1, .ref zr_a), (2, .ref za_a), (3, .ref zg_a)]) hx hb dL_isSo_15 hl (by decide) rfl (fun ls hl => ?_)
  exact w_L_isSo_b17 hw C hA _ _ _ _ _ _ hf _ hX _ _ hP hD hS _ (lv_sub hl [5, 6, 7, 8, 4, 3, 2, 1, 0] rfl)
theorem c_L_isSo (l : Launch) (D : va_G) (T : TY) (zr_a za_a zg_a : Nat) (xa : XA) (zr : Nat → Int32) (za : Nat → Int32) (zg : Nat → Int32) (E : DR) (res : Int32) (hf : f_L_isSo zr za zg E = some res) (xc : XC) (xB : Nat → Option DB) (xo xh : Nat) (hX : XP xc xB xo xh E) (hw : WF E) (sz : Nat) : Met l yL_isSo wsL_isSo rmL_isSo (va_Pc [.ref xa.1, .ref zr_a, .ref za_a, .ref zg_a] (PM D T ((zr_a, .inl (T.1, (60, .inl zr))) :: (za_a, .inl (T.1, (16, .inl za))) :: (zg_a, .inl (T.1, (2, .inl zg))) :: (XW T xa xc ++ PW T xB)) sz)) (Qm (some (.int res)) D (fun W9 => ∃ xc : XC, XP xc xB xo xh E ∧ W9 = ((zr_a, .inl (T.1, (60, .inl zr))) :: (za_a, .inl (T.1, (16, .inl za))) :: (zg_a, .inl (T.1, (2, .inl zg))) :: (XW T xa xc ++ PW T xB))) (va_A ((zr_a, .inl (T.1, (60, .inl zr))) :: (za_a, .inl (T.1, (16, .inl za))) :: (zg_a, .inl (T.1, (2, .inl zg))) :: (XW T xa xc ++ PW T xB)) sz)) 0 0 (va_A ((zr_a, .inl (T.1, (60, .inl zr))) :: (za_a, .inl (T.1, (16, .inl za))) :: (zg_a, .inl (T.1, (2, .inl zg))) :: (XW T xa xc ++ PW T xB)) sz) :=
  metM_of (by decide +kernel) rfl (Nat.le_of_ble_eq_true rfl) (fun p e s m args below meth c C hnm A hA hP hD ls hl => w_L_isSo_b0 hw C hA hf _ hX _ _ hP hD va_S.rf ls hl)
