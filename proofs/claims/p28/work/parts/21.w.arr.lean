/-! ===== walks, laid by wip/gen28/genarr.py ===== -/
def rmL_low : Room := { frames := 0, cells := 0, slots := 0, locals := 0 }
theorem hdS_L_low : yL_low.cls ≠ "java/lang/invoke/MethodHandle" ∧ yL_low.cls ≠ "java/lang/invoke/VarHandle" ∧ (parseMethodDescriptor yL_low.desc).map (fun d => d.parameters.length) = some 2 := by decide +kernel
theorem mw_L_low_0 : Cond.constant RL 8 (2147483647) ∈ wsL_low := by decide +kernel
set_option maxHeartbeats 4000000 in
set_option maxRecDepth 100000 in
theorem w_L_low_b0 {p : Program} {l : Launch} {e : Env} {s : State} {m : MethodId} {args : Array Value} {below : List Frame} {meth : Method} {c : Code} {D : va_G} {T : TY} {x0 : Int32} {x1 : Int32} {res : Int32} (C : CX p s m args meth c cL_low 2 RL wsL_low (some .int) D T) (hP : va_P D vwCl [] s.heap) : f_L_low x0 x1 = some res → ∀ ls : Array Slot, lv_has ls 2 [(0, .int x0), (1, .int x1)] → W p l e rmL_low s m args below meth c s.heap [] 0 0 (MQ below (Qp (some (.int res))) args s 0 0 (fun _ => False)) (F0 m 0 ls []) := by
  obtain ⟨hx, hb, hml, hown, hts, hr, hlocks, hK, hN⟩ := id C
  intro  hf ls hl
  unfold f_L_low at hf
  refine lv_iload_n hx hb dL_low_0 rfl (lv_at hl 0 rfl) ?_
  refine lv_ldc (v := (2147483647 : Int32)) hx hb hown (hts (.constant RL 8 (2147483647)) mw_L_low_0) dL_low_1 ?_
  refine lv_iand hx hb dL_low_3 ?_
  refine lv_iload_n hx hb dL_low_4 rfl (lv_at hl 1 rfl) ?_
  by_cases c_5 : x1 = 0
  · rw [if_pos c_5] at hf; cases hf
  rw [if_neg c_5] at hf
  refine lv_irem hx hb dL_low_5 c_5 ?_
  obtain rfl := Option.some.inj hf
  exact W.iret hx hb hr (fun t ht hW => ⟨rfl, ht⟩) (fun q hq => absurd hq List.not_mem_nil) dL_low_6 hlocks
theorem c_L_low (l : Launch) (D : va_G) (T : TY) (x0 : Int32) (x1 : Int32) (res : Int32) (hf : f_L_low x0 x1 = some res) : Met l yL_low wsL_low rmL_low (va_Pc [.int x0, .int x1] (PB D T [])) (Qp (some (.int res))) 0 0 (fun _ => False) :=
  metP_of (by decide +kernel) rfl (Nat.le_of_ble_eq_true rfl) (fun p e s m args below meth c C hP ls hl => w_L_low_b0 C hP hf ls hl)
def rmL_goesOn : Room := { frames := 0, cells := 0, slots := 0, locals := 0 }
theorem hdS_L_goesOn : yL_goesOn.cls ≠ "java/lang/invoke/MethodHandle" ∧ yL_goesOn.cls ≠ "java/lang/invoke/VarHandle" ∧ (parseMethodDescriptor yL_goesOn.desc).map (fun d => d.parameters.length) = some 2 := by decide +kernel
set_option maxHeartbeats 4000000 in
set_option maxRecDepth 100000 in
theorem w_L_goesOn_b0 {p : Program} {l : Launch} {e : Env} {s : State} {m : MethodId} {args : Array Value} {below : List Frame} {meth : Method} {c : Code} {D : va_G} {T : TY} {zr_a : Nat} {zr : Nat → Int32} {x1 : Int32} {res : Int32} (C : CX p s m args meth c cL_goesOn 2 RL wsL_goesOn (some .boolean) D T) (hP : va_P D vwCl [(zr_a, .inl (T.1, (60, .inl zr)))] s.heap) : f_L_goesOn zr x1 = some res → ∀ ls : Array Slot, lv_has ls 2 [(0, .ref zr_a), (1, .int x1)] → W p l e rmL_goesOn s m args below meth c s.heap [] 0 0 (MQ below (Qp (some (.int res))) args s 0 0 (fun _ => False)) (F0 m 0 ls []) := by
  obtain ⟨hx, hb, hml, hown, hts, hr, hlocks, hK, hN⟩ := id C
  intro  hf ls hl
  unfold f_L_goesOn at hf
  refine lv_aload_n hx hb dL_goesOn_0 rfl (lv_at hl 0 rfl) ?_
  refine lv_iconst (v := (3 : Int32)) hx hb dL_goesOn_1 (by decide) ?_
  refine lv_iload_n hx hb dL_goesOn_2 rfl (lv_at hl 1 rfl) ?_
  refine lv_imul hx hb dL_goesOn_3 ?_
  refine lv_iconst (v := (1 : Int32)) hx hb dL_goesOn_4 (by decide) ?_
  refine lv_iadd hx hb dL_goesOn_5 ?_
  obtain ⟨g_6, hf⟩ := gd_some hf
  refine va_iald (D := D) hx hb hK hP 0 0 rfl rfl (gd_in g_6) dL_goesOn_6 ?_
  refine lv_iconst (v := (4 : Int32)) hx hb dL_goesOn_7 (by decide) ?_
  refine lv_idiv hx hb dL_goesOn_8 (by decide) ?_
  refine lv_aload_n hx hb dL_goesOn_9 rfl (lv_at hl 0 rfl) ?_
  refine lv_iconst (v := (3 : Int32)) hx hb dL_goesOn_10 (by decide) ?_
  refine lv_iload_n hx hb dL_goesOn_11 rfl (lv_at hl 1 rfl) ?_
  refine lv_imul hx hb dL_goesOn_12 ?_
  obtain ⟨g_13, hf⟩ := gd_some hf
  refine va_iald (D := D) hx hb hK hP 0 0 rfl rfl (gd_in g_13) dL_goesOn_13 ?_
  refine lv_iconst (v := (4 : Int32)) hx hb dL_goesOn_14 (by decide) ?_
  refine lv_idiv hx hb dL_goesOn_15 (by decide) ?_
  refine lv_icmp_le (tgt := 23) hx hb dL_goesOn_16 (by decide) (fun c_16 => ?_) (fun c_16 => ?_)
  · have hf := it_pos c_16 hf
    refine lv_iconst (v := (0 : Int32)) hx hb dL_goesOn_23 (by decide) ?_
    obtain rfl := Option.some.inj hf
    exact W.zret hx hb hr (by decide) (fun t ht hW => ⟨rfl, ht⟩) (fun q hq => absurd hq List.not_mem_nil) dL_goesOn_24 hlocks
  · have hf := it_neg c_16 hf
    refine lv_iconst (v := (1 : Int32)) hx hb dL_goesOn_19 (by decide) ?_
    refine lv_goto (tgt := 24) hx hb dL_goesOn_20 (by decide) ?_
    obtain rfl := Option.some.inj hf
    exact W.zret hx hb hr (by decide) (fun t ht hW => ⟨rfl, ht⟩) (fun q hq => absurd hq List.not_mem_nil) dL_goesOn_24 hlocks
theorem c_L_goesOn (l : Launch) (D : va_G) (T : TY) (zr_a : Nat) (zr : Nat → Int32) (x1 : Int32) (res : Int32) (hf : f_L_goesOn zr x1 = some res) : Met l yL_goesOn wsL_goesOn rmL_goesOn (va_Pc [.ref zr_a, .int x1] (PB D T [(zr_a, .inl (T.1, (60, .inl zr)))])) (Qp (some (.int res))) 0 0 (fun _ => False) :=
  metP_of (by decide +kernel) rfl (Nat.le_of_ble_eq_true rfl) (fun p e s m args below meth c C hP ls hl => w_L_goesOn_b0 C hP hf ls hl)
def rmL_cross : Room := { frames := 1, cells := 0, slots := 0, locals := 21 }
theorem hdS_L_cross : yL_cross.cls ≠ "java/lang/invoke/MethodHandle" ∧ yL_cross.cls ≠ "java/lang/invoke/VarHandle" ∧ (parseMethodDescriptor yL_cross.desc).map (fun d => d.parameters.length) = some 4 := by decide +kernel
theorem mw_L_cross_0 : Cond.static yL_goesOn ∈ wsL_cross := by decide +kernel
set_option maxHeartbeats 4000000 in
set_option maxRecDepth 100000 in
theorem w_L_cross_b51 {p : Program} {l : Launch} {e : Env} {s : State} {m : MethodId} {args : Array Value} {below : List Frame} {meth : Method} {c : Code} {D : va_G} {T : TY} {zr_a za_a : Nat} {zr : Nat → Int32} {za : Nat → Int32} {x2 : Int32} {x3 : Int32} {res : Int32} (C : CX p s m args meth c cL_cross 5 RL wsL_cross (some .boolean) D T) (hP : va_P D vwCl [(zr_a, .inl (T.1, (60, .inl zr))), (za_a, .inl (T.1, (16, .inl za)))] s.heap) : ∀ s0 : Int32, f_L_cross_b51 zr za x2 x3 s0 = some res → ∀ ls : Array Slot, lv_has ls 5 [(0, .ref zr_a), (1, .ref za_a), (2, .int x2), (3, .int x3)] → W p l e rmL_cross s m args below meth c s.heap [] 0 0 (MQ below (Qp (some (.int res))) args s 0 0 (fun _ => False)) (F0 m 51 ls [.int s0]) := by
  obtain ⟨hx, hb, hml, hown, hts, hr, hlocks, hK, hN⟩ := id C
  intro s0 hf ls hl
  unfold f_L_cross_b51 at hf
  refine lv_istore (lv' := [(4, .int s0), (0, .ref zr_a), (1, .ref za_a), (2, .int x2), (3, .int x3)]) hx hb dL_cross_51 hl (by decide) rfl (fun ls hl => ?_)
  refine lv_iload hx hb dL_cross_53 (lv_at hl 0 rfl) ?_
  refine lv_if_eq (tgt := 100) hx hb dL_cross_55 (by decide) (fun c_55 => ?_) (fun c_55 => ?_)
  · have hf := it_pos c_55 hf
    refine lv_iconst (v := (0 : Int32)) hx hb dL_cross_100 (by decide) ?_
    obtain rfl := Option.some.inj hf
    exact W.zret hx hb hr (by decide) (fun t ht hW => ⟨rfl, ht⟩) (fun q hq => absurd hq List.not_mem_nil) dL_cross_101 hlocks
  · have hf := it_neg c_55 hf
    refine lv_aload_n hx hb dL_cross_58 rfl (lv_at hl 2 rfl) ?_
    refine lv_aload_n hx hb dL_cross_59 rfl (lv_at hl 1 rfl) ?_
    refine lv_iconst (v := (3 : Int32)) hx hb dL_cross_60 (by decide) ?_
    refine lv_iload_n hx hb dL_cross_61 rfl (lv_at hl 3 rfl) ?_
    refine lv_imul hx hb dL_cross_62 ?_
    obtain ⟨g_63, hf⟩ := gd_some hf
    refine va_iald (D := D) hx hb hK hP 0 0 rfl rfl (gd_in g_63) dL_cross_63 ?_
    obtain ⟨g_64, hf⟩ := gd_some hf
    refine va_iald (D := D) hx hb hK hP 1 0 rfl rfl (gd_in g_64) dL_cross_64 ?_
    refine lv_aload_n hx hb dL_cross_65 rfl (lv_at hl 2 rfl) ?_
    refine lv_aload_n hx hb dL_cross_66 rfl (lv_at hl 1 rfl) ?_
    refine lv_iconst (v := (3 : Int32)) hx hb dL_cross_67 (by decide) ?_
    refine lv_iload_n hx hb dL_cross_68 rfl (lv_at hl 4 rfl) ?_
    refine lv_imul hx hb dL_cross_69 ?_
    obtain ⟨g_70, hf⟩ := gd_some hf
    refine va_iald (D := D) hx hb hK hP 0 0 rfl rfl (gd_in g_70) dL_cross_70 ?_
    obtain ⟨g_71, hf⟩ := gd_some hf
    refine va_iald (D := D) hx hb hK hP 1 0 rfl rfl (gd_in g_71) dL_cross_71 ?_
    refine lv_isub hx hb dL_cross_72 ?_
    refine lv_aload_n hx hb dL_cross_73 rfl (lv_at hl 2 rfl) ?_
    refine lv_aload_n hx hb dL_cross_74 rfl (lv_at hl 1 rfl) ?_
    refine lv_iconst (v := (3 : Int32)) hx hb dL_cross_75 (by decide) ?_
    refine lv_iload_n hx hb dL_cross_76 rfl (lv_at hl 3 rfl) ?_
    refine lv_imul hx hb dL_cross_77 ?_
    refine lv_iconst (v := (1 : Int32)) hx hb dL_cross_78 (by decide) ?_
    refine lv_iadd hx hb dL_cross_79 ?_
    obtain ⟨g_80, hf⟩ := gd_some hf
    refine va_iald (D := D) hx hb hK hP 0 0 rfl rfl (gd_in g_80) dL_cross_80 ?_
    obtain ⟨g_81, hf⟩ := gd_some hf
    refine va_iald (D := D) hx hb hK hP 1 0 rfl rfl (gd_in g_81) dL_cross_81 ?_
    refine lv_aload_n hx hb dL_cross_82 rfl (lv_at hl 2 rfl) ?_
    refine lv_aload_n hx hb dL_cross_83 rfl (lv_at hl 1 rfl) ?_
    refine lv_iconst (v := (3 : Int32)) hx hb dL_cross_84 (by decide) ?_
    refine lv_iload_n hx hb dL_cross_85 rfl (lv_at hl 4 rfl) ?_
    refine lv_imul hx hb dL_cross_86 ?_
    refine lv_iconst (v := (1 : Int32)) hx hb dL_cross_87 (by decide) ?_
    refine lv_iadd hx hb dL_cross_88 ?_
    obtain ⟨g_89, hf⟩ := gd_some hf
    refine va_iald (D := D) hx hb hK hP 0 0 rfl rfl (gd_in g_89) dL_cross_89 ?_
    obtain ⟨g_90, hf⟩ := gd_some hf
    refine va_iald (D := D) hx hb hK hP 1 0 rfl rfl (gd_in g_90) dL_cross_90 ?_
    refine lv_isub hx hb dL_cross_91 ?_
    refine lv_imul hx hb dL_cross_92 ?_
    refine lv_if_ge (tgt := 100) hx hb dL_cross_93 (by decide) (fun c_93 => ?_) (fun c_93 => ?_)
    · have hf := it_pos c_93 hf
      refine lv_iconst (v := (0 : Int32)) hx hb dL_cross_100 (by decide) ?_
      obtain rfl := Option.some.inj hf
      exact W.zret hx hb hr (by decide) (fun t ht hW => ⟨rfl, ht⟩) (fun q hq => absurd hq List.not_mem_nil) dL_cross_101 hlocks
    · have hf := it_neg c_93 hf
      refine lv_iconst (v := (1 : Int32)) hx hb dL_cross_96 (by decide) ?_
      refine lv_goto (tgt := 101) hx hb dL_cross_97 (by decide) ?_
      obtain rfl := Option.some.inj hf
      exact W.zret hx hb hr (by decide) (fun t ht hW => ⟨rfl, ht⟩) (fun q hq => absurd hq List.not_mem_nil) dL_cross_101 hlocks
set_option maxHeartbeats 4000000 in
set_option maxRecDepth 100000 in
theorem w_L_cross_b50 {p : Program} {l : Launch} {e : Env} {s : State} {m : MethodId} {args : Array Value} {below : List Frame} {meth : Method} {c : Code} {D : va_G} {T : TY} {zr_a za_a : Nat} {zr : Nat → Int32} {za : Nat → Int32} {x2 : Int32} {x3 : Int32} {res : Int32} (C : CX p s m args meth c cL_cross 5 RL wsL_cross (some .boolean) D T) (hP : va_P D vwCl [(zr_a, .inl (T.1, (60, .inl zr))), (za_a, .inl (T.1, (16, .inl za)))] s.heap) : f_L_cross_b50 zr za x2 x3 = some res → ∀ ls : Array Slot, lv_has ls 5 [(0, .ref zr_a), (1, .ref za_a), (2, .int x2), (3, .int x3)] → W p l e rmL_cross s m args below meth c s.heap [] 0 0 (MQ below (Qp (some (.int res))) args s 0 0 (fun _ => False)) (F0 m 50 ls []) := by
  obtain ⟨hx, hb, hml, hown, hts, hr, hlocks, hK, hN⟩ := id C
  intro  hf ls hl
  unfold f_L_cross_b50 at hf
  refine lv_iconst (v := (0 : Int32)) hx hb dL_cross_50 (by decide) ?_
  exact w_L_cross_b51 C hP _ hf _ (lv_sub hl [0, 1, 2, 3] rfl)
set_option maxHeartbeats 4000000 in
set_option maxRecDepth 100000 in
theorem w_L_cross_b0 {p : Program} {l : Launch} {e : Env} {s : State} {m : MethodId} {args : Array Value} {below : List Frame} {meth : Method} {c : Code} {D : va_G} {T : TY} {zr_a za_a : Nat} {zr : Nat → Int32} {za : Nat → Int32} {x2 : Int32} {x3 : Int32} {res : Int32} (C : CX p s m args meth c cL_cross 5 RL wsL_cross (some .boolean) D T) (hP : va_P D vwCl [(zr_a, .inl (T.1, (60, .inl zr))), (za_a, .inl (T.1, (16, .inl za)))] s.heap) : f_L_cross zr za x2 x3 = some res → ∀ ls : Array Slot, lv_has ls 5 [(0, .ref zr_a), (1, .ref za_a), (2, .int x2), (3, .int x3)] → W p l e rmL_cross s m args below meth c s.heap [] 0 0 (MQ below (Qp (some (.int res))) args s 0 0 (fun _ => False)) (F0 m 0 ls []) := by
  obtain ⟨hx, hb, hml, hown, hts, hr, hlocks, hK, hN⟩ := id C
  intro  hf ls hl
  unfold f_L_cross at hf
  refine lv_aload_n hx hb dL_cross_0 rfl (lv_at hl 0 rfl) ?_
  refine lv_iload_n hx hb dL_cross_1 rfl (lv_at hl 2 rfl) ?_
  obtain ⟨q2, e_2, hf⟩ := bd_some hf
  refine callPi (va_runS (As := [.ref zr_a, .int x2]) (rest := []) ⟨hx, hb, hml, hown, hts⟩ (c_L_goesOn l D T zr_a zr x2 q2 e_2) (va_cwS 2 hts gL_cross_L_goesOn rfl rfl rfl hdS_L_goesOn ⟨Nat.le_of_ble_eq_true rfl, Nat.le_of_ble_eq_true rfl⟩) (preBS (hP.sub (ws' := [(zr_a, .inl (T.1, (60, .inl zr)))]) [0] rfl) hK hN) rfl rfl hl.1 rfl (lv_room (Nat.le_of_ble_eq_true rfl)) dL_cross_2 ⟨Nat.le_of_ble_eq_true rfl, Nat.le_of_ble_eq_true rfl⟩) ?_
  refine lv_if_eq (tgt := 50) hx hb dL_cross_5 (by decide) (fun c_5 => ?_) (fun c_5 => ?_)
  · have hf := it_pos c_5 hf
    exact w_L_cross_b50 C hP hf _ (lv_sub hl [0, 1, 2, 3] rfl)
  · have hf := it_neg c_5 hf
    refine lv_aload_n hx hb dL_cross_8 rfl (lv_at hl 0 rfl) ?_
    refine lv_iconst (v := (3 : Int32)) hx hb dL_cross_9 (by decide) ?_
    refine lv_iload_n hx hb dL_cross_10 rfl (lv_at hl 2 rfl) ?_
    refine lv_imul hx hb dL_cross_11 ?_
    obtain ⟨g_12, hf⟩ := gd_some hf
    refine va_iald (D := D) hx hb hK hP 0 0 rfl rfl (gd_in g_12) dL_cross_12 ?_
    refine lv_iconst (v := (4 : Int32)) hx hb dL_cross_13 (by decide) ?_
    refine lv_idiv hx hb dL_cross_14 (by decide) ?_
    refine lv_aload_n hx hb dL_cross_15 rfl (lv_at hl 0 rfl) ?_
    refine lv_iconst (v := (3 : Int32)) hx hb dL_cross_16 (by decide) ?_
    refine lv_iload_n hx hb dL_cross_17 rfl (lv_at hl 3 rfl) ?_
    refine lv_imul hx hb dL_cross_18 ?_
    obtain ⟨g_19, hf⟩ := gd_some hf
    refine va_iald (D := D) hx hb hK hP 0 0 rfl rfl (gd_in g_19) dL_cross_19 ?_
    refine lv_iconst (v := (4 : Int32)) hx hb dL_cross_20 (by decide) ?_
    refine lv_idiv hx hb dL_cross_21 (by decide) ?_
    refine lv_icmp_ne (tgt := 50) hx hb dL_cross_22 (by decide) (fun c_22 => ?_) (fun c_22 => ?_)
    · have hf := it_neg c_22 hf
      exact w_L_cross_b50 C hP hf _ (lv_sub hl [0, 1, 2, 3] rfl)
    · have hf := it_pos c_22 hf
      refine lv_aload_n hx hb dL_cross_25 rfl (lv_at hl 0 rfl) ?_
      refine lv_iconst (v := (3 : Int32)) hx hb dL_cross_26 (by decide) ?_
      refine lv_iload_n hx hb dL_cross_27 rfl (lv_at hl 2 rfl) ?_
      refine lv_imul hx hb dL_cross_28 ?_
      refine lv_iconst (v := (1 : Int32)) hx hb dL_cross_29 (by decide) ?_
      refine lv_iadd hx hb dL_cross_30 ?_
      obtain ⟨g_31, hf⟩ := gd_some hf
      refine va_iald (D := D) hx hb hK hP 0 0 rfl rfl (gd_in g_31) dL_cross_31 ?_
      refine lv_iconst (v := (4 : Int32)) hx hb dL_cross_32 (by decide) ?_
      refine lv_idiv hx hb dL_cross_33 (by decide) ?_
      refine lv_aload_n hx hb dL_cross_34 rfl (lv_at hl 0 rfl) ?_
      refine lv_iconst (v := (3 : Int32)) hx hb dL_cross_35 (by decide) ?_
      refine lv_iload_n hx hb dL_cross_36 rfl (lv_at hl 3 rfl) ?_
      refine lv_imul hx hb dL_cross_37 ?_
      refine lv_iconst (v := (1 : Int32)) hx hb dL_cross_38 (by decide) ?_
      refine lv_iadd hx hb dL_cross_39 ?_
      obtain ⟨g_40, hf⟩ := gd_some hf
      refine va_iald (D := D) hx hb hK hP 0 0 rfl rfl (gd_in g_40) dL_cross_40 ?_
      refine lv_iconst (v := (4 : Int32)) hx hb dL_cross_41 (by decide) ?_
      refine lv_idiv hx hb dL_cross_42 (by decide) ?_
      refine lv_icmp_ne (tgt := 50) hx hb dL_cross_43 (by decide) (fun c_43 => ?_) (fun c_43 => ?_)
      · have hf := it_neg c_43 hf
        exact w_L_cross_b50 C hP hf _ (lv_sub hl [0, 1, 2, 3] rfl)
      · have hf := it_pos c_43 hf
        refine lv_iconst (v := (1 : Int32)) hx hb dL_cross_46 (by decide) ?_
        refine lv_goto (tgt := 51) hx hb dL_cross_47 (by decide) ?_
        exact w_L_cross_b51 C hP _ hf _ (lv_sub hl [0, 1, 2, 3] rfl)
theorem c_L_cross (l : Launch) (D : va_G) (T : TY) (zr_a za_a : Nat) (zr : Nat → Int32) (za : Nat → Int32) (x2 : Int32) (x3 : Int32) (res : Int32) (hf : f_L_cross zr za x2 x3 = some res) : Met l yL_cross wsL_cross rmL_cross (va_Pc [.ref zr_a, .ref za_a, .int x2, .int x3] (PB D T [(zr_a, .inl (T.1, (60, .inl zr))), (za_a, .inl (T.1, (16, .inl za)))])) (Qp (some (.int res))) 0 0 (fun _ => False) :=
  metP_of (by decide +kernel) rfl (Nat.le_of_ble_eq_true rfl) (fun p e s m args below meth c C hP ls hl => w_L_cross_b0 C hP hf ls hl)
def rmL_crossings : Room := { frames := 2, cells := 0, slots := 0, locals := 45 }
theorem hdS_L_crossings : yL_crossings.cls ≠ "java/lang/invoke/MethodHandle" ∧ yL_crossings.cls ≠ "java/lang/invoke/VarHandle" ∧ (parseMethodDescriptor yL_crossings.desc).map (fun d => d.parameters.length) = some 3 := by decide +kernel
theorem mw_L_crossings_0 : Cond.static yL_cross ∈ wsL_crossings := by decide +kernel
set_option maxHeartbeats 4000000 in
set_option maxRecDepth 100000 in
theorem w_L_crossings_b75 {p : Program} {l : Launch} {e : Env} {s : State} {m : MethodId} {args : Array Value} {below : List Frame} {meth : Method} {c : Code} {D : va_G} {T : TY} {zr_a za_a : Nat} {zr : Nat → Int32} {za : Nat → Int32} {x2 : Int32} {res : Int32} {K5 : Int32 → Int32 → Option (Int32)} {K15 : Int32 → Int32 → Int32 → Option (Int32)} {K24 : Int32 → Int32 → Int32 → Int32 → Option (Int32)} (C : CX p s m args meth c cL_crossings 7 RL wsL_crossings (some .int) D T) (hP : va_P D vwCl [(zr_a, .inl (T.1, (60, .inl zr))), (za_a, .inl (T.1, (16, .inl za)))] s.heap) (hK5 : ∀ x3 : Int32, ∀ x4 : Int32, K5 x3 x4 = some res → ∀ ls : Array Slot, lv_has ls 7 [(0, .ref zr_a), (1, .ref za_a), (2, .int x2), (3, .int x3), (4, .int x4)] → W p l e rmL_crossings s m args below meth c s.heap [] 0 0 (MQ below (Qp (some (.int res))) args s 0 0 (fun _ => False)) (F0 m 5 ls [])) (hK15 : ∀ x3 : Int32, ∀ x4 : Int32, ∀ x5 : Int32, K15 x3 x4 x5 = some res → ∀ ls : Array Slot, lv_has ls 7 [(0, .ref zr_a), (1, .ref za_a), (2, .int x2), (3, .int x3), (4, .int x4), (5, .int x5)] → W p l e rmL_crossings s m args below meth c s.heap [] 0 0 (MQ below (Qp (some (.int res))) args s 0 0 (fun _ => False)) (F0 m 15 ls [])) (hK24 : ∀ x3 : Int32, ∀ x4 : Int32, ∀ x5 : Int32, ∀ x6 : Int32, K24 x3 x4 x5 x6 = some res → ∀ ls : Array Slot, lv_has ls 7 [(0, .ref zr_a), (1, .ref za_a), (2, .int x2), (3, .int x3), (4, .int x4), (5, .int x5), (6, .int x6)] → W p l e rmL_crossings s m args below meth c s.heap [] 0 0 (MQ below (Qp (some (.int res))) args s 0 0 (fun _ => False)) (F0 m 24 ls [])) : ∀ s0 : Int32, ∀ s1 : Int32, ∀ x4 : Int32, ∀ x5 : Int32, ∀ x6 : Int32, f_L_crossings_b75 zr za x2 K5 K15 K24 s0 s1 x4 x5 x6 = some res → ∀ ls : Array Slot, lv_has ls 7 [(0, .ref zr_a), (1, .ref za_a), (2, .int x2), (4, .int x4), (5, .int x5), (6, .int x6)] → W p l e rmL_crossings s m args below meth c s.heap [] 0 0 (MQ below (Qp (some (.int res))) args s 0 0 (fun _ => False)) (F0 m 75 ls [.int s0, .int s1]) := by
  obtain ⟨hx, hb, hml, hown, hts, hr, hlocks, hK, hN⟩ := id C
  intro s0 s1 x4 x5 x6 hf ls hl
  unfold f_L_crossings_b75 at hf
  refine lv_iadd hx hb dL_crossings_75 ?_
  obtain ⟨v76, e_76, hf⟩ := nm_some hf
  refine lv_nmi e_76 ?_
  refine lv_istore_n (lv' := [(3, .int v76), (0, .ref zr_a), (1, .ref za_a), (2, .int x2), (4, .int x4), (5, .int x5), (6, .int x6)]) hx hb dL_crossings_76 rfl hl (by decide) rfl (fun ls hl => ?_)
  obtain ⟨v77, e_77, hf⟩ := nm_some hf
  refine lv_iinc (v := v77) (lv' := [(6, .int v77), (3, .int v76), (0, .ref zr_a), (1, .ref za_a), (2, .int x2), (4, .int x4), (5, .int x5)]) hx hb dL_crossings_77 hl (k := 6) rfl (by rw [e_77]; rfl) (by decide) rfl (fun ls hl => ?_)
  refine lv_goto (tgt := 24) hx hb dL_crossings_80 (by decide) ?_
  exact hK24 _ _ _ _ hf _ (lv_sub hl [2, 3, 4, 1, 5, 6, 0] rfl)
set_option maxHeartbeats 4000000 in
set_option maxRecDepth 100000 in
theorem w_L_crossings_b74 {p : Program} {l : Launch} {e : Env} {s : State} {m : MethodId} {args : Array Value} {below : List Frame} {meth : Method} {c : Code} {D : va_G} {T : TY} {zr_a za_a : Nat} {zr : Nat → Int32} {za : Nat → Int32} {x2 : Int32} {res : Int32} {K5 : Int32 → Int32 → Option (Int32)} {K15 : Int32 → Int32 → Int32 → Option (Int32)} {K24 : Int32 → Int32 → Int32 → Int32 → Option (Int32)} (C : CX p s m args meth c cL_crossings 7 RL wsL_crossings (some .int) D T) (hP : va_P D vwCl [(zr_a, .inl (T.1, (60, .inl zr))), (za_a, .inl (T.1, (16, .inl za)))] s.heap) (hK5 : ∀ x3 : Int32, ∀ x4 : Int32, K5 x3 x4 = some res → ∀ ls : Array Slot, lv_has ls 7 [(0, .ref zr_a), (1, .ref za_a), (2, .int x2), (3, .int x3), (4, .int x4)] → W p l e rmL_crossings s m args below meth c s.heap [] 0 0 (MQ below (Qp (some (.int res))) args s 0 0 (fun _ => False)) (F0 m 5 ls [])) (hK15 : ∀ x3 : Int32, ∀ x4 : Int32, ∀ x5 : Int32, K15 x3 x4 x5 = some res → ∀ ls : Array Slot, lv_has ls 7 [(0, .ref zr_a), (1, .ref za_a), (2, .int x2), (3, .int x3), (4, .int x4), (5, .int x5)] → W p l e rmL_crossings s m args below meth c s.heap [] 0 0 (MQ below (Qp (some (.int res))) args s 0 0 (fun _ => False)) (F0 m 15 ls [])) (hK24 : ∀ x3 : Int32, ∀ x4 : Int32, ∀ x5 : Int32, ∀ x6 : Int32, K24 x3 x4 x5 x6 = some res → ∀ ls : Array Slot, lv_has ls 7 [(0, .ref zr_a), (1, .ref za_a), (2, .int x2), (3, .int x3), (4, .int x4), (5, .int x5), (6, .int x6)] → W p l e rmL_crossings s m args below meth c s.heap [] 0 0 (MQ below (Qp (some (.int res))) args s 0 0 (fun _ => False)) (F0 m 24 ls [])) : ∀ s0 : Int32, ∀ x4 : Int32, ∀ x5 : Int32, ∀ x6 : Int32, f_L_crossings_b74 zr za x2 K5 K15 K24 s0 x4 x5 x6 = some res → ∀ ls : Array Slot, lv_has ls 7 [(0, .ref zr_a), (1, .ref za_a), (2, .int x2), (4, .int x4), (5, .int x5), (6, .int x6)] → W p l e rmL_crossings s m args below meth c s.heap [] 0 0 (MQ below (Qp (some (.int res))) args s 0 0 (fun _ => False)) (F0 m 74 ls [.int s0]) := by
  obtain ⟨hx, hb, hml, hown, hts, hr, hlocks, hK, hN⟩ := id C
  intro s0 x4 x5 x6 hf ls hl
  unfold f_L_crossings_b74 at hf
  refine lv_iconst (v := (0 : Int32)) hx hb dL_crossings_74 (by decide) ?_
  exact w_L_crossings_b75 C hP hK5 hK15 hK24 _ _ _ _ _ hf _ (lv_sub hl [0, 1, 2, 3, 4, 5] rfl)
set_option maxHeartbeats 4000000 in
set_option maxRecDepth 100000 in
theorem w_L_crossings_b24 {p : Program} {l : Launch} {e : Env} {s : State} {m : MethodId} {args : Array Value} {below : List Frame} {meth : Method} {c : Code} {D : va_G} {T : TY} {zr_a za_a : Nat} {zr : Nat → Int32} {za : Nat → Int32} {x2 : Int32} {res : Int32} {K5 : Int32 → Int32 → Option (Int32)} {K15 : Int32 → Int32 → Int32 → Option (Int32)} (C : CX p s m args meth c cL_crossings 7 RL wsL_crossings (some .int) D T) (hP : va_P D vwCl [(zr_a, .inl (T.1, (60, .inl zr))), (za_a, .inl (T.1, (16, .inl za)))] s.heap) (hK5 : ∀ x3 : Int32, ∀ x4 : Int32, K5 x3 x4 = some res → ∀ ls : Array Slot, lv_has ls 7 [(0, .ref zr_a), (1, .ref za_a), (2, .int x2), (3, .int x3), (4, .int x4)] → W p l e rmL_crossings s m args below meth c s.heap [] 0 0 (MQ below (Qp (some (.int res))) args s 0 0 (fun _ => False)) (F0 m 5 ls [])) (hK15 : ∀ x3 : Int32, ∀ x4 : Int32, ∀ x5 : Int32, K15 x3 x4 x5 = some res → ∀ ls : Array Slot, lv_has ls 7 [(0, .ref zr_a), (1, .ref za_a), (2, .int x2), (3, .int x3), (4, .int x4), (5, .int x5)] → W p l e rmL_crossings s m args below meth c s.heap [] 0 0 (MQ below (Qp (some (.int res))) args s 0 0 (fun _ => False)) (F0 m 15 ls [])) : ∀ F : Nat, ∀ x3 : Int32, ∀ x4 : Int32, ∀ x5 : Int32, ∀ x6 : Int32, f_L_crossings_b24 zr za x2 K5 K15 F x3 x4 x5 x6 = some res → ∀ ls : Array Slot, lv_has ls 7 [(0, .ref zr_a), (1, .ref za_a), (2, .int x2), (3, .int x3), (4, .int x4), (5, .int x5), (6, .int x6)] → W p l e rmL_crossings s m args below meth c s.heap [] 0 0 (MQ below (Qp (some (.int res))) args s 0 0 (fun _ => False)) (F0 m 24 ls []) := by
  obtain ⟨hx, hb, hml, hown, hts, hr, hlocks, hK, hN⟩ := id C
  intro F
  induction F with
  | zero => intro _ _ _ _ hf; cases hf
  | succ F ih =>
    intro x3 x4 x5 x6 hf ls hl
    unfold f_L_crossings_b24 at hf
    refine lv_iload hx hb dL_crossings_24 (lv_at hl 6 rfl) ?_
    refine lv_iload hx hb dL_crossings_26 (lv_at hl 5 rfl) ?_
    refine lv_icmp_ge (tgt := 83) hx hb dL_crossings_28 (by decide) (fun c_28 => ?_) (fun c_28 => ?_)
    · have hf := it_pos c_28 hf
      obtain ⟨v83, e_83, hf⟩ := nm_some hf
      refine lv_iinc (v := v83) (lv' := [(5, .int v83), (0, .ref zr_a), (1, .ref za_a), (2, .int x2), (3, .int x3), (4, .int x4), (6, .int x6)]) hx hb dL_crossings_83 hl (k := 5) rfl (by rw [e_83]; rfl) (by decide) rfl (fun ls hl => ?_)
      refine lv_goto (tgt := 15) hx hb dL_crossings_86 (by decide) ?_
      exact hK15 _ _ _ hf _ (lv_sub hl [1, 2, 3, 4, 5, 0] rfl)
    · have hf := it_neg c_28 hf
      refine lv_iload_n hx hb dL_crossings_31 rfl (lv_at hl 3 rfl) ?_
      refine lv_aload_n hx hb dL_crossings_32 rfl (lv_at hl 0 rfl) ?_
      refine lv_iconst (v := (3 : Int32)) hx hb dL_crossings_33 (by decide) ?_
      refine lv_iload hx hb dL_crossings_34 (lv_at hl 5 rfl) ?_
      refine lv_imul hx hb dL_crossings_36 ?_
      refine lv_iconst (v := (2 : Int32)) hx hb dL_crossings_37 (by decide) ?_
      refine lv_iadd hx hb dL_crossings_38 ?_
      obtain ⟨g_39, hf⟩ := gd_some hf
      refine va_iald (D := D) hx hb hK hP 0 0 rfl rfl (gd_in g_39) dL_crossings_39 ?_
      refine lv_iload hx hb dL_crossings_40 (lv_at hl 4 rfl) ?_
      refine lv_icmp_lt (tgt := 74) hx hb dL_crossings_42 (by decide) (fun c_42 => ?_) (fun c_42 => ?_)
      · have hf := it_pos c_42 hf
        exact w_L_crossings_b74 C hP hK5 hK15 (fun v0 v1 v2 v3 hf ls hl => ih v0 v1 v2 v3 hf ls hl) _ _ _ _ hf _ (lv_sub hl [0, 1, 2, 4, 5, 6] rfl)
      · have hf := it_neg c_42 hf
        refine lv_aload_n hx hb dL_crossings_45 rfl (lv_at hl 0 rfl) ?_
        refine lv_iconst (v := (3 : Int32)) hx hb dL_crossings_46 (by decide) ?_
        refine lv_iload hx hb dL_crossings_47 (lv_at hl 6 rfl) ?_
        refine lv_imul hx hb dL_crossings_49 ?_
        refine lv_iconst (v := (2 : Int32)) hx hb dL_crossings_50 (by decide) ?_
        refine lv_iadd hx hb dL_crossings_51 ?_
        obtain ⟨g_52, hf⟩ := gd_some hf
        refine va_iald (D := D) hx hb hK hP 0 0 rfl rfl (gd_in g_52) dL_crossings_52 ?_
        refine lv_iload hx hb dL_crossings_53 (lv_at hl 4 rfl) ?_
        refine lv_icmp_lt (tgt := 74) hx hb dL_crossings_55 (by decide) (fun c_55 => ?_) (fun c_55 => ?_)
        · have hf := it_pos c_55 hf
          exact w_L_crossings_b74 C hP hK5 hK15 (fun v0 v1 v2 v3 hf ls hl => ih v0 v1 v2 v3 hf ls hl) _ _ _ _ hf _ (lv_sub hl [0, 1, 2, 4, 5, 6] rfl)
        · have hf := it_neg c_55 hf
          refine lv_aload_n hx hb dL_crossings_58 rfl (lv_at hl 0 rfl) ?_
          refine lv_aload_n hx hb dL_crossings_59 rfl (lv_at hl 1 rfl) ?_
          refine lv_iload hx hb dL_crossings_60 (lv_at hl 5 rfl) ?_
          refine lv_iload hx hb dL_crossings_62 (lv_at hl 6 rfl) ?_
          obtain ⟨q64, e_64, hf⟩ := bd_some hf
          refine callPi (va_runS (As := [.ref zr_a, .ref za_a, .int x5, .int x6]) (rest := [.int x3]) ⟨hx, hb, hml, hown, hts⟩ (c_L_cross l D T zr_a za_a zr za x5 x6 q64 e_64) (va_cwS 4 hts gL_crossings_L_cross rfl rfl rfl hdS_L_cross ⟨Nat.le_of_ble_eq_true rfl, Nat.le_of_ble_eq_true rfl⟩) (preBS hP hK hN) rfl rfl hl.1 rfl (lv_room (Nat.le_of_ble_eq_true rfl)) dL_crossings_64 ⟨Nat.le_of_ble_eq_true rfl, Nat.le_of_ble_eq_true rfl⟩) ?_
          refine lv_if_eq (tgt := 74) hx hb dL_crossings_67 (by decide) (fun c_67 => ?_) (fun c_67 => ?_)
          · have hf := it_pos c_67 hf
            exact w_L_crossings_b74 C hP hK5 hK15 (fun v0 v1 v2 v3 hf ls hl => ih v0 v1 v2 v3 hf ls hl) _ _ _ _ hf _ (lv_sub hl [0, 1, 2, 4, 5, 6] rfl)
          · have hf := it_neg c_67 hf
            refine lv_iconst (v := (1 : Int32)) hx hb dL_crossings_70 (by decide) ?_
            refine lv_goto (tgt := 75) hx hb dL_crossings_71 (by decide) ?_
            exact w_L_crossings_b75 C hP hK5 hK15 (fun v0 v1 v2 v3 hf ls hl => ih v0 v1 v2 v3 hf ls hl) _ _ _ _ _ hf _ (lv_sub hl [0, 1, 2, 4, 5, 6] rfl)
set_option maxHeartbeats 4000000 in
set_option maxRecDepth 100000 in
theorem w_L_crossings_b15 {p : Program} {l : Launch} {e : Env} {s : State} {m : MethodId} {args : Array Value} {below : List Frame} {meth : Method} {c : Code} {D : va_G} {T : TY} {zr_a za_a : Nat} {zr : Nat → Int32} {za : Nat → Int32} {x2 : Int32} {res : Int32} {K5 : Int32 → Int32 → Option (Int32)} (C : CX p s m args meth c cL_crossings 7 RL wsL_crossings (some .int) D T) (hP : va_P D vwCl [(zr_a, .inl (T.1, (60, .inl zr))), (za_a, .inl (T.1, (16, .inl za)))] s.heap) (hK5 : ∀ x3 : Int32, ∀ x4 : Int32, K5 x3 x4 = some res → ∀ ls : Array Slot, lv_has ls 7 [(0, .ref zr_a), (1, .ref za_a), (2, .int x2), (3, .int x3), (4, .int x4)] → W p l e rmL_crossings s m args below meth c s.heap [] 0 0 (MQ below (Qp (some (.int res))) args s 0 0 (fun _ => False)) (F0 m 5 ls [])) : ∀ F : Nat, ∀ x3 : Int32, ∀ x4 : Int32, ∀ x5 : Int32, f_L_crossings_b15 zr za x2 K5 F x3 x4 x5 = some res → ∀ ls : Array Slot, lv_has ls 7 [(0, .ref zr_a), (1, .ref za_a), (2, .int x2), (3, .int x3), (4, .int x4), (5, .int x5)] → W p l e rmL_crossings s m args below meth c s.heap [] 0 0 (MQ below (Qp (some (.int res))) args s 0 0 (fun _ => False)) (F0 m 15 ls []) := by
  obtain ⟨hx, hb, hml, hown, hts, hr, hlocks, hK, hN⟩ := id C
  intro F
  induction F with
  | zero => intro _ _ _ hf; cases hf
  | succ F ih =>
    intro x3 x4 x5 hf ls hl
    unfold f_L_crossings_b15 at hf
    refine lv_iload hx hb dL_crossings_15 (lv_at hl 5 rfl) ?_
    refine lv_iload_n hx hb dL_crossings_17 rfl (lv_at hl 2 rfl) ?_
    refine lv_icmp_ge (tgt := 89) hx hb dL_crossings_18 (by decide) (fun c_18 => ?_) (fun c_18 => ?_)
    · have hf := it_pos c_18 hf
      obtain ⟨v89, e_89, hf⟩ := nm_some hf
      refine lv_iinc (v := v89) (lv' := [(4, .int v89), (0, .ref zr_a), (1, .ref za_a), (2, .int x2), (3, .int x3), (5, .int x5)]) hx hb dL_crossings_89 hl (k := 4) rfl (by rw [e_89]; rfl) (by decide) rfl (fun ls hl => ?_)
      refine lv_goto (tgt := 5) hx hb dL_crossings_92 (by decide) ?_
      exact hK5 _ _ hf _ (lv_sub hl [1, 2, 3, 4, 0] rfl)
    · have hf := it_neg c_18 hf
      refine lv_iconst (v := (0 : Int32)) hx hb dL_crossings_21 (by decide) ?_
      refine lv_istore (lv' := [(6, .int (0 : Int32)), (0, .ref zr_a), (1, .ref za_a), (2, .int x2), (3, .int x3), (4, .int x4), (5, .int x5)]) hx hb dL_crossings_22 hl (by decide) rfl (fun ls hl => ?_)
      exact w_L_crossings_b24 C hP hK5 (fun v0 v1 v2 hf ls hl => ih v0 v1 v2 hf ls hl) _ _ _ _ _ hf _ (lv_sub hl [1, 2, 3, 4, 5, 6, 0] rfl)
set_option maxHeartbeats 4000000 in
set_option maxRecDepth 100000 in
theorem w_L_crossings_b5 {p : Program} {l : Launch} {e : Env} {s : State} {m : MethodId} {args : Array Value} {below : List Frame} {meth : Method} {c : Code} {D : va_G} {T : TY} {zr_a za_a : Nat} {zr : Nat → Int32} {za : Nat → Int32} {x2 : Int32} {res : Int32} (C : CX p s m args meth c cL_crossings 7 RL wsL_crossings (some .int) D T) (hP : va_P D vwCl [(zr_a, .inl (T.1, (60, .inl zr))), (za_a, .inl (T.1, (16, .inl za)))] s.heap) : ∀ F : Nat, ∀ x3 : Int32, ∀ x4 : Int32, f_L_crossings_b5 zr za x2 F x3 x4 = some res → ∀ ls : Array Slot, lv_has ls 7 [(0, .ref zr_a), (1, .ref za_a), (2, .int x2), (3, .int x3), (4, .int x4)] → W p l e rmL_crossings s m args below meth c s.heap [] 0 0 (MQ below (Qp (some (.int res))) args s 0 0 (fun _ => False)) (F0 m 5 ls []) := by
  obtain ⟨hx, hb, hml, hown, hts, hr, hlocks, hK, hN⟩ := id C
  intro F
  induction F with
  | zero => intro _ _ hf; cases hf
  | succ F ih =>
    intro x3 x4 hf ls hl
    unfold f_L_crossings_b5 at hf
    refine lv_iload hx hb dL_crossings_5 (lv_at hl 4 rfl) ?_
    refine lv_bipush (v := (51 : Int32)) hx hb dL_crossings_7 (by decide) ?_
    refine lv_icmp_ge (tgt := 95) hx hb dL_crossings_9 (by decide) (fun c_9 => ?_) (fun c_9 => ?_)
    · have hf := it_pos c_9 hf
      refine lv_iload_n hx hb dL_crossings_95 rfl (lv_at hl 3 rfl) ?_
      obtain rfl := Option.some.inj hf
      exact W.iret hx hb hr (fun t ht hW => ⟨rfl, ht⟩) (fun q hq => absurd hq List.not_mem_nil) dL_crossings_96 hlocks
    · have hf := it_neg c_9 hf
      refine lv_iconst (v := (0 : Int32)) hx hb dL_crossings_12 (by decide) ?_
      refine lv_istore (lv' := [(5, .int (0 : Int32)), (0, .ref zr_a), (1, .ref za_a), (2, .int x2), (3, .int x3), (4, .int x4)]) hx hb dL_crossings_13 hl (by decide) rfl (fun ls hl => ?_)
      exact w_L_crossings_b15 C hP (fun v0 v1 hf ls hl => ih v0 v1 hf ls hl) _ _ _ _ hf _ (lv_sub hl [1, 2, 3, 4, 5, 0] rfl)
set_option maxHeartbeats 4000000 in
set_option maxRecDepth 100000 in
theorem w_L_crossings_b0 {p : Program} {l : Launch} {e : Env} {s : State} {m : MethodId} {args : Array Value} {below : List Frame} {meth : Method} {c : Code} {D : va_G} {T : TY} {zr_a za_a : Nat} {zr : Nat → Int32} {za : Nat → Int32} {x2 : Int32} {res : Int32} (C : CX p s m args meth c cL_crossings 7 RL wsL_crossings (some .int) D T) (hP : va_P D vwCl [(zr_a, .inl (T.1, (60, .inl zr))), (za_a, .inl (T.1, (16, .inl za)))] s.heap) : f_L_crossings zr za x2 = some res → ∀ ls : Array Slot, lv_has ls 7 [(0, .ref zr_a), (1, .ref za_a), (2, .int x2)] → W p l e rmL_crossings s m args below meth c s.heap [] 0 0 (MQ below (Qp (some (.int res))) args s 0 0 (fun _ => False)) (F0 m 0 ls []) := by
  obtain ⟨hx, hb, hml, hown, hts, hr, hlocks, hK, hN⟩ := id C
  intro  hf ls hl
  unfold f_L_crossings at hf
  refine lv_iconst (v := (0 : Int32)) hx hb dL_crossings_0 (by decide) ?_
  refine lv_istore_n (lv' := [(3, .int (0 : Int32)), (0, .ref zr_a), (1, .ref za_a), (2, .int x2)]) hx hb dL_crossings_1 rfl hl (by decide) rfl (fun ls hl => ?_)
  refine lv_iconst (v := (1 : Int32)) hx hb dL_crossings_2 (by decide) ?_
  refine lv_istore (lv' := [(4, .int (1 : Int32)), (3, .int (0 : Int32)), (0, .ref zr_a), (1, .ref za_a), (2, .int x2)]) hx hb dL_crossings_3 hl (by decide) rfl (fun ls hl => ?_)
  exact w_L_crossings_b5 C hP _ _ _ hf _ (lv_sub hl [2, 3, 4, 1, 0] rfl)
theorem c_L_crossings (l : Launch) (D : va_G) (T : TY) (zr_a za_a : Nat) (zr : Nat → Int32) (za : Nat → Int32) (x2 : Int32) (res : Int32) (hf : f_L_crossings zr za x2 = some res) : Met l yL_crossings wsL_crossings rmL_crossings (va_Pc [.ref zr_a, .ref za_a, .int x2] (PB D T [(zr_a, .inl (T.1, (60, .inl zr))), (za_a, .inl (T.1, (16, .inl za)))])) (Qp (some (.int res))) 0 0 (fun _ => False) :=
  metP_of (by decide +kernel) rfl (Nat.le_of_ble_eq_true rfl) (fun p e s m args below meth c C hP ls hl => w_L_crossings_b0 C hP hf ls hl)
def rmL_side : Room := { frames := 1, cells := 0, slots := 0, locals := 21 }
theorem hdS_L_side : yL_side.cls ≠ "java/lang/invoke/MethodHandle" ∧ yL_side.cls ≠ "java/lang/invoke/VarHandle" ∧ (parseMethodDescriptor yL_side.desc).map (fun d => d.parameters.length) = some 4 := by decide +kernel
theorem mw_L_side_0 : Cond.static yL_goesOn ∈ wsL_side := by decide +kernel
set_option maxHeartbeats 4000000 in
set_option maxRecDepth 100000 in
theorem w_L_side_b47 {p : Program} {l : Launch} {e : Env} {s : State} {m : MethodId} {args : Array Value} {below : List Frame} {meth : Method} {c : Code} {D : va_G} {T : TY} {zr_a : Nat} {zr : Nat → Int32} {x1 : Int32} {x2 : Int32} {x3 : Int32} {res : Int32} {K6 : Int32 → Int32 → Option (Int32)} (C : CX p s m args meth c cL_side 6 RL wsL_side (some .int) D T) (hP : va_P D vwCl [(zr_a, .inl (T.1, (60, .inl zr)))] s.heap) (hK6 : ∀ x4 : Int32, ∀ x5 : Int32, K6 x4 x5 = some res → ∀ ls : Array Slot, lv_has ls 6 [(0, .ref zr_a), (1, .int x1), (2, .int x2), (3, .int x3), (4, .int x4), (5, .int x5)] → W p l e rmL_side s m args below meth c s.heap [] 0 0 (MQ below (Qp (some (.int res))) args s 0 0 (fun _ => False)) (F0 m 6 ls [])) : ∀ s0 : Int32, ∀ s1 : Int32, ∀ x5 : Int32, f_L_side_b47 zr x1 x2 x3 K6 s0 s1 x5 = some res → ∀ ls : Array Slot, lv_has ls 6 [(0, .ref zr_a), (1, .int x1), (2, .int x2), (3, .int x3), (5, .int x5)] → W p l e rmL_side s m args below meth c s.heap [] 0 0 (MQ below (Qp (some (.int res))) args s 0 0 (fun _ => False)) (F0 m 47 ls [.int s0, .int s1]) := by
  obtain ⟨hx, hb, hml, hown, hts, hr, hlocks, hK, hN⟩ := id C
  intro s0 s1 x5 hf ls hl
  unfold f_L_side_b47 at hf
  refine lv_iadd hx hb dL_side_47 ?_
  obtain ⟨v48, e_48, hf⟩ := nm_some hf
  refine lv_nmi e_48 ?_
  refine lv_istore (lv' := [(4, .int v48), (0, .ref zr_a), (1, .int x1), (2, .int x2), (3, .int x3), (5, .int x5)]) hx hb dL_side_48 hl (by decide) rfl (fun ls hl => ?_)
  obtain ⟨v50, e_50, hf⟩ := nm_some hf
  refine lv_iinc (v := v50) (lv' := [(5, .int v50), (4, .int v48), (0, .ref zr_a), (1, .int x1), (2, .int x2), (3, .int x3)]) hx hb dL_side_50 hl (k := 5) rfl (by rw [e_50]; rfl) (by decide) rfl (fun ls hl => ?_)
  refine lv_goto (tgt := 6) hx hb dL_side_53 (by decide) ?_
  exact hK6 _ _ hf _ (lv_sub hl [2, 3, 4, 5, 1, 0] rfl)
set_option maxHeartbeats 4000000 in
set_option maxRecDepth 100000 in
theorem w_L_side_b46 {p : Program} {l : Launch} {e : Env} {s : State} {m : MethodId} {args : Array Value} {below : List Frame} {meth : Method} {c : Code} {D : va_G} {T : TY} {zr_a : Nat} {zr : Nat → Int32} {x1 : Int32} {x2 : Int32} {x3 : Int32} {res : Int32} {K6 : Int32 → Int32 → Option (Int32)} (C : CX p s m args meth c cL_side 6 RL wsL_side (some .int) D T) (hP : va_P D vwCl [(zr_a, .inl (T.1, (60, .inl zr)))] s.heap) (hK6 : ∀ x4 : Int32, ∀ x5 : Int32, K6 x4 x5 = some res → ∀ ls : Array Slot, lv_has ls 6 [(0, .ref zr_a), (1, .int x1), (2, .int x2), (3, .int x3), (4, .int x4), (5, .int x5)] → W p l e rmL_side s m args below meth c s.heap [] 0 0 (MQ below (Qp (some (.int res))) args s 0 0 (fun _ => False)) (F0 m 6 ls [])) : ∀ s0 : Int32, ∀ x5 : Int32, f_L_side_b46 zr x1 x2 x3 K6 s0 x5 = some res → ∀ ls : Array Slot, lv_has ls 6 [(0, .ref zr_a), (1, .int x1), (2, .int x2), (3, .int x3), (5, .int x5)] → W p l e rmL_side s m args below meth c s.heap [] 0 0 (MQ below (Qp (some (.int res))) args s 0 0 (fun _ => False)) (F0 m 46 ls [.int s0]) := by
  obtain ⟨hx, hb, hml, hown, hts, hr, hlocks, hK, hN⟩ := id C
  intro s0 x5 hf ls hl
  unfold f_L_side_b46 at hf
  refine lv_iconst (v := (0 : Int32)) hx hb dL_side_46 (by decide) ?_
  exact w_L_side_b47 C hP hK6 _ _ _ hf _ (lv_sub hl [0, 1, 2, 3, 4] rfl)
set_option maxHeartbeats 4000000 in
set_option maxRecDepth 100000 in
theorem w_L_side_b6 {p : Program} {l : Launch} {e : Env} {s : State} {m : MethodId} {args : Array Value} {below : List Frame} {meth : Method} {c : Code} {D : va_G} {T : TY} {zr_a : Nat} {zr : Nat → Int32} {x1 : Int32} {x2 : Int32} {x3 : Int32} {res : Int32} (C : CX p s m args meth c cL_side 6 RL wsL_side (some .int) D T) (hP : va_P D vwCl [(zr_a, .inl (T.1, (60, .inl zr)))] s.heap) : ∀ F : Nat, ∀ x4 : Int32, ∀ x5 : Int32, f_L_side_b6 zr x1 x2 x3 F x4 x5 = some res → ∀ ls : Array Slot, lv_has ls 6 [(0, .ref zr_a), (1, .int x1), (2, .int x2), (3, .int x3), (4, .int x4), (5, .int x5)] → W p l e rmL_side s m args below meth c s.heap [] 0 0 (MQ below (Qp (some (.int res))) args s 0 0 (fun _ => False)) (F0 m 6 ls []) := by
  obtain ⟨hx, hb, hml, hown, hts, hr, hlocks, hK, hN⟩ := id C
  intro F
  induction F with
  | zero => intro _ _ hf; cases hf
  | succ F ih =>
    intro x4 x5 hf ls hl
    unfold f_L_side_b6 at hf
    refine lv_iload hx hb dL_side_6 (lv_at hl 5 rfl) ?_
    refine lv_iload_n hx hb dL_side_8 rfl (lv_at hl 1 rfl) ?_
    refine lv_icmp_ge (tgt := 56) hx hb dL_side_9 (by decide) (fun c_9 => ?_) (fun c_9 => ?_)
    · have hf := it_pos c_9 hf
      refine lv_iload hx hb dL_side_56 (lv_at hl 4 rfl) ?_
      obtain rfl := Option.some.inj hf
      exact W.iret hx hb hr (fun t ht hW => ⟨rfl, ht⟩) (fun q hq => absurd hq List.not_mem_nil) dL_side_58 hlocks
    · have hf := it_neg c_9 hf
      refine lv_iload hx hb dL_side_12 (lv_at hl 4 rfl) ?_
      refine lv_aload_n hx hb dL_side_14 rfl (lv_at hl 0 rfl) ?_
      refine lv_iload hx hb dL_side_15 (lv_at hl 5 rfl) ?_
      obtain ⟨q17, e_17, hf⟩ := bd_some hf
      refine callPi (va_runS (As := [.ref zr_a, .int x5]) (rest := [.int x4]) ⟨hx, hb, hml, hown, hts⟩ (c_L_goesOn l D T zr_a zr x5 q17 e_17) (va_cwS 2 hts gL_side_L_goesOn rfl rfl rfl hdS_L_goesOn ⟨Nat.le_of_ble_eq_true rfl, Nat.le_of_ble_eq_true rfl⟩) (preBS hP hK hN) rfl rfl hl.1 rfl (lv_room (Nat.le_of_ble_eq_true rfl)) dL_side_17 ⟨Nat.le_of_ble_eq_true rfl, Nat.le_of_ble_eq_true rfl⟩) ?_
      refine lv_if_eq (tgt := 46) hx hb dL_side_20 (by decide) (fun c_20 => ?_) (fun c_20 => ?_)
      · have hf := it_pos c_20 hf
        exact w_L_side_b46 C hP (fun v0 v1 hf ls hl => ih v0 v1 hf ls hl) _ _ hf _ (lv_sub hl [0, 1, 2, 3, 5] rfl)
      · have hf := it_neg c_20 hf
        refine lv_aload_n hx hb dL_side_23 rfl (lv_at hl 0 rfl) ?_
        refine lv_iconst (v := (3 : Int32)) hx hb dL_side_24 (by decide) ?_
        refine lv_iload hx hb dL_side_25 (lv_at hl 5 rfl) ?_
        refine lv_imul hx hb dL_side_27 ?_
        refine lv_iload_n hx hb dL_side_28 rfl (lv_at hl 3 rfl) ?_
        refine lv_iadd hx hb dL_side_29 ?_
        obtain ⟨g_30, hf⟩ := gd_some hf
        refine va_iald (D := D) hx hb hK hP 0 0 rfl rfl (gd_in g_30) dL_side_30 ?_
        refine lv_iload_n hx hb dL_side_31 rfl (lv_at hl 2 rfl) ?_
        refine lv_icmp_ne (tgt := 46) hx hb dL_side_32 (by decide) (fun c_32 => ?_) (fun c_32 => ?_)
        · have hf := it_neg c_32 hf
          exact w_L_side_b46 C hP (fun v0 v1 hf ls hl => ih v0 v1 hf ls hl) _ _ hf _ (lv_sub hl [0, 1, 2, 3, 5] rfl)
        · have hf := it_pos c_32 hf
          refine lv_aload_n hx hb dL_side_35 rfl (lv_at hl 0 rfl) ?_
          refine lv_iconst (v := (3 : Int32)) hx hb dL_side_36 (by decide) ?_
          refine lv_iload hx hb dL_side_37 (lv_at hl 5 rfl) ?_
          refine lv_imul hx hb dL_side_39 ?_
          refine lv_iconst (v := (2 : Int32)) hx hb dL_side_40 (by decide) ?_
          refine lv_iadd hx hb dL_side_41 ?_
          obtain ⟨g_42, hf⟩ := gd_some hf
          refine va_iald (D := D) hx hb hK hP 0 0 rfl rfl (gd_in g_42) dL_side_42 ?_
          refine lv_goto (tgt := 47) hx hb dL_side_43 (by decide) ?_
          exact w_L_side_b47 C hP (fun v0 v1 hf ls hl => ih v0 v1 hf ls hl) _ _ _ hf _ (lv_sub hl [0, 1, 2, 3, 5] rfl)
set_option maxHeartbeats 4000000 in
set_option maxRecDepth 100000 in
theorem w_L_side_b0 {p : Program} {l : Launch} {e : Env} {s : State} {m : MethodId} {args : Array Value} {below : List Frame} {meth : Method} {c : Code} {D : va_G} {T : TY} {zr_a : Nat} {zr : Nat → Int32} {x1 : Int32} {x2 : Int32} {x3 : Int32} {res : Int32} (C : CX p s m args meth c cL_side 6 RL wsL_side (some .int) D T) (hP : va_P D vwCl [(zr_a, .inl (T.1, (60, .inl zr)))] s.heap) : f_L_side zr x1 x2 x3 = some res → ∀ ls : Array Slot, lv_has ls 6 [(0, .ref zr_a), (1, .int x1), (2, .int x2), (3, .int x3)] → W p l e rmL_side s m args below meth c s.heap [] 0 0 (MQ below (Qp (some (.int res))) args s 0 0 (fun _ => False)) (F0 m 0 ls []) := by
  obtain ⟨hx, hb, hml, hown, hts, hr, hlocks, hK, hN⟩ := id C
  intro  hf ls hl
  unfold f_L_side at hf
  refine lv_iconst (v := (0 : Int32)) hx hb dL_side_0 (by decide) ?_
  refine lv_istore (lv' := [(4, .int (0 : Int32)), (0, .ref zr_a), (1, .int x1), (2, .int x2), (3, .int x3)]) hx hb dL_side_1 hl (by decide) rfl (fun ls hl => ?_)
  refine lv_iconst (v := (0 : Int32)) hx hb dL_side_3 (by decide) ?_
  refine lv_istore (lv' := [(5, .int (0 : Int32)), (4, .int (0 : Int32)), (0, .ref zr_a), (1, .int x1), (2, .int x2), (3, .int x3)]) hx hb dL_side_4 hl (by decide) rfl (fun ls hl => ?_)
  exact w_L_side_b6 C hP _ _ _ hf _ (lv_sub hl [2, 3, 4, 5, 1, 0] rfl)
theorem c_L_side (l : Launch) (D : va_G) (T : TY) (zr_a : Nat) (zr : Nat → Int32) (x1 : Int32) (x2 : Int32) (x3 : Int32) (res : Int32) (hf : f_L_side zr x1 x2 x3 = some res) : Met l yL_side wsL_side rmL_side (va_Pc [.ref zr_a, .int x1, .int x2, .int x3] (PB D T [(zr_a, .inl (T.1, (60, .inl zr)))])) (Qp (some (.int res))) 0 0 (fun _ => False) :=
  metP_of (by decide +kernel) rfl (Nat.le_of_ble_eq_true rfl) (fun p e s m args below meth c C hP ls hl => w_L_side_b0 C hP hf ls hl)
def rmL_trimmed : Room := { frames := 2, cells := 0, slots := 0, locals := 46 }
theorem hdS_L_trimmed : yL_trimmed.cls ≠ "java/lang/invoke/MethodHandle" ∧ yL_trimmed.cls ≠ "java/lang/invoke/VarHandle" ∧ (parseMethodDescriptor yL_trimmed.desc).map (fun d => d.parameters.length) = some 3 := by decide +kernel
theorem mw_L_trimmed_0 : Cond.static yL_side ∈ wsL_trimmed := by decide +kernel
theorem mw_L_trimmed_1 : Cond.static yL_goesOn ∈ wsL_trimmed := by decide +kernel
set_option maxHeartbeats 4000000 in
set_option maxRecDepth 100000 in
theorem w_L_trimmed_b102 {p : Program} {l : Launch} {e : Env} {s : State} {m : MethodId} {args : Array Value} {below : List Frame} {meth : Method} {c : Code} {D : va_G} {T : TY} {zr_a : Nat} {x1 : Int32} {x2 : Int32} {res : Int32 × (Nat → Int32)} {K19 : Int32 → Int32 → (Nat → Int32) → Option (Int32 × (Nat → Int32))} {K44 : Int32 → Int32 → Int32 → Int32 → (Nat → Int32) → Option (Int32 × (Nat → Int32))} {A : Nat → Prop} (C : CX p s m args meth c cL_trimmed 8 RL wsL_trimmed (some .int) D T) (hA : ∀ q, s.heap.size ≤ q → A q) (hK19 : ∀ x3 : Int32, ∀ x4 : Int32, ∀ zr : Nat → Int32, K19 x3 x4 zr = some res → ∀ (H : Heap) (locs : List Loc), va_P D vwCl [(zr_a, .inl (T.1, (60, .inl zr)))] H → va_D A [(zr_a, .inl (T.1, (60, .inl zr)))] → va_S A s.heap H locs → ∀ ls : Array Slot, lv_has ls 8 [(0, .ref zr_a), (1, .int x1), (2, .int x2), (3, .int x3), (4, .int x4)] → W p l e rmL_trimmed s m args below meth c H locs 0 0 (MQ below (Qm (some (.int res.1)) D (fun W9 => W9 = [(zr_a, .inl (T.1, (60, .inl res.2)))]) A) args s 0 0 A) (F0 m 19 ls [])) (hK44 : ∀ x3 : Int32, ∀ x5 : Int32, ∀ x6 : Int32, ∀ x7 : Int32, ∀ zr : Nat → Int32, K44 x3 x5 x6 x7 zr = some res → ∀ (H : Heap) (locs : List Loc), va_P D vwCl [(zr_a, .inl (T.1, (60, .inl zr)))] H → va_D A [(zr_a, .inl (T.1, (60, .inl zr)))] → va_S A s.heap H locs → ∀ ls : Array Slot, lv_has ls 8 [(0, .ref zr_a), (1, .int x1), (2, .int x2), (3, .int x3), (5, .int x5), (6, .int x6), (7, .int x7)] → W p l e rmL_trimmed s m args below meth c H locs 0 0 (MQ below (Qm (some (.int res.1)) D (fun W9 => W9 = [(zr_a, .inl (T.1, (60, .inl res.2)))]) A) args s 0 0 A) (F0 m 44 ls [])) : ∀ s0 : Int32, ∀ x3 : Int32, ∀ x5 : Int32, ∀ x7 : Int32, ∀ zr : Nat → Int32, f_L_trimmed_b102 x1 x2 K19 K44 s0 x3 x5 x7 zr = some res → ∀ (H : Heap) (locs : List Loc), va_P D vwCl [(zr_a, .inl (T.1, (60, .inl zr)))] H → va_D A [(zr_a, .inl (T.1, (60, .inl zr)))] → va_S A s.heap H locs → ∀ ls : Array Slot, lv_has ls 8 [(0, .ref zr_a), (1, .int x1), (2, .int x2), (3, .int x3), (5, .int x5), (7, .int x7)] → W p l e rmL_trimmed s m args below meth c H locs 0 0 (MQ below (Qm (some (.int res.1)) D (fun W9 => W9 = [(zr_a, .inl (T.1, (60, .inl res.2)))]) A) args s 0 0 A) (F0 m 102 ls [.int s0]) := by
  obtain ⟨hx, hb, hml, hown, hts, hr, hlocks, hK, hN⟩ := id C
  intro s0 x3 x5 x7 zr hf H locs hP hD hS ls hl
  unfold f_L_trimmed_b102 at hf
  refine lv_istore (lv' := [(6, .int s0), (0, .ref zr_a), (1, .int x1), (2, .int x2), (3, .int x3), (5, .int x5), (7, .int x7)]) hx hb dL_trimmed_102 hl (by decide) rfl (fun ls hl => ?_)
  obtain ⟨v104, e_104, hf⟩ := nm_some hf
  refine lv_iinc (v := v104) (lv' := [(7, .int v104), (6, .int s0), (0, .ref zr_a), (1, .int x1), (2, .int x2), (3, .int x3), (5, .int x5)]) hx hb dL_trimmed_104 hl (k := 6) rfl (by rw [e_104]; rfl) (by decide) rfl (fun ls hl => ?_)
  refine lv_goto (tgt := 44) hx hb dL_trimmed_107 (by decide) ?_
  exact hK44 _ _ _ _ _ hf _ _ hP hD hS _ (lv_sub hl [2, 3, 4, 5, 6, 1, 0] rfl)
set_option maxHeartbeats 4000000 in
set_option maxRecDepth 100000 in
theorem w_L_trimmed_b95 {p : Program} {l : Launch} {e : Env} {s : State} {m : MethodId} {args : Array Value} {below : List Frame} {meth : Method} {c : Code} {D : va_G} {T : TY} {zr_a : Nat} {x1 : Int32} {x2 : Int32} {res : Int32 × (Nat → Int32)} {K19 : Int32 → Int32 → (Nat → Int32) → Option (Int32 × (Nat → Int32))} {K44 : Int32 → Int32 → Int32 → Int32 → (Nat → Int32) → Option (Int32 × (Nat → Int32))} {A : Nat → Prop} (C : CX p s m args meth c cL_trimmed 8 RL wsL_trimmed (some .int) D T) (hA : ∀ q, s.heap.size ≤ q → A q) (hK19 : ∀ x3 : Int32, ∀ x4 : Int32, ∀ zr : Nat → Int32, K19 x3 x4 zr = some res → ∀ (H : Heap) (locs : List Loc), va_P D vwCl [(zr_a, .inl (T.1, (60, .inl zr)))] H → va_D A [(zr_a, .inl (T.1, (60, .inl zr)))] → va_S A s.heap H locs → ∀ ls : Array Slot, lv_has ls 8 [(0, .ref zr_a), (1, .int x1), (2, .int x2), (3, .int x3), (4, .int x4)] → W p l e rmL_trimmed s m args below meth c H locs 0 0 (MQ below (Qm (some (.int res.1)) D (fun W9 => W9 = [(zr_a, .inl (T.1, (60, .inl res.2)))]) A) args s 0 0 A) (F0 m 19 ls [])) (hK44 : ∀ x3 : Int32, ∀ x5 : Int32, ∀ x6 : Int32, ∀ x7 : Int32, ∀ zr : Nat → Int32, K44 x3 x5 x6 x7 zr = some res → ∀ (H : Heap) (locs : List Loc), va_P D vwCl [(zr_a, .inl (T.1, (60, .inl zr)))] H → va_D A [(zr_a, .inl (T.1, (60, .inl zr)))] → va_S A s.heap H locs → ∀ ls : Array Slot, lv_has ls 8 [(0, .ref zr_a), (1, .int x1), (2, .int x2), (3, .int x3), (5, .int x5), (6, .int x6), (7, .int x7)] → W p l e rmL_trimmed s m args below meth c H locs 0 0 (MQ below (Qm (some (.int res.1)) D (fun W9 => W9 = [(zr_a, .inl (T.1, (60, .inl res.2)))]) A) args s 0 0 A) (F0 m 44 ls [])) : ∀ x3 : Int32, ∀ x5 : Int32, ∀ x7 : Int32, ∀ zr : Nat → Int32, f_L_trimmed_b95 x1 x2 K19 K44 x3 x5 x7 zr = some res → ∀ (H : Heap) (locs : List Loc), va_P D vwCl [(zr_a, .inl (T.1, (60, .inl zr)))] H → va_D A [(zr_a, .inl (T.1, (60, .inl zr)))] → va_S A s.heap H locs → ∀ ls : Array Slot, lv_has ls 8 [(0, .ref zr_a), (1, .int x1), (2, .int x2), (3, .int x3), (5, .int x5), (7, .int x7)] → W p l e rmL_trimmed s m args below meth c H locs 0 0 (MQ below (Qm (some (.int res.1)) D (fun W9 => W9 = [(zr_a, .inl (T.1, (60, .inl res.2)))]) A) args s 0 0 A) (F0 m 95 ls []) := by
  obtain ⟨hx, hb, hml, hown, hts, hr, hlocks, hK, hN⟩ := id C
  intro x3 x5 x7 zr hf H locs hP hD hS ls hl
  unfold f_L_trimmed_b95 at hf
  refine lv_iload hx hb dL_trimmed_95 (lv_at hl 5 rfl) ?_
  refine lv_goto (tgt := 102) hx hb dL_trimmed_97 (by decide) ?_
  exact w_L_trimmed_b102 C hA hK19 hK44 _ _ _ _ _ hf _ _ hP hD hS _ (lv_sub hl [0, 1, 2, 3, 4, 5] rfl)
set_option maxHeartbeats 4000000 in
set_option maxRecDepth 100000 in
theorem w_L_trimmed_b100 {p : Program} {l : Launch} {e : Env} {s : State} {m : MethodId} {args : Array Value} {below : List Frame} {meth : Method} {c : Code} {D : va_G} {T : TY} {zr_a : Nat} {x1 : Int32} {x2 : Int32} {res : Int32 × (Nat → Int32)} {K19 : Int32 → Int32 → (Nat → Int32) → Option (Int32 × (Nat → Int32))} {K44 : Int32 → Int32 → Int32 → Int32 → (Nat → Int32) → Option (Int32 × (Nat → Int32))} {A : Nat → Prop} (C : CX p s m args meth c cL_trimmed 8 RL wsL_trimmed (some .int) D T) (hA : ∀ q, s.heap.size ≤ q → A q) (hK19 : ∀ x3 : Int32, ∀ x4 : Int32, ∀ zr : Nat → Int32, K19 x3 x4 zr = some res → ∀ (H : Heap) (locs : List Loc), va_P D vwCl [(zr_a, .inl (T.1, (60, .inl zr)))] H → va_D A [(zr_a, .inl (T.1, (60, .inl zr)))] → va_S A s.heap H locs → ∀ ls : Array Slot, lv_has ls 8 [(0, .ref zr_a), (1, .int x1), (2, .int x2), (3, .int x3), (4, .int x4)] → W p l e rmL_trimmed s m args below meth c H locs 0 0 (MQ below (Qm (some (.int res.1)) D (fun W9 => W9 = [(zr_a, .inl (T.1, (60, .inl res.2)))]) A) args s 0 0 A) (F0 m 19 ls [])) (hK44 : ∀ x3 : Int32, ∀ x5 : Int32, ∀ x6 : Int32, ∀ x7 : Int32, ∀ zr : Nat → Int32, K44 x3 x5 x6 x7 zr = some res → ∀ (H : Heap) (locs : List Loc), va_P D vwCl [(zr_a, .inl (T.1, (60, .inl zr)))] H → va_D A [(zr_a, .inl (T.1, (60, .inl zr)))] → va_S A s.heap H locs → ∀ ls : Array Slot, lv_has ls 8 [(0, .ref zr_a), (1, .int x1), (2, .int x2), (3, .int x3), (5, .int x5), (6, .int x6), (7, .int x7)] → W p l e rmL_trimmed s m args below meth c H locs 0 0 (MQ below (Qm (some (.int res.1)) D (fun W9 => W9 = [(zr_a, .inl (T.1, (60, .inl res.2)))]) A) args s 0 0 A) (F0 m 44 ls [])) : ∀ x3 : Int32, ∀ x5 : Int32, ∀ x6 : Int32, ∀ x7 : Int32, ∀ zr : Nat → Int32, f_L_trimmed_b100 x1 x2 K19 K44 x3 x5 x6 x7 zr = some res → ∀ (H : Heap) (locs : List Loc), va_P D vwCl [(zr_a, .inl (T.1, (60, .inl zr)))] H → va_D A [(zr_a, .inl (T.1, (60, .inl zr)))] → va_S A s.heap H locs → ∀ ls : Array Slot, lv_has ls 8 [(0, .ref zr_a), (1, .int x1), (2, .int x2), (3, .int x3), (5, .int x5), (6, .int x6), (7, .int x7)] → W p l e rmL_trimmed s m args below meth c H locs 0 0 (MQ below (Qm (some (.int res.1)) D (fun W9 => W9 = [(zr_a, .inl (T.1, (60, .inl res.2)))]) A) args s 0 0 A) (F0 m 100 ls []) := by
  obtain ⟨hx, hb, hml, hown, hts, hr, hlocks, hK, hN⟩ := id C
  intro x3 x5 x6 x7 zr hf H locs hP hD hS ls hl
  unfold f_L_trimmed_b100 at hf
  refine lv_iload hx hb dL_trimmed_100 (lv_at hl 5 rfl) ?_
  exact w_L_trimmed_b102 C hA hK19 hK44 _ _ _ _ _ hf _ _ hP hD hS _ (lv_sub hl [0, 1, 2, 3, 4, 6] rfl)
set_option maxHeartbeats 4000000 in
set_option maxRecDepth 100000 in
theorem w_L_trimmed_b44 {p : Program} {l : Launch} {e : Env} {s : State} {m : MethodId} {args : Array Value} {below : List Frame} {meth : Method} {c : Code} {D : va_G} {T : TY} {zr_a : Nat} {x1 : Int32} {x2 : Int32} {res : Int32 × (Nat → Int32)} {K19 : Int32 → Int32 → (Nat → Int32) → Option (Int32 × (Nat → Int32))} {A : Nat → Prop} (C : CX p s m args meth c cL_trimmed 8 RL wsL_trimmed (some .int) D T) (hA : ∀ q, s.heap.size ≤ q → A q) (hK19 : ∀ x3 : Int32, ∀ x4 : Int32, ∀ zr : Nat → Int32, K19 x3 x4 zr = some res → ∀ (H : Heap) (locs : List Loc), va_P D vwCl [(zr_a, .inl (T.1, (60, .inl zr)))] H → va_D A [(zr_a, .inl (T.1, (60, .inl zr)))] → va_S A s.heap H locs → ∀ ls : Array Slot, lv_has ls 8 [(0, .ref zr_a), (1, .int x1), (2, .int x2), (3, .int x3), (4, .int x4)] → W p l e rmL_trimmed s m args below meth c H locs 0 0 (MQ below (Qm (some (.int res.1)) D (fun W9 => W9 = [(zr_a, .inl (T.1, (60, .inl res.2)))]) A) args s 0 0 A) (F0 m 19 ls [])) : ∀ F : Nat, ∀ x3 : Int32, ∀ x5 : Int32, ∀ x6 : Int32, ∀ x7 : Int32, ∀ zr : Nat → Int32, f_L_trimmed_b44 x1 x2 K19 F x3 x5 x6 x7 zr = some res → ∀ (H : Heap) (locs : List Loc), va_P D vwCl [(zr_a, .inl (T.1, (60, .inl zr)))] H → va_D A [(zr_a, .inl (T.1, (60, .inl zr)))] → va_S A s.heap H locs → ∀ ls : Array Slot, lv_has ls 8 [(0, .ref zr_a), (1, .int x1), (2, .int x2), (3, .int x3), (5, .int x5), (6, .int x6), (7, .int x7)] → W p l e rmL_trimmed s m args below meth c H locs 0 0 (MQ below (Qm (some (.int res.1)) D (fun W9 => W9 = [(zr_a, .inl (T.1, (60, .inl res.2)))]) A) args s 0 0 A) (F0 m 44 ls []) := by
  obtain ⟨hx, hb, hml, hown, hts, hr, hlocks, hK, hN⟩ := id C
  intro F
  induction F with
  | zero => intro _ _ _ _ _ hf; cases hf
  | succ F ih =>
    intro x3 x5 x6 x7 zr hf H locs hP hD hS ls hl
    unfold f_L_trimmed_b44 at hf
    refine lv_iload hx hb dL_trimmed_44 (lv_at hl 6 rfl) ?_
    refine lv_if_lt (tgt := 110) hx hb dL_trimmed_46 (by decide) (fun c_46 => ?_) (fun c_46 => ?_)
    · have hf := it_pos c_46 hf
      refine lv_aload_n hx hb dL_trimmed_110 rfl (lv_at hl 0 rfl) ?_
      refine lv_iconst (v := (3 : Int32)) hx hb dL_trimmed_111 (by decide) ?_
      refine lv_iload hx hb dL_trimmed_112 (lv_at hl 5 rfl) ?_
      refine lv_imul hx hb dL_trimmed_114 ?_
      refine lv_iconst (v := (2 : Int32)) hx hb dL_trimmed_115 (by decide) ?_
      refine lv_iadd hx hb dL_trimmed_116 ?_
      refine lv_dup2_11 hx hb dL_trimmed_117 rfl rfl ?_
      obtain ⟨g_118, hf⟩ := gd_some hf
      refine va_iald (D := D) hx hb hK hP 0 0 rfl rfl (gd_in g_118) dL_trimmed_118 ?_
      refine lv_iconst (v := (1 : Int32)) hx hb dL_trimmed_119 (by decide) ?_
      refine lv_isub hx hb dL_trimmed_120 ?_
      obtain ⟨v121, e_121, hf⟩ := nm_some hf
      refine lv_nmi e_121 ?_
      obtain ⟨g_121, hf⟩ := gd_some hf
      refine va_iast (D := D) hx hb hK hP hD hS 0 0 rfl rfl (gd_in g_121) dL_trimmed_121 (fun H locs hP hD hS => ?_)
      have hP : va_P D vwCl [(zr_a, .inl (T.1, (60, .inl (upd zr (((3 : Int32) * x6) + (2 : Int32)).toNatClampNeg v121))))] H := hP
      have hD : va_D A [(zr_a, .inl (T.1, (60, .inl (upd zr (((3 : Int32) * x6) + (2 : Int32)).toNatClampNeg v121))))] := hD
      obtain ⟨v122, e_122, hf⟩ := nm_some hf
      refine lv_iinc (v := v122) (lv' := [(3, .int v122), (0, .ref zr_a), (1, .int x1), (2, .int x2), (5, .int x5), (6, .int x6), (7, .int x7)]) hx hb dL_trimmed_122 hl (k := 3) rfl (by rw [e_122]; rfl) (by decide) rfl (fun ls hl => ?_)
      refine lv_aload_n hx hb dL_trimmed_125 rfl (lv_at hl 1 rfl) ?_
      refine lv_iload_n hx hb dL_trimmed_126 rfl (lv_at hl 2 rfl) ?_
      refine lv_iload_n hx hb dL_trimmed_127 rfl (lv_at hl 3 rfl) ?_
      refine lv_iconst (v := (1 : Int32)) hx hb dL_trimmed_128 (by decide) ?_
      obtain ⟨q129, e_129, hf⟩ := bd_some hf
      refine callPi (va_runS (As := [.ref zr_a, .int x1, .int x2, .int (1 : Int32)]) (rest := []) ⟨hx, hb, hml, hown, hts⟩ (c_L_side l D T zr_a (upd zr (((3 : Int32) * x6) + (2 : Int32)).toNatClampNeg v121) x1 x2 (1 : Int32) q129 e_129) (va_cwS 4 hts gL_trimmed_L_side rfl rfl rfl hdS_L_side ⟨Nat.le_of_ble_eq_true rfl, Nat.le_of_ble_eq_true rfl⟩) (preBS hP hK hN) rfl rfl hl.1 rfl (lv_room (Nat.le_of_ble_eq_true rfl)) dL_trimmed_129 ⟨Nat.le_of_ble_eq_true rfl, Nat.le_of_ble_eq_true rfl⟩) ?_
      refine lv_aload_n hx hb dL_trimmed_132 rfl (lv_at hl 1 rfl) ?_
      refine lv_iload_n hx hb dL_trimmed_133 rfl (lv_at hl 2 rfl) ?_
      refine lv_iload_n hx hb dL_trimmed_134 rfl (lv_at hl 3 rfl) ?_
      refine lv_iconst (v := (0 : Int32)) hx hb dL_trimmed_135 (by decide) ?_
      obtain ⟨q136, e_136, hf⟩ := bd_some hf
      refine callPi (va_runS (As := [.ref zr_a, .int x1, .int x2, .int (0 : Int32)]) (rest := [.int q129]) ⟨hx, hb, hml, hown, hts⟩ (c_L_side l D T zr_a (upd zr (((3 : Int32) * x6) + (2 : Int32)).toNatClampNeg v121) x1 x2 (0 : Int32) q136 e_136) (va_cwS 4 hts gL_trimmed_L_side rfl rfl rfl hdS_L_side ⟨Nat.le_of_ble_eq_true rfl, Nat.le_of_ble_eq_true rfl⟩) (preBS hP hK hN) rfl rfl hl.1 rfl (lv_room (Nat.le_of_ble_eq_true rfl)) dL_trimmed_136 ⟨Nat.le_of_ble_eq_true rfl, Nat.le_of_ble_eq_true rfl⟩) ?_
      refine lv_isub hx hb dL_trimmed_139 ?_
      obtain ⟨v140, e_140, hf⟩ := nm_some hf
      refine lv_nmi e_140 ?_
      refine lv_istore (lv' := [(4, .int v140), (3, .int v122), (0, .ref zr_a), (1, .int x1), (2, .int x2), (5, .int x5), (6, .int x6), (7, .int x7)]) hx hb dL_trimmed_140 hl (by decide) rfl (fun ls hl => ?_)
      refine lv_goto (tgt := 19) hx hb dL_trimmed_142 (by decide) ?_
      exact hK19 _ _ _ hf _ _ hP hD hS _ (lv_sub hl [2, 3, 4, 1, 0] rfl)
    · have hf := it_neg c_46 hf
      refine lv_aload_n hx hb dL_trimmed_49 rfl (lv_at hl 0 rfl) ?_
      refine lv_iload hx hb dL_trimmed_50 (lv_at hl 6 rfl) ?_
      obtain ⟨q52, e_52, hf⟩ := bd_some hf
      refine callPi (va_runS (As := [.ref zr_a, .int x7]) (rest := []) ⟨hx, hb, hml, hown, hts⟩ (c_L_goesOn l D T zr_a zr x7 q52 e_52) (va_cwS 2 hts gL_trimmed_L_goesOn rfl rfl rfl hdS_L_goesOn ⟨Nat.le_of_ble_eq_true rfl, Nat.le_of_ble_eq_true rfl⟩) (preBS hP hK hN) rfl rfl hl.1 rfl (lv_room (Nat.le_of_ble_eq_true rfl)) dL_trimmed_52 ⟨Nat.le_of_ble_eq_true rfl, Nat.le_of_ble_eq_true rfl⟩) ?_
      refine lv_if_eq (tgt := 100) hx hb dL_trimmed_55 (by decide) (fun c_55 => ?_) (fun c_55 => ?_)
      · have hf := it_pos c_55 hf
        exact w_L_trimmed_b100 C hA hK19 (fun v0 v1 v2 v3 v4 hf H1 l1 p1 d1 s1 ls hl => ih v0 v1 v2 v3 v4 hf H1 l1 p1 d1 s1 ls hl) _ _ _ _ _ hf _ _ hP hD hS _ (lv_sub hl [0, 1, 2, 3, 4, 5, 6] rfl)
      · have hf := it_neg c_55 hf
        refine lv_aload_n hx hb dL_trimmed_58 rfl (lv_at hl 0 rfl) ?_
        refine lv_iconst (v := (3 : Int32)) hx hb dL_trimmed_59 (by decide) ?_
        refine lv_iload hx hb dL_trimmed_60 (lv_at hl 6 rfl) ?_
        refine lv_imul hx hb dL_trimmed_62 ?_
        refine lv_iload hx hb dL_trimmed_63 (lv_at hl 4 rfl) ?_
        refine lv_iadd hx hb dL_trimmed_65 ?_
        obtain ⟨g_66, hf⟩ := gd_some hf
        refine va_iald (D := D) hx hb hK hP 0 0 rfl rfl (gd_in g_66) dL_trimmed_66 ?_
        refine lv_iload_n hx hb dL_trimmed_67 rfl (lv_at hl 2 rfl) ?_
        refine lv_icmp_ne (tgt := 100) hx hb dL_trimmed_68 (by decide) (fun c_68 => ?_) (fun c_68 => ?_)
        · have hf := it_neg c_68 hf
          exact w_L_trimmed_b100 C hA hK19 (fun v0 v1 v2 v3 v4 hf H1 l1 p1 d1 s1 ls hl => ih v0 v1 v2 v3 v4 hf H1 l1 p1 d1 s1 ls hl) _ _ _ _ _ hf _ _ hP hD hS _ (lv_sub hl [0, 1, 2, 3, 4, 5, 6] rfl)
        · have hf := it_pos c_68 hf
          refine lv_iload hx hb dL_trimmed_71 (lv_at hl 5 rfl) ?_
          refine lv_if_lt (tgt := 95) hx hb dL_trimmed_73 (by decide) (fun c_73 => ?_) (fun c_73 => ?_)
          · have hf := it_pos c_73 hf
            exact w_L_trimmed_b95 C hA hK19 (fun v0 v1 v2 v3 v4 hf H1 l1 p1 d1 s1 ls hl => ih v0 v1 v2 v3 v4 hf H1 l1 p1 d1 s1 ls hl) _ _ _ _ hf _ _ hP hD hS _ (lv_sub hl [0, 1, 2, 3, 4, 6] rfl)
          · have hf := it_neg c_73 hf
            refine lv_aload_n hx hb dL_trimmed_76 rfl (lv_at hl 0 rfl) ?_
            refine lv_iconst (v := (3 : Int32)) hx hb dL_trimmed_77 (by decide) ?_
            refine lv_iload hx hb dL_trimmed_78 (lv_at hl 6 rfl) ?_
            refine lv_imul hx hb dL_trimmed_80 ?_
            refine lv_iconst (v := (2 : Int32)) hx hb dL_trimmed_81 (by decide) ?_
            refine lv_iadd hx hb dL_trimmed_82 ?_
            obtain ⟨g_83, hf⟩ := gd_some hf
            refine va_iald (D := D) hx hb hK hP 0 0 rfl rfl (gd_in g_83) dL_trimmed_83 ?_
            refine lv_aload_n hx hb dL_trimmed_84 rfl (lv_at hl 0 rfl) ?_
            refine lv_iconst (v := (3 : Int32)) hx hb dL_trimmed_85 (by decide) ?_
            refine lv_iload hx hb dL_trimmed_86 (lv_at hl 5 rfl) ?_
            refine lv_imul hx hb dL_trimmed_88 ?_
            refine lv_iconst (v := (2 : Int32)) hx hb dL_trimmed_89 (by decide) ?_
            refine lv_iadd hx hb dL_trimmed_90 ?_
            obtain ⟨g_91, hf⟩ := gd_some hf
            refine va_iald (D := D) hx hb hK hP 0 0 rfl rfl (gd_in g_91) dL_trimmed_91 ?_
            refine lv_icmp_lt (tgt := 100) hx hb dL_trimmed_92 (by decide) (fun c_92 => ?_) (fun c_92 => ?_)
            · have hf := it_pos c_92 hf
              exact w_L_trimmed_b100 C hA hK19 (fun v0 v1 v2 v3 v4 hf H1 l1 p1 d1 s1 ls hl => ih v0 v1 v2 v3 v4 hf H1 l1 p1 d1 s1 ls hl) _ _ _ _ _ hf _ _ hP hD hS _ (lv_sub hl [0, 1, 2, 3, 4, 5, 6] rfl)
            · have hf := it_neg c_92 hf
              exact w_L_trimmed_b95 C hA hK19 (fun v0 v1 v2 v3 v4 hf H1 l1 p1 d1 s1 ls hl => ih v0 v1 v2 v3 v4 hf H1 l1 p1 d1 s1 ls hl) _ _ _ _ hf _ _ hP hD hS _ (lv_sub hl [0, 1, 2, 3, 4, 6] rfl)
set_option maxHeartbeats 4000000 in
set_option maxRecDepth 100000 in
theorem w_L_trimmed_b34 {p : Program} {l : Launch} {e : Env} {s : State} {m : MethodId} {args : Array Value} {below : List Frame} {meth : Method} {c : Code} {D : va_G} {T : TY} {zr_a : Nat} {x1 : Int32} {x2 : Int32} {res : Int32 × (Nat → Int32)} {K19 : Int32 → Int32 → (Nat → Int32) → Option (Int32 × (Nat → Int32))} {A : Nat → Prop} (C : CX p s m args meth c cL_trimmed 8 RL wsL_trimmed (some .int) D T) (hA : ∀ q, s.heap.size ≤ q → A q) (hK19 : ∀ x3 : Int32, ∀ x4 : Int32, ∀ zr : Nat → Int32, K19 x3 x4 zr = some res → ∀ (H : Heap) (locs : List Loc), va_P D vwCl [(zr_a, .inl (T.1, (60, .inl zr)))] H → va_D A [(zr_a, .inl (T.1, (60, .inl zr)))] → va_S A s.heap H locs → ∀ ls : Array Slot, lv_has ls 8 [(0, .ref zr_a), (1, .int x1), (2, .int x2), (3, .int x3), (4, .int x4)] → W p l e rmL_trimmed s m args below meth c H locs 0 0 (MQ below (Qm (some (.int res.1)) D (fun W9 => W9 = [(zr_a, .inl (T.1, (60, .inl res.2)))]) A) args s 0 0 A) (F0 m 19 ls [])) : ∀ s0 : Int32, ∀ x3 : Int32, ∀ zr : Nat → Int32, f_L_trimmed_b34 x1 x2 K19 s0 x3 zr = some res → ∀ (H : Heap) (locs : List Loc), va_P D vwCl [(zr_a, .inl (T.1, (60, .inl zr)))] H → va_D A [(zr_a, .inl (T.1, (60, .inl zr)))] → va_S A s.heap H locs → ∀ ls : Array Slot, lv_has ls 8 [(0, .ref zr_a), (1, .int x1), (2, .int x2), (3, .int x3)] → W p l e rmL_trimmed s m args below meth c H locs 0 0 (MQ below (Qm (some (.int res.1)) D (fun W9 => W9 = [(zr_a, .inl (T.1, (60, .inl res.2)))]) A) args s 0 0 A) (F0 m 34 ls [.int s0]) := by
  obtain ⟨hx, hb, hml, hown, hts, hr, hlocks, hK, hN⟩ := id C
  intro s0 x3 zr hf H locs hP hD hS ls hl
  unfold f_L_trimmed_b34 at hf
  refine lv_istore (lv' := [(5, .int s0), (0, .ref zr_a), (1, .int x1), (2, .int x2), (3, .int x3)]) hx hb dL_trimmed_34 hl (by decide) rfl (fun ls hl => ?_)
  refine lv_iconst (v := (-1 : Int32)) hx hb dL_trimmed_36 (by decide) ?_
  refine lv_istore (lv' := [(6, .int (-1 : Int32)), (5, .int s0), (0, .ref zr_a), (1, .int x1), (2, .int x2), (3, .int x3)]) hx hb dL_trimmed_37 hl (by decide) rfl (fun ls hl => ?_)
  refine lv_iload_n hx hb dL_trimmed_39 rfl (lv_at hl 3 rfl) ?_
  refine lv_iconst (v := (1 : Int32)) hx hb dL_trimmed_40 (by decide) ?_
  refine lv_isub hx hb dL_trimmed_41 ?_
  obtain ⟨v42, e_42, hf⟩ := nm_some hf
  refine lv_nmi e_42 ?_
  refine lv_istore (lv' := [(7, .int v42), (6, .int (-1 : Int32)), (5, .int s0), (0, .ref zr_a), (1, .int x1), (2, .int x2), (3, .int x3)]) hx hb dL_trimmed_42 hl (by decide) rfl (fun ls hl => ?_)
  exact w_L_trimmed_b44 C hA hK19 _ _ _ _ _ _ hf _ _ hP hD hS _ (lv_sub hl [3, 4, 5, 6, 2, 1, 0] rfl)
set_option maxHeartbeats 4000000 in
set_option maxRecDepth 100000 in
theorem w_L_trimmed_b19 {p : Program} {l : Launch} {e : Env} {s : State} {m : MethodId} {args : Array Value} {below : List Frame} {meth : Method} {c : Code} {D : va_G} {T : TY} {zr_a : Nat} {x1 : Int32} {x2 : Int32} {res : Int32 × (Nat → Int32)} {A : Nat → Prop} (C : CX p s m args meth c cL_trimmed 8 RL wsL_trimmed (some .int) D T) (hA : ∀ q, s.heap.size ≤ q → A q) : ∀ F : Nat, ∀ x3 : Int32, ∀ x4 : Int32, ∀ zr : Nat → Int32, f_L_trimmed_b19 x1 x2 F x3 x4 zr = some res → ∀ (H : Heap) (locs : List Loc), va_P D vwCl [(zr_a, .inl (T.1, (60, .inl zr)))] H → va_D A [(zr_a, .inl (T.1, (60, .inl zr)))] → va_S A s.heap H locs → ∀ ls : Array Slot, lv_has ls 8 [(0, .ref zr_a), (1, .int x1), (2, .int x2), (3, .int x3), (4, .int x4)] → W p l e rmL_trimmed s m args below meth c H locs 0 0 (MQ below (Qm (some (.int res.1)) D (fun W9 => W9 = [(zr_a, .inl (T.1, (60, .inl res.2)))]) A) args s 0 0 A) (F0 m 19 ls []) := by
  obtain ⟨hx, hb, hml, hown, hts, hr, hlocks, hK, hN⟩ := id C
  intro F
  induction F with
  | zero => intro _ _ _ hf; cases hf
  | succ F ih =>
    intro x3 x4 zr hf H locs hP hD hS ls hl
    unfold f_L_trimmed_b19 at hf
    refine lv_iload hx hb dL_trimmed_19 (lv_at hl 4 rfl) ?_
    refine lv_if_eq (tgt := 145) hx hb dL_trimmed_21 (by decide) (fun c_21 => ?_) (fun c_21 => ?_)
    · have hf := it_pos c_21 hf
      refine lv_iload_n hx hb dL_trimmed_145 rfl (lv_at hl 3 rfl) ?_
      obtain rfl := Option.some.inj hf
      exact W.iret hx hb hr (fun t ht hW => ⟨rfl, ⟨_, rfl, by rw [ht]; exact hP, hD⟩, hS.F ht⟩) hS.2.2 dL_trimmed_146 hlocks
    · have hf := it_neg c_21 hf
      refine lv_iload hx hb dL_trimmed_24 (lv_at hl 4 rfl) ?_
      refine lv_if_le (tgt := 33) hx hb dL_trimmed_26 (by decide) (fun c_26 => ?_) (fun c_26 => ?_)
      · have hf := it_pos c_26 hf
        refine lv_iconst (v := (0 : Int32)) hx hb dL_trimmed_33 (by decide) ?_
        exact w_L_trimmed_b34 C hA (fun v0 v1 v2 hf H1 l1 p1 d1 s1 ls hl => ih v0 v1 v2 hf H1 l1 p1 d1 s1 ls hl) _ _ _ hf _ _ hP hD hS _ (lv_sub hl [0, 1, 2, 3] rfl)
      · have hf := it_neg c_26 hf
        refine lv_iconst (v := (1 : Int32)) hx hb dL_trimmed_29 (by decide) ?_
        refine lv_goto (tgt := 34) hx hb dL_trimmed_30 (by decide) ?_
        exact w_L_trimmed_b34 C hA (fun v0 v1 v2 hf H1 l1 p1 d1 s1 ls hl => ih v0 v1 v2 hf H1 l1 p1 d1 s1 ls hl) _ _ _ hf _ _ hP hD hS _ (lv_sub hl [0, 1, 2, 3] rfl)
set_option maxHeartbeats 4000000 in
set_option maxRecDepth 100000 in
theorem w_L_trimmed_b0 {p : Program} {l : Launch} {e : Env} {s : State} {m : MethodId} {args : Array Value} {below : List Frame} {meth : Method} {c : Code} {D : va_G} {T : TY} {zr_a : Nat} {x1 : Int32} {x2 : Int32} {res : Int32 × (Nat → Int32)} {A : Nat → Prop} (C : CX p s m args meth c cL_trimmed 8 RL wsL_trimmed (some .int) D T) (hA : ∀ q, s.heap.size ≤ q → A q) : ∀ zr : Nat → Int32, f_L_trimmed x1 x2 zr = some res → ∀ (H : Heap) (locs : List Loc), va_P D vwCl [(zr_a, .inl (T.1, (60, .inl zr)))] H → va_D A [(zr_a, .inl (T.1, (60, .inl zr)))] → va_S A s.heap H locs → ∀ ls : Array Slot, lv_has ls 8 [(0, .ref zr_a), (1, .int x1), (2, .int x2)] → W p l e rmL_trimmed s m args below meth c H locs 0 0 (MQ below (Qm (some (.int res.1)) D (fun W9 => W9 = [(zr_a, .inl (T.1, (60, .inl res.2)))]) A) args s 0 0 A) (F0 m 0 ls []) := by
  obtain ⟨hx, hb, hml, hown, hts, hr, hlocks, hK, hN⟩ := id C
  intro zr hf H locs hP hD hS ls hl
  unfold f_L_trimmed at hf
  refine lv_iconst (v := (0 : Int32)) hx hb dL_trimmed_0 (by decide) ?_
  refine lv_istore_n (lv' := [(3, .int (0 : Int32)), (0, .ref zr_a), (1, .int x1), (2, .int x2)]) hx hb dL_trimmed_1 rfl hl (by decide) rfl (fun ls hl => ?_)
  refine lv_aload_n hx hb dL_trimmed_2 rfl (lv_at hl 1 rfl) ?_
  refine lv_iload_n hx hb dL_trimmed_3 rfl (lv_at hl 2 rfl) ?_
  refine lv_iload_n hx hb dL_trimmed_4 rfl (lv_at hl 3 rfl) ?_
  refine lv_iconst (v := (1 : Int32)) hx hb dL_trimmed_5 (by decide) ?_
  obtain ⟨q6, e_6, hf⟩ := bd_some hf
  refine callPi (va_runS (As := [.ref zr_a, .int x1, .int x2, .int (1 : Int32)]) (rest := []) ⟨hx, hb, hml, hown, hts⟩ (c_L_side l D T zr_a zr x1 x2 (1 : Int32) q6 e_6) (va_cwS 4 hts gL_trimmed_L_side rfl rfl rfl hdS_L_side ⟨Nat.le_of_ble_eq_true rfl, Nat.le_of_ble_eq_true rfl⟩) (preBS hP hK hN) rfl rfl hl.1 rfl (lv_room (Nat.le_of_ble_eq_true rfl)) dL_trimmed_6 ⟨Nat.le_of_ble_eq_true rfl, Nat.le_of_ble_eq_true rfl⟩) ?_
  refine lv_aload_n hx hb dL_trimmed_9 rfl (lv_at hl 1 rfl) ?_
  refine lv_iload_n hx hb dL_trimmed_10 rfl (lv_at hl 2 rfl) ?_
  refine lv_iload_n hx hb dL_trimmed_11 rfl (lv_at hl 3 rfl) ?_
  refine lv_iconst (v := (0 : Int32)) hx hb dL_trimmed_12 (by decide) ?_
  obtain ⟨q13, e_13, hf⟩ := bd_some hf
  refine callPi (va_runS (As := [.ref zr_a, .int x1, .int x2, .int (0 : Int32)]) (rest := [.int q6]) ⟨hx, hb, hml, hown, hts⟩ (c_L_side l D T zr_a zr x1 x2 (0 : Int32) q13 e_13) (va_cwS 4 hts gL_trimmed_L_side rfl rfl rfl hdS_L_side ⟨Nat.le_of_ble_eq_true rfl, Nat.le_of_ble_eq_true rfl⟩) (preBS hP hK hN) rfl rfl hl.1 rfl (lv_room (Nat.le_of_ble_eq_true rfl)) dL_trimmed_13 ⟨Nat.le_of_ble_eq_true rfl, Nat.le_of_ble_eq_true rfl⟩) ?_
  refine lv_isub hx hb dL_trimmed_16 ?_
  obtain ⟨v17, e_17, hf⟩ := nm_some hf
  refine lv_nmi e_17 ?_
  refine lv_istore (lv' := [(4, .int v17), (3, .int (0 : Int32)), (0, .ref zr_a), (1, .int x1), (2, .int x2)]) hx hb dL_trimmed_17 hl (by decide) rfl (fun ls hl => ?_)
  exact w_L_trimmed_b19 C hA _ _ _ _ hf _ _ hP hD hS _ (lv_sub hl [2, 3, 4, 1, 0] rfl)
theorem c_L_trimmed (l : Launch) (D : va_G) (T : TY) (zr_a : Nat) (zr : Nat → Int32) (x1 : Int32) (x2 : Int32) (res : Int32 × (Nat → Int32)) (hf : f_L_trimmed x1 x2 zr = some res) (sz : Nat) : Met l yL_trimmed wsL_trimmed rmL_trimmed (va_Pc [.ref zr_a, .int x1, .int x2] (PM D T [(zr_a, .inl (T.1, (60, .inl zr)))] sz)) (Qm (some (.int res.1)) D (fun W9 => W9 = [(zr_a, .inl (T.1, (60, .inl res.2)))]) (va_A [(zr_a, .inl (T.1, (60, .inl zr)))] sz)) 0 0 (va_A [(zr_a, .inl (T.1, (60, .inl zr)))] sz) :=
  metM_of (by decide +kernel) rfl (Nat.le_of_ble_eq_true rfl) (fun p e s m args below meth c C hnm A hA hP hD ls hl => w_L_trimmed_b0 C hA _ hf _ _ hP hD va_S.rf ls hl)
def rmL_settled : Room := { frames := 3, cells := 0, slots := 0, locals := 73 }
theorem hdS_L_settled : yL_settled.cls ≠ "java/lang/invoke/MethodHandle" ∧ yL_settled.cls ≠ "java/lang/invoke/VarHandle" ∧ (parseMethodDescriptor yL_settled.desc).map (fun d => d.parameters.length) = some 2 := by decide +kernel
theorem mw_L_settled_0 : Cond.static yL_trimmed ∈ wsL_settled := by decide +kernel
set_option maxHeartbeats 4000000 in
set_option maxRecDepth 100000 in
theorem w_L_settled_b14 {p : Program} {l : Launch} {e : Env} {s : State} {m : MethodId} {args : Array Value} {below : List Frame} {meth : Method} {c : Code} {D : va_G} {T : TY} {zr_a : Nat} {x1 : Int32} {res : Int32 × (Nat → Int32)} {K4 : Int32 → Int32 → (Nat → Int32) → Option (Int32 × (Nat → Int32))} {A : Nat → Prop} (C : CX p s m args meth c cL_settled 5 RL wsL_settled (some .int) D T) (hA : ∀ q, s.heap.size ≤ q → A q) (hK4 : ∀ x2 : Int32, ∀ x3 : Int32, ∀ zr : Nat → Int32, K4 x2 x3 zr = some res → ∀ (H : Heap) (locs : List Loc), va_P D vwCl [(zr_a, .inl (T.1, (60, .inl zr)))] H → va_D A [(zr_a, .inl (T.1, (60, .inl zr)))] → va_S A s.heap H locs → ∀ ls : Array Slot, lv_has ls 5 [(0, .ref zr_a), (1, .int x1), (2, .int x2), (3, .int x3)] → W p l e rmL_settled s m args below meth c H locs 0 0 (MQ below (Qm (some (.int res.1)) D (fun W9 => W9 = [(zr_a, .inl (T.1, (60, .inl res.2)))]) A) args s 0 0 A) (F0 m 4 ls [])) : ∀ F : Nat, ∀ x2 : Int32, ∀ x3 : Int32, ∀ x4 : Int32, ∀ zr : Nat → Int32, f_L_settled_b14 x1 K4 F x2 x3 x4 zr = some res → ∀ (H : Heap) (locs : List Loc), va_P D vwCl [(zr_a, .inl (T.1, (60, .inl zr)))] H → va_D A [(zr_a, .inl (T.1, (60, .inl zr)))] → va_S A s.heap H locs → ∀ ls : Array Slot, lv_has ls 5 [(0, .ref zr_a), (1, .int x1), (2, .int x2), (3, .int x3), (4, .int x4)] → W p l e rmL_settled s m args below meth c H locs 0 0 (MQ below (Qm (some (.int res.1)) D (fun W9 => W9 = [(zr_a, .inl (T.1, (60, .inl res.2)))]) A) args s 0 0 A) (F0 m 14 ls []) := by
  obtain ⟨hx, hb, hml, hown, hts, hr, hlocks, hK, hN⟩ := id C
  intro F
  induction F with
  | zero => intro _ _ _ _ hf; cases hf
  | succ F ih =>
    intro x2 x3 x4 zr hf H locs hP hD hS ls hl
    unfold f_L_settled_b14 at hf
    refine lv_iload hx hb dL_settled_14 (lv_at hl 4 rfl) ?_
    refine lv_bipush (v := (12 : Int32)) hx hb dL_settled_16 (by decide) ?_
    refine lv_icmp_ge (tgt := 37) hx hb dL_settled_18 (by decide) (fun c_18 => ?_) (fun c_18 => ?_)
    · have hf := it_pos c_18 hf
      refine lv_goto (tgt := 4) hx hb dL_settled_37 (by decide) ?_
      exact hK4 _ _ _ hf _ _ hP hD hS _ (lv_sub hl [0, 1, 2, 3] rfl)
    · have hf := it_neg c_18 hf
      refine lv_iload_n hx hb dL_settled_21 rfl (lv_at hl 2 rfl) ?_
      refine lv_aload_n hx hb dL_settled_22 rfl (lv_at hl 0 rfl) ?_
      refine lv_iload_n hx hb dL_settled_23 rfl (lv_at hl 1 rfl) ?_
      refine lv_iload hx hb dL_settled_24 (lv_at hl 4 rfl) ?_
      obtain ⟨q26, e_26, hf⟩ := bd_some hf
      refine callMi (wr := []) (ws' := [(zr_a, .inl (T.1, (60, .inl q26.2)))]) (va_runS (As := [.ref zr_a, .int x1, .int x4]) (rest := [.int x2]) ⟨hx, hb, hml, hown, hts⟩ (c_L_trimmed l D T zr_a zr x1 x4 q26 e_26 H.size) (va_cwS 3 hts gL_settled_L_trimmed rfl rfl rfl hdS_L_trimmed ⟨Nat.le_of_ble_eq_true rfl, Nat.le_of_ble_eq_true rfl⟩) (preMS hP hD hK hN) rfl rfl hl.1 rfl (lv_room (Nat.le_of_ble_eq_true rfl)) dL_settled_26 ⟨Nat.le_of_ble_eq_true rfl, Nat.le_of_ble_eq_true rfl⟩) hP hD hS hA [0] [] [0] rfl rfl rfl rfl rfl rfl (fun H locs hP hD hS => ?_)
      refine lv_iadd hx hb dL_settled_29 ?_
      obtain ⟨v30, e_30, hf⟩ := nm_some hf
      refine lv_nmi e_30 ?_
      refine lv_istore_n (lv' := [(2, .int v30), (0, .ref zr_a), (1, .int x1), (3, .int x3), (4, .int x4)]) hx hb dL_settled_30 rfl hl (by decide) rfl (fun ls hl => ?_)
      obtain ⟨v31, e_31, hf⟩ := nm_some hf
      refine lv_iinc (v := v31) (lv' := [(4, .int v31), (2, .int v30), (0, .ref zr_a), (1, .int x1), (3, .int x3)]) hx hb dL_settled_31 hl (k := 4) rfl (by rw [e_31]; rfl) (by decide) rfl (fun ls hl => ?_)
      refine lv_goto (tgt := 14) hx hb dL_settled_34 (by decide) ?_
      exact ih _ _ _ _ hf _ _ hP hD hS _ (lv_sub hl [2, 3, 1, 4, 0] rfl)
set_option maxHeartbeats 4000000 in
set_option maxRecDepth 100000 in
theorem w_L_settled_b4 {p : Program} {l : Launch} {e : Env} {s : State} {m : MethodId} {args : Array Value} {below : List Frame} {meth : Method} {c : Code} {D : va_G} {T : TY} {zr_a : Nat} {x1 : Int32} {res : Int32 × (Nat → Int32)} {A : Nat → Prop} (C : CX p s m args meth c cL_settled 5 RL wsL_settled (some .int) D T) (hA : ∀ q, s.heap.size ≤ q → A q) : ∀ F : Nat, ∀ x2 : Int32, ∀ x3 : Int32, ∀ zr : Nat → Int32, f_L_settled_b4 x1 F x2 x3 zr = some res → ∀ (H : Heap) (locs : List Loc), va_P D vwCl [(zr_a, .inl (T.1, (60, .inl zr)))] H → va_D A [(zr_a, .inl (T.1, (60, .inl zr)))] → va_S A s.heap H locs → ∀ ls : Array Slot, lv_has ls 5 [(0, .ref zr_a), (1, .int x1), (2, .int x2), (3, .int x3)] → W p l e rmL_settled s m args below meth c H locs 0 0 (MQ below (Qm (some (.int res.1)) D (fun W9 => W9 = [(zr_a, .inl (T.1, (60, .inl res.2)))]) A) args s 0 0 A) (F0 m 4 ls []) := by
  obtain ⟨hx, hb, hml, hown, hts, hr, hlocks, hK, hN⟩ := id C
  intro F
  induction F with
  | zero => intro _ _ _ hf; cases hf
  | succ F ih =>
    intro x2 x3 zr hf H locs hP hD hS ls hl
    unfold f_L_settled_b4 at hf
    refine lv_iload_n hx hb dL_settled_4 rfl (lv_at hl 2 rfl) ?_
    refine lv_iload_n hx hb dL_settled_5 rfl (lv_at hl 3 rfl) ?_
    refine lv_icmp_eq (tgt := 40) hx hb dL_settled_6 (by decide) (fun c_6 => ?_) (fun c_6 => ?_)
    · have hf := it_pos c_6 hf
      refine lv_iload_n hx hb dL_settled_40 rfl (lv_at hl 2 rfl) ?_
      obtain rfl := Option.some.inj hf
      exact W.iret hx hb hr (fun t ht hW => ⟨rfl, ⟨_, rfl, by rw [ht]; exact hP, hD⟩, hS.F ht⟩) hS.2.2 dL_settled_41 hlocks
    · have hf := it_neg c_6 hf
      refine lv_iload_n hx hb dL_settled_9 rfl (lv_at hl 2 rfl) ?_
      refine lv_istore_n (lv' := [(3, .int x2), (0, .ref zr_a), (1, .int x1), (2, .int x2)]) hx hb dL_settled_10 rfl hl (by decide) rfl (fun ls hl => ?_)
      refine lv_iconst (v := (4 : Int32)) hx hb dL_settled_11 (by decide) ?_
      refine lv_istore (lv' := [(4, .int (4 : Int32)), (3, .int x2), (0, .ref zr_a), (1, .int x1), (2, .int x2)]) hx hb dL_settled_12 hl (by decide) rfl (fun ls hl => ?_)
      exact w_L_settled_b14 C hA (fun v0 v1 v2 hf H1 l1 p1 d1 s1 ls hl => ih v0 v1 v2 hf H1 l1 p1 d1 s1 ls hl) _ _ _ _ _ hf _ _ hP hD hS _ (lv_sub hl [2, 3, 4, 1, 0] rfl)
set_option maxHeartbeats 4000000 in
set_option maxRecDepth 100000 in
theorem w_L_settled_b0 {p : Program} {l : Launch} {e : Env} {s : State} {m : MethodId} {args : Array Value} {below : List Frame} {meth : Method} {c : Code} {D : va_G} {T : TY} {zr_a : Nat} {x1 : Int32} {res : Int32 × (Nat → Int32)} {A : Nat → Prop} (C : CX p s m args meth c cL_settled 5 RL wsL_settled (some .int) D T) (hA : ∀ q, s.heap.size ≤ q → A q) : ∀ zr : Nat → Int32, f_L_settled x1 zr = some res → ∀ (H : Heap) (locs : List Loc), va_P D vwCl [(zr_a, .inl (T.1, (60, .inl zr)))] H → va_D A [(zr_a, .inl (T.1, (60, .inl zr)))] → va_S A s.heap H locs → ∀ ls : Array Slot, lv_has ls 5 [(0, .ref zr_a), (1, .int x1)] → W p l e rmL_settled s m args below meth c H locs 0 0 (MQ below (Qm (some (.int res.1)) D (fun W9 => W9 = [(zr_a, .inl (T.1, (60, .inl res.2)))]) A) args s 0 0 A) (F0 m 0 ls []) := by
  obtain ⟨hx, hb, hml, hown, hts, hr, hlocks, hK, hN⟩ := id C
  intro zr hf H locs hP hD hS ls hl
  unfold f_L_settled at hf
  refine lv_iconst (v := (0 : Int32)) hx hb dL_settled_0 (by decide) ?_
  refine lv_istore_n (lv' := [(2, .int (0 : Int32)), (0, .ref zr_a), (1, .int x1)]) hx hb dL_settled_1 rfl hl (by decide) rfl (fun ls hl => ?_)
  refine lv_iconst (v := (-1 : Int32)) hx hb dL_settled_2 (by decide) ?_
  refine lv_istore_n (lv' := [(3, .int (-1 : Int32)), (2, .int (0 : Int32)), (0, .ref zr_a), (1, .int x1)]) hx hb dL_settled_3 rfl hl (by decide) rfl (fun ls hl => ?_)
  exact w_L_settled_b4 C hA _ _ _ _ hf _ _ hP hD hS _ (lv_sub hl [2, 3, 1, 0] rfl)
theorem c_L_settled (l : Launch) (D : va_G) (T : TY) (zr_a : Nat) (zr : Nat → Int32) (x1 : Int32) (res : Int32 × (Nat → Int32)) (hf : f_L_settled x1 zr = some res) (sz : Nat) : Met l yL_settled wsL_settled rmL_settled (va_Pc [.ref zr_a, .int x1] (PM D T [(zr_a, .inl (T.1, (60, .inl zr)))] sz)) (Qm (some (.int res.1)) D (fun W9 => W9 = [(zr_a, .inl (T.1, (60, .inl res.2)))]) (va_A [(zr_a, .inl (T.1, (60, .inl zr)))] sz)) 0 0 (va_A [(zr_a, .inl (T.1, (60, .inl zr)))] sz) :=
  metM_of (by decide +kernel) rfl (Nat.le_of_ble_eq_true rfl) (fun p e s m args below meth c C hnm A hA hP hD ls hl => w_L_settled_b0 C hA _ hf _ _ hP hD va_S.rf ls hl)
