/-! ===== walks, laid by wip/gen ===== -/
def rmX6_isPost : Room := { frames := 0, cells := 0, slots := 0, locals := 0 }
theorem hdS_X6_isPost : yX6_isPost.cls ≠ "java/lang/invoke/MethodHandle" ∧ yX6_isPost.cls ≠ "java/lang/invoke/VarHandle" ∧ (parseMethodDescriptor yX6_isPost.desc).map (fun d => d.parameters.length) = some 1 := by decide +kernel
set_option maxHeartbeats 4000000 in
set_option maxRecDepth 100000 in
theorem w_X6_isPost_b0 {p : Program} {l : Launch} {e : Env} {s : State} {m : MethodId} {args : Array Value} {below : List Frame} {meth : Method} {c : Code} {D : va_G} {T : TY} {x0 : Int32} {res : Int32} (C : CX p s m args meth c cX6_isPost 1 RX6 wsX6_isPost (some .boolean) D T) (hP : va_P D vwCl [] s.heap) : f_X6_isPost x0 = some res → ∀ ls : Array Slot, lv_has ls 1 [(0, .int x0)] → W p l e rmX6_isPost s m args below meth c s.heap [] 0 0 (MQ below (Qp (some (.int res))) args s 0 0 (fun _ => False)) (F0 m 0 ls []) := by
  obtain ⟨hx, hb, hml, hown, hts, hr, hlocks, hK, hN⟩ := id C
  intro  hf ls hl
  unfold f_X6_isPost at hf
  refine lv_iload_n hx hb dX6_isPost_0 rfl (lv_at hl 0 rfl) ?_
  refine lv_if_lt (tgt := 14) hx hb dX6_isPost_1 (by decide) (fun c_1 => ?_) (fun c_1 => ?_)
  · have hf := it_pos c_1 hf
    refine lv_iconst (v := (0 : Int32)) hx hb dX6_isPost_14 (by decide) ?_
    obtain rfl := Option.some.inj hf
    exact W.zret hx hb hr (by decide) (fun t ht hW => ⟨rfl, ht⟩) (fun q hq => absurd hq List.not_mem_nil) dX6_isPost_15 hlocks
  · have hf := it_neg c_1 hf
    refine lv_iload_n hx hb dX6_isPost_4 rfl (lv_at hl 0 rfl) ?_
    refine lv_bipush (v := (16 : Int32)) hx hb dX6_isPost_5 (by decide) ?_
    refine lv_icmp_ge (tgt := 14) hx hb dX6_isPost_7 (by decide) (fun c_7 => ?_) (fun c_7 => ?_)
    · have hf := it_pos c_7 hf
      refine lv_iconst (v := (0 : Int32)) hx hb dX6_isPost_14 (by decide) ?_
      obtain rfl := Option.some.inj hf
      exact W.zret hx hb hr (by decide) (fun t ht hW => ⟨rfl, ht⟩) (fun q hq => absurd hq List.not_mem_nil) dX6_isPost_15 hlocks
    · have hf := it_neg c_7 hf
      refine lv_iconst (v := (1 : Int32)) hx hb dX6_isPost_10 (by decide) ?_
      refine lv_goto (tgt := 15) hx hb dX6_isPost_11 (by decide) ?_
      obtain rfl := Option.some.inj hf
      exact W.zret hx hb hr (by decide) (fun t ht hW => ⟨rfl, ht⟩) (fun q hq => absurd hq List.not_mem_nil) dX6_isPost_15 hlocks
theorem c_X6_isPost (l : Launch) (D : va_G) (T : TY) (x0 : Int32) (res : Int32) (hf : f_X6_isPost x0 = some res) : Met l yX6_isPost wsX6_isPost rmX6_isPost (va_Pc [.int x0] (PB D T [])) (Qp (some (.int res))) 0 0 (fun _ => False) :=
  metP_of (by decide +kernel) rfl (Nat.le_of_ble_eq_true rfl) (fun p e s m args below meth c C hP ls hl => w_X6_isPost_b0 C hP hf ls hl)
def rmX6_columnOf : Room := { frames := 0, cells := 0, slots := 0, locals := 0 }
theorem hdS_X6_columnOf : yX6_columnOf.cls ≠ "java/lang/invoke/MethodHandle" ∧ yX6_columnOf.cls ≠ "java/lang/invoke/VarHandle" ∧ (parseMethodDescriptor yX6_columnOf.desc).map (fun d => d.parameters.length) = some 1 := by decide +kernel
set_option maxHeartbeats 4000000 in
set_option maxRecDepth 100000 in
theorem w_X6_columnOf_b0 {p : Program} {l : Launch} {e : Env} {s : State} {m : MethodId} {args : Array Value} {below : List Frame} {meth : Method} {c : Code} {D : va_G} {T : TY} {x0 : Int32} {res : Int32} (C : CX p s m args meth c cX6_columnOf 1 RX6 wsX6_columnOf (some .int) D T) (hP : va_P D vwCl [] s.heap) : f_X6_columnOf x0 = some res → ∀ ls : Array Slot, lv_has ls 1 [(0, .int x0)] → W p l e rmX6_columnOf s m args below meth c s.heap [] 0 0 (MQ below (Qp (some (.int res))) args s 0 0 (fun _ => False)) (F0 m 0 ls []) := by
  obtain ⟨hx, hb, hml, hown, hts, hr, hlocks, hK, hN⟩ := id C
  intro  hf ls hl
  unfold f_X6_columnOf at hf
  refine lv_iload_n hx hb dX6_columnOf_0 rfl (lv_at hl 0 rfl) ?_
  refine lv_iconst (v := (4 : Int32)) hx hb dX6_columnOf_1 (by decide) ?_
  refine lv_idiv hx hb dX6_columnOf_2 (by decide) ?_
  obtain rfl := Option.some.inj hf
  exact W.iret hx hb hr (fun t ht hW => ⟨rfl, ht⟩) (fun q hq => absurd hq List.not_mem_nil) dX6_columnOf_3 hlocks
theorem c_X6_columnOf (l : Launch) (D : va_G) (T : TY) (x0 : Int32) (res : Int32) (hf : f_X6_columnOf x0 = some res) : Met l yX6_columnOf wsX6_columnOf rmX6_columnOf (va_Pc [.int x0] (PB D T [])) (Qp (some (.int res))) 0 0 (fun _ => False) :=
  metP_of (by decide +kernel) rfl (Nat.le_of_ble_eq_true rfl) (fun p e s m args below meth c C hP ls hl => w_X6_columnOf_b0 C hP hf ls hl)
def rmX6_isInner : Room := { frames := 0, cells := 0, slots := 0, locals := 0 }
theorem hdS_X6_isInner : yX6_isInner.cls ≠ "java/lang/invoke/MethodHandle" ∧ yX6_isInner.cls ≠ "java/lang/invoke/VarHandle" ∧ (parseMethodDescriptor yX6_isInner.desc).map (fun d => d.parameters.length) = some 1 := by decide +kernel
set_option maxHeartbeats 4000000 in
set_option maxRecDepth 100000 in
theorem w_X6_isInner_b0 {p : Program} {l : Launch} {e : Env} {s : State} {m : MethodId} {args : Array Value} {below : List Frame} {meth : Method} {c : Code} {D : va_G} {T : TY} {x0 : Int32} {res : Int32} (C : CX p s m args meth c cX6_isInner 1 RX6 wsX6_isInner (some .boolean) D T) (hP : va_P D vwCl [] s.heap) : f_X6_isInner x0 = some res → ∀ ls : Array Slot, lv_has ls 1 [(0, .int x0)] → W p l e rmX6_isInner s m args below meth c s.heap [] 0 0 (MQ below (Qp (some (.int res))) args s 0 0 (fun _ => False)) (F0 m 0 ls []) := by
  obtain ⟨hx, hb, hml, hown, hts, hr, hlocks, hK, hN⟩ := id C
  intro  hf ls hl
  unfold f_X6_isInner at hf
  refine lv_iload_n hx hb dX6_isInner_0 rfl (lv_at hl 0 rfl) ?_
  refine lv_iconst (v := (4 : Int32)) hx hb dX6_isInner_1 (by decide) ?_
  refine lv_icmp_lt (tgt := 15) hx hb dX6_isInner_2 (by decide) (fun c_2 => ?_) (fun c_2 => ?_)
  · have hf := it_pos c_2 hf
    refine lv_iconst (v := (0 : Int32)) hx hb dX6_isInner_15 (by decide) ?_
    obtain rfl := Option.some.inj hf
    exact W.zret hx hb hr (by decide) (fun t ht hW => ⟨rfl, ht⟩) (fun q hq => absurd hq List.not_mem_nil) dX6_isInner_16 hlocks
  · have hf := it_neg c_2 hf
    refine lv_iload_n hx hb dX6_isInner_5 rfl (lv_at hl 0 rfl) ?_
    refine lv_bipush (v := (12 : Int32)) hx hb dX6_isInner_6 (by decide) ?_
    refine lv_icmp_ge (tgt := 15) hx hb dX6_isInner_8 (by decide) (fun c_8 => ?_) (fun c_8 => ?_)
    · have hf := it_pos c_8 hf
      refine lv_iconst (v := (0 : Int32)) hx hb dX6_isInner_15 (by decide) ?_
      obtain rfl := Option.some.inj hf
      exact W.zret hx hb hr (by decide) (fun t ht hW => ⟨rfl, ht⟩) (fun q hq => absurd hq List.not_mem_nil) dX6_isInner_16 hlocks
    · have hf := it_neg c_8 hf
      refine lv_iconst (v := (1 : Int32)) hx hb dX6_isInner_11 (by decide) ?_
      refine lv_goto (tgt := 16) hx hb dX6_isInner_12 (by decide) ?_
      obtain rfl := Option.some.inj hf
      exact W.zret hx hb hr (by decide) (fun t ht hW => ⟨rfl, ht⟩) (fun q hq => absurd hq List.not_mem_nil) dX6_isInner_16 hlocks
theorem c_X6_isInner (l : Launch) (D : va_G) (T : TY) (x0 : Int32) (res : Int32) (hf : f_X6_isInner x0 = some res) : Met l yX6_isInner wsX6_isInner rmX6_isInner (va_Pc [.int x0] (PB D T [])) (Qp (some (.int res))) 0 0 (fun _ => False) :=
  metP_of (by decide +kernel) rfl (Nat.le_of_ble_eq_true rfl) (fun p e s m args below meth c C hP ls hl => w_X6_isInner_b0 C hP hf ls hl)
def rmX1_init : Room := { frames := 1, cells := 4, slots := 76, locals := 12 }
theorem hdS_X1_init : yX1_init.cls ≠ "java/lang/invoke/MethodHandle" ∧ yX1_init.cls ≠ "java/lang/invoke/VarHandle" ∧ (parseMethodDescriptor yX1_init.desc).map (fun d => d.parameters.length) = some 0 := by decide +kernel
theorem iw_X1_init_X1 : ∀ w ∈ wsX10, w ∈ wsX1_init := by decide +kernel
theorem mw_X1_init_0 : Cond.fieldLink RX1 9 "RibbonPosts$Drawing" "places" "[I" ∈ wsX1_init := by decide +kernel
theorem mw_X1_init_1 : Cond.fieldLink RX1 15 "RibbonPosts$Drawing" "froms" "[I" ∈ wsX1_init := by decide +kernel
theorem mw_X1_init_2 : Cond.fieldLink RX1 18 "RibbonPosts$Drawing" "tos" "[I" ∈ wsX1_init := by decide +kernel
theorem mw_X1_init_3 : Cond.fieldLink RX1 21 "RibbonPosts$Drawing" "widths" "[I" ∈ wsX1_init := by decide +kernel
theorem mw_X1_init_4 : Cond.arrayClass .int ∈ wsX1_init := by decide +kernel
theorem mw_X1_init_5 : Cond.methodLink RX1 3 objectInit ∈ wsX1_init := by decide +kernel
theorem mw_X1_init_6 : Cond.instanceMethod objectInit ∈ wsX1_init := by decide +kernel
theorem mw_X1_init_7 : Cond.code objectInit ⟨#[0xb1]⟩ 1 none ∈ wsX1_init := by decide +kernel
set_option maxHeartbeats 4000000 in
set_option maxRecDepth 100000 in
theorem w_X1_init_b38 {p : Program} {l : Launch} {e : Env} {s : State} {m : MethodId} {args : Array Value} {below : List Frame} {meth : Method} {c : Code} {D : va_G} {T : TY} {d_a q7 q15 q23 q31 : Nat} {res : (Nat → Int32)} {A : Nat → Prop} (C : CX p s m args meth c cX1_init 2 RX1 wsX1_init none D T) (hA : meth.name = "<init>" ∧ ∀ q, s.heap.size ≤ q → A q) : ∀ F : Nat, ∀ x1 : Int32, ∀ q7_c : Nat → Int32, f_X1_init_b38 F x1 q7_c = some res → ∀ (H : Heap) (locs : List Loc), va_P D vwCl [(d_a, .inr (1, [.ref q7, .ref q15, .ref q23, .ref q31, .int (0 : Int32), .int (0 : Int32)])), (q7, .inl (T.1, (16, .inl q7_c))), (q15, .inl (T.1, (20, .inl (fun _ => (0 : Int32))))), (q23, .inl (T.1, (20, .inl (fun _ => (0 : Int32))))), (q31, .inl (T.1, (20, .inl (fun _ => (0 : Int32)))))] H → va_D A [(d_a, .inr (1, [.ref q7, .ref q15, .ref q23, .ref q31, .int (0 : Int32), .int (0 : Int32)])), (q7, .inl (T.1, (16, .inl q7_c))), (q15, .inl (T.1, (20, .inl (fun _ => (0 : Int32))))), (q23, .inl (T.1, (20, .inl (fun _ => (0 : Int32))))), (q31, .inl (T.1, (20, .inl (fun _ => (0 : Int32)))))] → va_S A s.heap H locs → ∀ ls : Array Slot, lv_has ls 2 [(0, .ref d_a), (1, .int x1)] → W p l e rmX1_init s m args below meth c H locs 4 76 (MQ below (Qm none D (fun W9 => ∃ q7 q15 q23 q31 : Nat, W9 = [(d_a, .inr (1, [.ref q7, .ref q15, .ref q23, .ref q31, .int (0 : Int32), .int (0 : Int32)])), (q7, .inl (T.1, (16, .inl res))), (q15, .inl (T.1, (20, .inl (fun _ => (0 : Int32))))), (q23, .inl (T.1, (20, .inl (fun _ => (0 : Int32))))), (q31, .inl (T.1, (20, .inl (fun _ => (0 : Int32)))))]) A) args s 4 76 A) (F0 m 38 ls []) := by
  obtain ⟨hx, hb, hml, hown, hts, hr, hlocks, hK, hN⟩ := id C
  obtain ⟨hin, hA⟩ := id hA
  intro F
  induction F with
  | zero => intro _ _ hf; cases hf
  | succ F ih =>
    intro x1 q7_c hf H locs hP hD hS ls hl
    unfold f_X1_init_b38 at hf
    refine lv_iload_n hx hb dX1_init_38 rfl (lv_at hl 1 rfl) ?_
    refine lv_bipush (v := (16 : Int32)) hx hb dX1_init_39 (by decide) ?_
    refine lv_icmp_ge (tgt := 59) hx hb dX1_init_41 (by decide) (fun c_41 => ?_) (fun c_41 => ?_)
    · have hf := it_pos c_41 hf
      obtain rfl := Option.some.inj hf
      exact W.vret hx hb hr (fun t ht hW => ⟨rfl, ⟨_, ⟨_, _, _, _, rfl⟩, by rw [ht]; exact hP, hD⟩, hS.F ht⟩) hS.2.2 dX1_init_59 hlocks
    · have hf := it_neg c_41 hf
      refine lv_aload_n hx hb dX1_init_44 rfl (lv_at hl 0 rfl) ?_
      refine va_get (D := D) (ci := 1) (v := .ref q7) (C := RX1) (T := TX1) (N := 6) hx hb hts iw_X1_init_X1 hown hK hP 0 rfl rfl 0 (by decide) (hts (.fieldLink RX1 9 "RibbonPosts$Drawing" "places" "[I") mw_X1_init_0) (fun _ h9 => h9) rfl dX1_init_45 ?_
      refine lv_iload_n hx hb dX1_init_48 rfl (lv_at hl 1 rfl) ?_
      refine lv_iload_n hx hb dX1_init_49 rfl (lv_at hl 1 rfl) ?_
      refine lv_iconst (v := (4 : Int32)) hx hb dX1_init_50 (by decide) ?_
      refine lv_irem hx hb dX1_init_51 (by decide) ?_
      obtain ⟨v52, e_52, hf⟩ := nm_some hf
      refine lv_nmi e_52 ?_
      obtain ⟨g_52, hf⟩ := gd_some hf
      refine va_iast (D := D) hx hb hK hP hD hS 1 0 rfl rfl (gd_in g_52) dX1_init_52 (fun H locs hP hD hS => ?_)
      have hP : va_P D vwCl [(d_a, .inr (1, [.ref q7, .ref q15, .ref q23, .ref q31, .int (0 : Int32), .int (0 : Int32)])), (q7, .inl (T.1, (16, .inl (upd q7_c x1.toNatClampNeg v52)))), (q15, .inl (T.1, (20, .inl (fun _ => (0 : Int32))))), (q23, .inl (T.1, (20, .inl (fun _ => (0 : Int32))))), (q31, .inl (T.1, (20, .inl (fun _ => (0 : Int32)))))] H := hP
      have hD : va_D A [(d_a, .inr (1, [.ref q7, .ref q15, .ref q23, .ref q31, .int (0 : Int32), .int (0 : Int32)])), (q7, .inl (T.1, (16, .inl (upd q7_c x1.toNatClampNeg v52)))), (q15, .inl (T.1, (20, .inl (fun _ => (0 : Int32))))), (q23, .inl (T.1, (20, .inl (fun _ => (0 : Int32))))), (q31, .inl (T.1, (20, .inl (fun _ => (0 : Int32)))))] := hD
      obtain ⟨v53, e_53, hf⟩ := nm_some hf
      refine lv_iinc (v := v53) (lv' := [(1, .int v53), (0, .ref d_a)]) hx hb dX1_init_53 hl (k := 1) rfl (by rw [e_53]; rfl) (by decide) rfl (fun ls hl => ?_)
      refine lv_goto (tgt := 38) hx hb dX1_init_56 (by decide) ?_
      exact ih _ _ hf _ _ hP hD hS _ (lv_sub hl [1, 0] rfl)
set_option maxHeartbeats 4000000 in
set_option maxRecDepth 100000 in
theorem w_X1_init_b0 {p : Program} {l : Launch} {e : Env} {s : State} {m : MethodId} {args : Array Value} {below : List Frame} {meth : Method} {c : Code} {D : va_G} {T : TY} {d_a : Nat} {res : (Nat → Int32)} {A : Nat → Prop} (C : CX p s m args meth c cX1_init 2 RX1 wsX1_init none D T) (hA : meth.name = "<init>" ∧ ∀ q, s.heap.size ≤ q → A q) : f_X1_init = some res → ∀ (H : Heap) (locs : List Loc), va_P D vwCl [(d_a, .inr (1, [.null, .null, .null, .null, .int (0 : Int32), .int (0 : Int32)]))] H → va_D A [(d_a, .inr (1, [.null, .null, .null, .null, .int (0 : Int32), .int (0 : Int32)]))] → va_S A s.heap H locs → ∀ ls : Array Slot, lv_has ls 2 [(0, .ref d_a)] → W p l e rmX1_init s m args below meth c H locs 0 0 (MQ below (Qm none D (fun W9 => ∃ q7 q15 q23 q31 : Nat, W9 = [(d_a, .inr (1, [.ref q7, .ref q15, .ref q23, .ref q31, .int (0 : Int32), .int (0 : Int32)])), (q7, .inl (T.1, (16, .inl res))), (q15, .inl (T.1, (20, .inl (fun _ => (0 : Int32))))), (q23, .inl (T.1, (20, .inl (fun _ => (0 : Int32))))), (q31, .inl (T.1, (20, .inl (fun _ => (0 : Int32)))))]) A) args s 4 76 A) (F0 m 0 ls []) := by
  obtain ⟨hx, hb, hml, hown, hts, hr, hlocks, hK, hN⟩ := id C
  obtain ⟨hin, hA⟩ := id hA
  intro  hf H locs hP hD hS ls hl
  unfold f_X1_init at hf
  refine lv_aload_n hx hb dX1_init_0 rfl (lv_at hl 0 rfl) ?_
  refine W.objInit hx hb hown (hts (.methodLink RX1 3 objectInit) mw_X1_init_5) (hts (.instanceMethod objectInit) mw_X1_init_6) (hts (.code objectInit ⟨#[0xb1]⟩ 1 none) mw_X1_init_7) rfl (by rw [hml]; exact hl.1) rfl dX1_init_1 (Nat.le_of_ble_eq_true rfl) (Nat.le_of_ble_eq_true rfl) ?_
  refine W.eq (g2 := F0 m 4 ls []) rfl ?_
  refine lv_aload_n hx hb dX1_init_4 rfl (lv_at hl 0 rfl) ?_
  refine lv_bipush (v := (16 : Int32)) hx hb dX1_init_5 (by decide) ?_
  refine va_newa (atype := .int) (ty := .int) (N' := 16) (a0 := (16, .inl (fun _ => (0 : Int32)))) hx hb (hts (.arrayClass .int) mw_X1_init_4) rfl hK hP hD hS hA (fun _ => rfl) (by decide) (by decide) (by decide) (Nat.le_of_ble_eq_true rfl) (Nat.le_of_ble_eq_true rfl) dX1_init_7 (fun q7 cA H hK9 hP hD hS => ?_)
  obtain rfl : cA = T.1 := tyOne hK9 0 rfl
  have hP : va_P D vwCl [(d_a, .inr (1, [.null, .null, .null, .null, .int (0 : Int32), .int (0 : Int32)])), (q7, .inl (T.1, (16, .inl (fun _ => (0 : Int32)))))] H := hP
  have hD : va_D A [(d_a, .inr (1, [.null, .null, .null, .null, .int (0 : Int32), .int (0 : Int32)])), (q7, .inl (T.1, (16, .inl (fun _ => (0 : Int32)))))] := hD
  refine W.widen (k := 1) (n := 16) (by decide) (by decide) ?_
  refine va_putF (D := D) (ci := 1) (v := .ref q7) (ty := .array .int) (C := RX1) (T := TX1) (N := 6) hx hb hts iw_X1_init_X1 tyX1 tyX1_ok nmX1 hown hK hP hD hS 0 rfl rfl 0 (by decide) (hts (.fieldLink RX1 9 "RibbonPosts$Drawing" "places" "[I") mw_X1_init_0) (fun _ h9 => h9) rfl hin rfl (by decide +kernel) rfl rfl (Nat.le_of_ble_eq_true rfl) dX1_init_9 (fun H locs hP hD hS => ?_)
  have hP : va_P D vwCl [(d_a, .inr (1, [.ref q7, .null, .null, .null, .int (0 : Int32), .int (0 : Int32)])), (q7, .inl (T.1, (16, .inl (fun _ => (0 : Int32)))))] H := hP
  have hD : va_D A [(d_a, .inr (1, [.ref q7, .null, .null, .null, .int (0 : Int32), .int (0 : Int32)])), (q7, .inl (T.1, (16, .inl (fun _ => (0 : Int32)))))] := hD
  refine lv_aload_n hx hb dX1_init_12 rfl (lv_at hl 0 rfl) ?_
  refine lv_bipush (v := (20 : Int32)) hx hb dX1_init_13 (by decide) ?_
  refine va_newa (atype := .int) (ty := .int) (N' := 20) (a0 := (20, .inl (fun _ => (0 : Int32)))) hx hb (hts (.arrayClass .int) mw_X1_init_4) rfl hK hP hD hS hA (fun _ => rfl) (by decide) (by decide) (by decide) (Nat.le_of_ble_eq_true rfl) (Nat.le_of_ble_eq_true rfl) dX1_init_15 (fun q15 cA H hK9 hP hD hS => ?_)
  obtain rfl : cA = T.1 := tyOne hK9 0 rfl
  have hP : va_P D vwCl [(d_a, .inr (1, [.ref q7, .null, .null, .null, .int (0 : Int32), .int (0 : Int32)])), (q7, .inl (T.1, (16, .inl (fun _ => (0 : Int32))))), (q15, .inl (T.1, (20, .inl (fun _ => (0 : Int32)))))] H := hP
  have hD : va_D A [(d_a, .inr (1, [.ref q7, .null, .null, .null, .int (0 : Int32), .int (0 : Int32)])), (q7, .inl (T.1, (16, .inl (fun _ => (0 : Int32))))), (q15, .inl (T.1, (20, .inl (fun _ => (0 : Int32)))))] := hD
  refine W.widen (k := 2) (n := 36) (by decide) (by decide) ?_
  refine va_putF (D := D) (ci := 1) (v := .ref q15) (ty := .array .int) (C := RX1) (T := TX1) (N := 6) hx hb hts iw_X1_init_X1 tyX1 tyX1_ok nmX1 hown hK hP hD hS 0 rfl rfl 1 (by decide) (hts (.fieldLink RX1 15 "RibbonPosts$Drawing" "froms" "[I") mw_X1_init_1) (fun _ h9 => h9) rfl hin rfl (by decide +kernel) rfl rfl (Nat.le_of_ble_eq_true rfl) dX1_init_17 (fun H locs hP hD hS => ?_)
  have hP : va_P D vwCl [(d_a, .inr (1, [.ref q7, .ref q15, .null, .null, .int (0 : Int32), .int (0 : Int32)])), (q7, .inl (T.1, (16, .inl (fun _ => (0 : Int32))))), (q15, .inl (T.1, (20, .inl (fun _ => (0 : Int32)))))] H := hP
  have hD : va_D A [(d_a, .inr (1, [.ref q7, .ref q15, .null, .null, .int (0 : Int32), .int (0 : Int32)])), (q7, .inl (T.1, (16, .inl (fun _ => (0 : Int32))))), (q15, .inl (T.1, (20, .inl (fun _ => (0 : Int32)))))] := hD
  refine lv_aload_n hx hb dX1_init_20 rfl (lv_at hl 0 rfl) ?_
  refine lv_bipush (v := (20 : Int32)) hx hb dX1_init_21 (by decide) ?_
  refine va_newa (atype := .int) (ty := .int) (N' := 20) (a0 := (20, .inl (fun _ => (0 : Int32)))) hx hb (hts (.arrayClass .int) mw_X1_init_4) rfl hK hP hD hS hA (fun _ => rfl) (by decide) (by decide) (by decide) (Nat.le_of_ble_eq_true rfl) (Nat.le_of_ble_eq_true rfl) dX1_init_23 (fun q23 cA H hK9 hP hD hS => ?_)
  obtain rfl : cA = T.1 := tyOne hK9 0 rfl
  have hP : va_P D vwCl [(d_a, .inr (1, [.ref q7, .ref q15, .null, .null, .int (0 : Int32), .int (0 : Int32)])), (q7, .inl (T.1, (16, .inl (fun _ => (0 : Int32))))), (q15, .inl (T.1, (20, .inl (fun _ => (0 : Int32))))), (q23, .inl (T.1, (20, .inl (fun _ => (0 : Int32)))))] H := hP
  have hD : va_D A [(d_a, .inr (1, [.ref q7, .ref q15, .null, .null, .int (0 : Int32), .int (0 : Int32)])), (q7, .inl (T.1, (16, .inl (fun _ => (0 : Int32))))), (q15, .inl (T.1, (20, .inl (fun _ => (0 : Int32))))), (q23, .inl (T.1, (20, .inl (fun _ => (0 : Int32)))))] := hD
  refine W.widen (k := 3) (n := 56) (by decide) (by decide) ?_
  refine va_putF (D := D) (ci := 1) (v := .ref q23) (ty := .array .int) (C := RX1) (T := TX1) (N := 6) hx hb hts iw_X1_init_X1 tyX1 tyX1_ok nmX1 hown hK hP hD hS 0 rfl rfl 2 (by decide) (hts (.fieldLink RX1 18 "RibbonPosts$Drawing" "tos" "[I") mw_X1_init_2) (fun _ h9 => h9) rfl hin rfl (by decide +kernel) rfl rfl (Nat.le_of_ble_eq_true rfl) dX1_init_25 (fun H locs hP hD hS => ?_)
  have hP : va_P D vwCl [(d_a, .inr (1, [.ref q7, .ref q15, .ref q23, .null, .int (0 : Int32), .int (0 : Int32)])), (q7, .inl (T.1, (16, .inl (fun _ => (0 : Int32))))), (q15, .inl (T.1, (20, .inl (fun _ => (0 : Int32))))), (q23, .inl (T.1, (20, .inl (fun _ => (0 : Int32)))))] H := hP
  have hD : va_D A [(d_a, .inr (1, [.ref q7, .ref q15, .ref q23, .null, .int (0 : Int32), .int (0 : Int32)])), (q7, .inl (T.1, (16, .inl (fun _ => (0 : Int32))))), (q15, .inl (T.1, (20, .inl (fun _ => (0 : Int32))))), (q23, .inl (T.1, (20, .inl (fun _ => (0 : Int32)))))] := hD
  refine lv_aload_n hx hb dX1_init_28 rfl (lv_at hl 0 rfl) ?_
  refine lv_bipush (v := (20 : Int32)) hx hb dX1_init_29 (by decide) ?_
  refine va_newa (atype := .int) (ty := .int) (N' := 20) (a0 := (20, .inl (fun _ => (0 : Int32)))) hx hb (hts (.arrayClass .int) mw_X1_init_4) rfl hK hP hD hS hA (fun _ => rfl) (by decide) (by decide) (by decide) (Nat.le_of_ble_eq_true rfl) (Nat.le_of_ble_eq_true rfl) dX1_init_31 (fun q31 cA H hK9 hP hD hS => ?_)
  obtain rfl : cA = T.1 := tyOne hK9 0 rfl
  have hP : va_P D vwCl [(d_a, .inr (1, [.ref q7, .ref q15, .ref q23, .null, .int (0 : Int32), .int (0 : Int32)])), (q7, .inl (T.1, (16, .inl (fun _ => (0 : Int32))))), (q15, .inl (T.1, (20, .inl (fun _ => (0 : Int32))))), (q23, .inl (T.1, (20, .inl (fun _ => (0 : Int32))))), (q31, .inl (T.1, (20, .inl (fun _ => (0 : Int32)))))] H := hP
  have hD : va_D A [(d_a, .inr (1, [.ref q7, .ref q15, .ref q23, .null, .int (0 : Int32), .int (0 : Int32)])), (q7, .inl (T.1, (16, .inl (fun _ => (0 : Int32))))), (q15, .inl (T.1, (20, .inl (fun _ => (0 : Int32))))), (q23, .inl (T.1, (20, .inl (fun _ => (0 : Int32))))), (q31, .inl (T.1, (20, .inl (fun _ => (0 : Int32)))))] := hD
  refine W.widen (k := 4) (n := 76) (by decide) (by decide) ?_
  refine va_putF (D := D) (ci := 1) (v := .ref q31) (ty := .array .int) (C := RX1) (T := TX1) (N := 6) hx hb hts iw_X1_init_X1 tyX1 tyX1_ok nmX1 hown hK hP hD hS 0 rfl rfl 3 (by decide) (hts (.fieldLink RX1 21 "RibbonPosts$Drawing" "widths" "[I") mw_X1_init_3) (fun _ h9 => h9) rfl hin rfl (by decide +kernel) rfl rfl (Nat.le_of_ble_eq_true rfl) dX1_init_33 (fun H locs hP hD hS => ?_)
  have hP : va_P D vwCl [(d_a, .inr (1, [.ref q7, .ref q15, .ref q23, .ref q31, .int (0 : Int32), .int (0 : Int32)])), (q7, .inl (T.1, (16, .inl (fun _ => (0 : Int32))))), (q15, .inl (T.1, (20, .inl (fun _ => (0 : Int32))))), (q23, .inl (T.1, (20, .inl (fun _ => (0 : Int32))))), (q31, .inl (T.1, (20, .inl (fun _ => (0 : Int32)))))] H := hP
  have hD : va_D A [(d_a, .inr (1, [.ref q7, .ref q15, .ref q23, .ref q31, .int (0 : Int32), .int (0 : Int32)])), (q7, .inl (T.1, (16, .inl (fun _ => (0 : Int32))))), (q15, .inl (T.1, (20, .inl (fun _ => (0 : Int32))))), (q23, .inl (T.1, (20, .inl (fun _ => (0 : Int32))))), (q31, .inl (T.1, (20, .inl (fun _ => (0 : Int32)))))] := hD
  refine lv_iconst (v := (0 : Int32)) hx hb dX1_init_36 (by decide) ?_
  refine lv_istore_n (lv' := [(1, .int (0 : Int32)), (0, .ref d_a)]) hx hb dX1_init_37 rfl hl (by decide) rfl (fun ls hl => ?_)
  exact w_X1_init_b38 C ⟨hin, hA⟩ _ _ _ hf _ _ hP hD hS _ (lv_sub hl [1, 0] rfl)
theorem c_X1_init (l : Launch) (D : va_G) (T : TY) (d_a : Nat) (res : (Nat → Int32)) (hf : f_X1_init = some res) (sz : Nat) : Met l yX1_init wsX1_init rmX1_init (va_Pc [.ref d_a] (PM D T [(d_a, .inr (1, [.null, .null, .null, .null, .int (0 : Int32), .int (0 : Int32)]))] sz)) (Qm none D (fun W9 => ∃ q7 q15 q23 q31 : Nat, W9 = [(d_a, .inr (1, [.ref q7, .ref q15, .ref q23, .ref q31, .int (0 : Int32), .int (0 : Int32)])), (q7, .inl (T.1, (16, .inl res))), (q15, .inl (T.1, (20, .inl (fun _ => (0 : Int32))))), (q23, .inl (T.1, (20, .inl (fun _ => (0 : Int32))))), (q31, .inl (T.1, (20, .inl (fun _ => (0 : Int32)))))]) (va_A [(d_a, .inr (1, [.null, .null, .null, .null, .int (0 : Int32), .int (0 : Int32)]))] sz)) 4 76 (va_A [(d_a, .inr (1, [.null, .null, .null, .null, .int (0 : Int32), .int (0 : Int32)]))] sz) :=
  metM_of (by decide +kernel) rfl (Nat.le_of_ble_eq_true rfl) (fun p e s m args below meth c C hnm A hA hP hD ls hl => w_X1_init_b0 C ⟨hnm, hA⟩ hf _ _ hP hD va_S.rf ls hl)
def rmX1_copyFrom : Room := { frames := 1, cells := 0, slots := 0, locals := 40 }
theorem hdV_X1_copyFrom : yX1_copyFrom.cls = RX1 ∧ yX1_copyFrom.cls ≠ "java/lang/invoke/MethodHandle" ∧ yX1_copyFrom.cls ≠ "java/lang/invoke/VarHandle" ∧ (parseMethodDescriptor yX1_copyFrom.desc).map (fun d => d.parameters.length) = some 1 := by decide +kernel
theorem iw_X1_copyFrom_X1 : ∀ w ∈ wsX10, w ∈ wsX1_copyFrom := by decide +kernel
theorem mw_X1_copyFrom_0 : Cond.fieldLink RX1 9 "RibbonPosts$Drawing" "places" "[I" ∈ wsX1_copyFrom := by decide +kernel
theorem mw_X1_copyFrom_1 : Cond.fieldLink RX1 15 "RibbonPosts$Drawing" "froms" "[I" ∈ wsX1_copyFrom := by decide +kernel
theorem mw_X1_copyFrom_2 : Cond.fieldLink RX1 18 "RibbonPosts$Drawing" "tos" "[I" ∈ wsX1_copyFrom := by decide +kernel
theorem mw_X1_copyFrom_3 : Cond.fieldLink RX1 21 "RibbonPosts$Drawing" "widths" "[I" ∈ wsX1_copyFrom := by decide +kernel
theorem mw_X1_copyFrom_4 : Cond.fieldLink RX1 30 "RibbonPosts$Drawing" "ribbons" "I" ∈ wsX1_copyFrom := by decide +kernel
theorem mw_X1_copyFrom_5 : Cond.fieldLink RX1 34 "RibbonPosts$Drawing" "trimmed" "I" ∈ wsX1_copyFrom := by decide +kernel
theorem mw_X1_copyFrom_6 : Cond.methodLink RX1 24 arraycopyName ∈ wsX1_copyFrom := by decide +kernel
theorem mw_X1_copyFrom_7 : Cond.native arraycopyName ∈ wsX1_copyFrom := by decide +kernel
theorem mw_X1_copyFrom_8 : Cond.static arraycopyName ∈ wsX1_copyFrom := by decide +kernel
theorem mw_X1_copyFrom_9 : Cond.initialized "java/lang/System" ∈ wsX1_copyFrom := by decide +kernel
set_option maxHeartbeats 4000000 in
set_option maxRecDepth 100000 in
theorem w_X1_copyFrom_b0 {p : Program} {l : Launch} {e : Env} {s : State} {m : MethodId} {args : Array Value} {below : List Frame} {meth : Method} {c : Code} {D : va_G} {T : TY} {d_a d_places_a d_froms_a d_tos_a d_widths_a e_a e_places_a e_froms_a e_tos_a e_widths_a : Nat} {e_places : Nat → Int32} {e_froms : Nat → Int32} {e_tos : Nat → Int32} {e_widths : Nat → Int32} {e_ribbons : Int32} {e_trimmed : Int32} {res : (Nat → Int32) × (Nat → Int32) × (Nat → Int32) × (Nat → Int32) × Int32 × Int32} {A : Nat → Prop} (C : CX p s m args meth c cX1_copyFrom 2 RX1 wsX1_copyFrom none D T) (hA : ∀ q, s.heap.size ≤ q → A q) : ∀ d_places : Nat → Int32, ∀ d_froms : Nat → Int32, ∀ d_tos : Nat → Int32, ∀ d_widths : Nat → Int32, ∀ d_ribbons : Int32, ∀ d_trimmed : Int32, f_X1_copyFrom e_places e_froms e_tos e_widths e_ribbons e_trimmed d_places d_froms d_tos d_widths d_ribbons d_trimmed = some res → ∀ (H : Heap) (locs : List Loc), va_P D vwCl [(d_a, .inr (1, [.ref d_places_a, .ref d_froms_a, .ref d_tos_a, .ref d_widths_a, .int d_ribbons, .int d_trimmed])), (d_places_a, .inl (T.1, (16, .inl d_places))), (d_froms_a, .inl (T.1, (20, .inl d_froms))), (d_tos_a, .inl (T.1, (20, .inl d_tos))), (d_widths_a, .inl (T.1, (20, .inl d_widths))), (e_a, .inr (1, [.ref e_places_a, .ref e_froms_a, .ref e_tos_a, .ref e_widths_a, .int e_ribbons, .int e_trimmed])), (e_places_a, .inl (T.1, (16, .inl e_places))), (e_froms_a, .inl (T.1, (20, .inl e_froms))), (e_tos_a, .inl (T.1, (20, .inl e_tos))), (e_widths_a, .inl (T.1, (20, .inl e_widths)))] H → va_D A [(d_a, .inr (1, [.ref d_places_a, .ref d_froms_a, .ref d_tos_a, .ref d_widths_a, .int d_ribbons, .int d_trimmed])), (d_places_a, .inl (T.1, (16, .inl d_places))), (d_froms_a, .inl (T.1, (20, .inl d_froms))), (d_tos_a, .inl (T.1, (20, .inl d_tos))), (d_widths_a, .inl (T.1, (20, .inl d_widths))), (e_a, .inr (1, [.ref e_places_a, .ref e_froms_a, .ref e_tos_a, .ref e_widths_a, .int e_ribbons, .int e_trimmed])), (e_places_a, .inl (T.1, (16, .inl e_places))), (e_froms_a, .inl (T.1, (20, .inl e_froms))), (e_tos_a, .inl (T.1, (20, .inl e_tos))), (e_widths_a, .inl (T.1, (20, .inl e_widths)))] → va_S A s.heap H locs → ∀ ls : Array Slot, lv_has ls 2 [(0, .ref d_a), (1, .ref e_a)] → W p l e rmX1_copyFrom s m args below meth c H locs 0 0 (MQ below (Qm none D (fun W9 => W9 = [(d_a, .inr (1, [.ref d_places_a, .ref d_froms_a, .ref d_tos_a, .ref d_widths_a, .int res.2.2.2.2.1, .int res.2.2.2.2.2])), (d_places_a, .inl (T.1, (16, .inl res.1))), (d_froms_a, .inl (T.1, (20, .inl res.2.1))), (d_tos_a, .inl (T.1, (20, .inl res.2.2.1))), (d_widths_a, .inl (T.1, (20, .inl res.2.2.2.1))), (e_a, .inr (1, [.ref e_places_a, .ref e_froms_a, .ref e_tos_a, .ref e_widths_a, .int e_ribbons, .int e_trimmed])), (e_places_a, .inl (T.1, (16, .inl e_places))), (e_froms_a, .inl (T.1, (20, .inl e_froms))), (e_tos_a, .inl (T.1, (20, .inl e_tos))), (e_widths_a, .inl (T.1, (20, .inl e_widths)))]) A) args s 0 0 A) (F0 m 0 ls []) := by
  obtain ⟨hx, hb, hml, hown, hts, hr, hlocks, hK, hN⟩ := id C
  intro d_places d_froms d_tos d_widths d_ribbons d_trimmed hf H locs hP hD hS ls hl
  unfold f_X1_copyFrom at hf
  refine lv_aload_n hx hb dX1_copyFrom_0 rfl (lv_at hl 1 rfl) ?_
  refine lv_ifnonnull (tgt := 5) hx hb dX1_copyFrom_1 (by decide) ?_
  refine lv_aload_n hx hb dX1_copyFrom_5 rfl (lv_at hl 1 rfl) ?_
  refine va_get (D := D) (ci := 1) (v := .ref e_places_a) (C := RX1) (T := TX1) (N := 6) hx hb hts iw_X1_copyFrom_X1 hown hK hP 5 rfl rfl 0 (by decide) (hts (.fieldLink RX1 9 "RibbonPosts$Drawing" "places" "[I") mw_X1_copyFrom_0) (fun _ h9 => h9) rfl dX1_copyFrom_6 ?_
  refine lv_iconst (v := (0 : Int32)) hx hb dX1_copyFrom_9 (by decide) ?_
  refine lv_aload_n hx hb dX1_copyFrom_10 rfl (lv_at hl 0 rfl) ?_
  refine va_get (D := D) (ci := 1) (v := .ref d_places_a) (C := RX1) (T := TX1) (N := 6) hx hb hts iw_X1_copyFrom_X1 hown hK hP 0 rfl rfl 0 (by decide) (hts (.fieldLink RX1 9 "RibbonPosts$Drawing" "places" "[I") mw_X1_copyFrom_0) (fun _ h9 => h9) rfl dX1_copyFrom_11 ?_
  refine lv_iconst (v := (0 : Int32)) hx hb dX1_copyFrom_14 (by decide) ?_
  refine lv_bipush (v := (16 : Int32)) hx hb dX1_copyFrom_15 (by decide) ?_
  refine va_copyi (D := D) hx hb (by rw [hml]; exact hl.1.symm) hown (hts (.methodLink RX1 24 arraycopyName) mw_X1_copyFrom_6) (hts (.native arraycopyName) mw_X1_copyFrom_7) (hts (.static arraycopyName) mw_X1_copyFrom_8) (hts (.initialized "java/lang/System") mw_X1_copyFrom_9) hK hP hD hS 6 1 0 0 rfl rfl rfl rfl rfl (by decide) (by decide) (by decide) (by decide) (by decide) (fun _ _ => rfl) (Nat.le_of_ble_eq_true rfl) (Nat.le_of_ble_eq_true (by decide +kernel)) dX1_copyFrom_17 (fun H locs hP hD hS => ?_)
  have hP : va_P D vwCl [(d_a, .inr (1, [.ref d_places_a, .ref d_froms_a, .ref d_tos_a, .ref d_widths_a, .int d_ribbons, .int d_trimmed])), (d_places_a, .inl (T.1, (16, .inl (va_cpy e_places d_places (0 : Int32).toNatClampNeg (0 : Int32).toNatClampNeg (16 : Int32).toNatClampNeg)))), (d_froms_a, .inl (T.1, (20, .inl d_froms))), (d_tos_a, .inl (T.1, (20, .inl d_tos))), (d_widths_a, .inl (T.1, (20, .inl d_widths))), (e_a, .inr (1, [.ref e_places_a, .ref e_froms_a, .ref e_tos_a, .ref e_widths_a, .int e_ribbons, .int e_trimmed])), (e_places_a, .inl (T.1, (16, .inl e_places))), (e_froms_a, .inl (T.1, (20, .inl e_froms))), (e_tos_a, .inl (T.1, (20, .inl e_tos))), (e_widths_a, .inl (T.1, (20, .inl e_widths)))] H := hP
  have hD : va_D A [(d_a, .inr (1, [.ref d_places_a, .ref d_froms_a, .ref d_tos_a, .ref d_widths_a, .int d_ribbons, .int d_trimmed])), (d_places_a, .inl (T.1, (16, .inl (va_cpy e_places d_places (0 : Int32).toNatClampNeg (0 : Int32).toNatClampNeg (16 : Int32).toNatClampNeg)))), (d_froms_a, .inl (T.1, (20, .inl d_froms))), (d_tos_a, .inl (T.1, (20, .inl d_tos))), (d_widths_a, .inl (T.1, (20, .inl d_widths))), (e_a, .inr (1, [.ref e_places_a, .ref e_froms_a, .ref e_tos_a, .ref e_widths_a, .int e_ribbons, .int e_trimmed])), (e_places_a, .inl (T.1, (16, .inl e_places))), (e_froms_a, .inl (T.1, (20, .inl e_froms))), (e_tos_a, .inl (T.1, (20, .inl e_tos))), (e_widths_a, .inl (T.1, (20, .inl e_widths)))] := hD
  refine lv_aload_n hx hb dX1_copyFrom_20 rfl (lv_at hl 1 rfl) ?_
  refine va_get (D := D) (ci := 1) (v := .ref e_froms_a) (C := RX1) (T := TX1) (N := 6) hx hb hts iw_X1_copyFrom_X1 hown hK hP 5 rfl rfl 1 (by decide) (hts (.fieldLink RX1 15 "RibbonPosts$Drawing" "froms" "[I") mw_X1_copyFrom_1) (fun _ h9 => h9) rfl dX1_copyFrom_21 ?_
  refine lv_iconst (v := (0 : Int32)) hx hb dX1_copyFrom_24 (by decide) ?_
  refine lv_aload_n hx hb dX1_copyFrom_25 rfl (lv_at hl 0 rfl) ?_
  refine va_get (D := D) (ci := 1) (v := .ref d_froms_a) (C := RX1) (T := TX1) (N := 6) hx hb hts iw_X1_copyFrom_X1 hown hK hP 0 rfl rfl 1 (by decide) (hts (.fieldLink RX1 15 "RibbonPosts$Drawing" "froms" "[I") mw_X1_copyFrom_1) (fun _ h9 => h9) rfl dX1_copyFrom_26 ?_
  refine lv_iconst (v := (0 : Int32)) hx hb dX1_copyFrom_29 (by decide) ?_
  refine lv_bipush (v := (20 : Int32)) hx hb dX1_copyFrom_30 (by decide) ?_
  refine va_copyi (D := D) hx hb (by rw [hml]; exact hl.1.symm) hown (hts (.methodLink RX1 24 arraycopyName) mw_X1_copyFrom_6) (hts (.native arraycopyName) mw_X1_copyFrom_7) (hts (.static arraycopyName) mw_X1_copyFrom_8) (hts (.initialized "java/lang/System") mw_X1_copyFrom_9) hK hP hD hS 7 2 0 0 rfl rfl rfl rfl rfl (by decide) (by decide) (by decide) (by decide) (by decide) (fun _ _ => rfl) (Nat.le_of_ble_eq_true rfl) (Nat.le_of_ble_eq_true (by decide +kernel)) dX1_copyFrom_32 (fun H locs hP hD hS => ?_)
  have hP : va_P D vwCl [(d_a, .inr (1, [.ref d_places_a, .ref d_froms_a, .ref d_tos_a, .ref d_widths_a, .int d_ribbons, .int d_trimmed])), (d_places_a, .inl (T.1, (16, .inl (va_cpy e_places d_places (0 : Int32).toNatClampNeg (0 : Int32).toNatClampNeg (16 : Int32).toNatClampNeg)))), (d_froms_a, .inl (T.1, (20, .inl (va_cpy e_froms d_froms (0 : Int32).toNatClampNeg (0 : Int32).toNatClampNeg (20 : Int32).toNatClampNeg)))), (d_tos_a, .inl (T.1, (20, .inl d_tos))), (d_widths_a, .inl (T.1, (20, .inl d_widths))), (e_a, .inr (1, [.ref e_places_a, .ref e_froms_a, .ref e_tos_a, .ref e_widths_a, .int e_ribbons, .int e_trimmed])), (e_places_a, .inl (T.1, (16, .inl e_places))), (e_froms_a, .inl (T.1, (20, .inl e_froms))), (e_tos_a, .inl (T.1, (20, .inl e_tos))), (e_widths_a, .inl (T.1, (20, .inl e_widths)))] H := hP
  have hD : va_D A [(d_a, .inr (1, [.ref d_places_a, .ref d_froms_a, .ref d_tos_a, .ref d_widths_a, .int d_ribbons, .int d_trimmed])), (d_places_a, .inl (T.1, (16, .inl (va_cpy e_places d_places (0 : Int32).toNatClampNeg (0 : Int32).toNatClampNeg (16 : Int32).toNatClampNeg)))), (d_froms_a, .inl (T.1, (20, .inl (va_cpy e_froms d_froms (0 : Int32).toNatClampNeg (0 : Int32).toNatClampNeg (20 : Int32).toNatClampNeg)))), (d_tos_a, .inl (T.1, (20, .inl d_tos))), (d_widths_a, .inl (T.1, (20, .inl d_widths))), (e_a, .inr (1, [.ref e_places_a, .ref e_froms_a, .ref e_tos_a, .ref e_widths_a, .int e_ribbons, .int e_trimmed])), (e_places_a, .inl (T.1, (16, .inl e_places))), (e_froms_a, .inl (T.1, (20, .inl e_froms))), (e_tos_a, .inl (T.1, (20, .inl e_tos))), (e_widths_a, .inl (T.1, (20, .inl e_widths)))] := hD
  refine lv_aload_n hx hb dX1_copyFrom_35 rfl (lv_at hl 1 rfl) ?_
  refine va_get (D := D) (ci := 1) (v := .ref e_tos_a) (C := RX1) (T := TX1) (N := 6) hx hb hts iw_X1_copyFrom_X1 hown hK hP 5 rfl rfl 2 (by decide) (hts (.fieldLink RX1 18 "RibbonPosts$Drawing" "tos" "[I") mw_X1_copyFrom_2) (fun _ h9 => h9) rfl dX1_copyFrom_36 ?_
  refine lv_iconst (v := (0 : Int32)) hx hb dX1_copyFrom_39 (by decide) ?_
  refine lv_aload_n hx hb dX1_copyFrom_40 rfl (lv_at hl 0 rfl) ?_
  refine va_get (D := D) (ci := 1) (v := .ref d_tos_a) (C := RX1) (T := TX1) (N := 6) hx hb hts iw_X1_copyFrom_X1 hown hK hP 0 rfl rfl 2 (by decide) (hts (.fieldLink RX1 18 "RibbonPosts$Drawing" "tos" "[I") mw_X1_copyFrom_2) (fun _ h9 => h9) rfl dX1_copyFrom_41 ?_
  refine lv_iconst (v := (0 : Int32)) hx hb dX1_copyFrom_44 (by decide) ?_
  refine lv_bipush (v := (20 : Int32)) hx hb dX1_copyFrom_45 (by decide) ?_
  refine va_copyi (D := D) hx hb (by rw [hml]; exact hl.1.symm) hown (hts (.methodLink RX1 24 arraycopyName) mw_X1_copyFrom_6) (hts (.native arraycopyName) mw_X1_copyFrom_7) (hts (.static arraycopyName) mw_X1_copyFrom_8) (hts (.initialized "java/lang/System") mw_X1_copyFrom_9) hK hP hD hS 8 3 0 0 rfl rfl rfl rfl rfl (by decide) (by decide) (by decide) (by decide) (by decide) (fun _ _ => rfl) (Nat.le_of_ble_eq_true rfl) (Nat.le_of_ble_eq_true (by decide +kernel)) dX1_copyFrom_47 (fun H locs hP hD hS => ?_)
  have hP : va_P D vwCl [(d_a, .inr (1, [.ref d_places_a, .ref d_froms_a, .ref d_tos_a, .ref d_widths_a, .int d_ribbons, .int d_trimmed])), (d_places_a, .inl (T.1, (16, .inl (va_cpy e_places d_places (0 : Int32).toNatClampNeg (0 : Int32).toNatClampNeg (16 : Int32).toNatClampNeg)))), (d_froms_a, .inl (T.1, (20, .inl (va_cpy e_froms d_froms (0 : Int32).toNatClampNeg (0 : Int32).toNatClampNeg (20 : Int32).toNatClampNeg)))), (d_tos_a, .inl (T.1, (20, .inl (va_cpy e_tos d_tos (0 : Int32).toNatClampNeg (0 : Int32).toNatClampNeg (20 : Int32).toNatClampNeg)))), (d_widths_a, .inl (T.1, (20, .inl d_widths))), (e_a, .inr (1, [.ref e_places_a, .ref e_froms_a, .ref e_tos_a, .ref e_widths_a, .int e_ribbons, .int e_trimmed])), (e_places_a, .inl (T.1, (16, .inl e_places))), (e_froms_a, .inl (T.1, (20, .inl e_froms))), (e_tos_a, .inl (T.1, (20, .inl e_tos))), (e_widths_a, .inl (T.1, (20, .inl e_widths)))] H := hP
  have hD : va_D A [(d_a, .inr (1, [.ref d_places_a, .ref d_froms_a, .ref d_tos_a, .ref d_widths_a, .int d_ribbons, .int d_trimmed])), (d_places_a, .inl (T.1, (16, .inl (va_cpy e_places d_places (0 : Int32).toNatClampNeg (0 : Int32).toNatClampNeg (16 : Int32).toNatClampNeg)))), (d_froms_a, .inl (T.1, (20, .inl (va_cpy e_froms d_froms (0 : Int32).toNatClampNeg (0 : Int32).toNatClampNeg (20 : Int32).toNatClampNeg)))), (d_tos_a, .inl (T.1, (20, .inl (va_cpy e_tos d_tos (0 : Int32).toNatClampNeg (0 : Int32).toNatClampNeg (20 : Int32).toNatClampNeg)))), (d_widths_a, .inl (T.1, (20, .inl d_widths))), (e_a, .inr (1, [.ref e_places_a, .ref e_froms_a, .ref e_tos_a, .ref e_widths_a, .int e_ribbons, .int e_trimmed])), (e_places_a, .inl (T.1, (16, .inl e_places))), (e_froms_a, .inl (T.1, (20, .inl e_froms))), (e_tos_a, .inl (T.1, (20, .inl e_tos))), (e_widths_a, .inl (T.1, (20, .inl e_widths)))] := hD
  refine lv_aload_n hx hb dX1_copyFrom_50 rfl (lv_at hl 1 rfl) ?_
  refine va_get (D := D) (ci := 1) (v := .ref e_widths_a) (C := RX1) (T := TX1) (N := 6) hx hb hts iw_X1_copyFrom_X1 hown hK hP 5 rfl rfl 3 (by decide) (hts (.fieldLink RX1 21 "RibbonPosts$Drawing" "widths" "[I") mw_X1_copyFrom_3) (fun _ h9 => h9) rfl dX1_copyFrom_51 ?_
  refine lv_iconst (v := (0 : Int32)) hx hb dX1_copyFrom_54 (by decide) ?_
  refine lv_aload_n hx hb dX1_copyFrom_55 rfl (lv_at hl 0 rfl) ?_
  refine va_get (D := D) (ci := 1) (v := .ref d_widths_a) (C := RX1) (T := TX1) (N := 6) hx hb hts iw_X1_copyFrom_X1 hown hK hP 0 rfl rfl 3 (by decide) (hts (.fieldLink RX1 21 "RibbonPosts$Drawing" "widths" "[I") mw_X1_copyFrom_3) (fun _ h9 => h9) rfl dX1_copyFrom_56 ?_
  refine lv_iconst (v := (0 : Int32)) hx hb dX1_copyFrom_59 (by decide) ?_
  refine lv_bipush (v := (20 : Int32)) hx hb dX1_copyFrom_60 (by decide) ?_
  refine va_copyi (D := D) hx hb (by rw [hml]; exact hl.1.symm) hown (hts (.methodLink RX1 24 arraycopyName) mw_X1_copyFrom_6) (hts (.native arraycopyName) mw_X1_copyFrom_7) (hts (.static arraycopyName) mw_X1_copyFrom_8) (hts (.initialized "java/lang/System") mw_X1_copyFrom_9) hK hP hD hS 9 4 0 0 rfl rfl rfl rfl rfl (by decide) (by decide) (by decide) (by decide) (by decide) (fun _ _ => rfl) (Nat.le_of_ble_eq_true rfl) (Nat.le_of_ble_eq_true (by decide +kernel)) dX1_copyFrom_62 (fun H locs hP hD hS => ?_)
  have hP : va_P D vwCl [(d_a, .inr (1, [.ref d_places_a, .ref d_froms_a, .ref d_tos_a, .ref d_widths_a, .int d_ribbons, .int d_trimmed])), (d_places_a, .inl (T.1, (16, .inl (va_cpy e_places d_places (0 : Int32).toNatClampNeg (0 : Int32).toNatClampNeg (16 : Int32).toNatClampNeg)))), (d_froms_a, .inl (T.1, (20, .inl (va_cpy e_froms d_froms (0 : Int32).toNatClampNeg (0 : Int32).toNatClampNeg (20 : Int32).toNatClampNeg)))), (d_tos_a, .inl (T.1, (20, .inl (va_cpy e_tos d_tos (0 : Int32).toNatClampNeg (0 : Int32).toNatClampNeg (20 : Int32).toNatClampNeg)))), (d_widths_a, .inl (T.1, (20, .inl (va_cpy e_widths d_widths (0 : Int32).toNatClampNeg (0 : Int32).toNatClampNeg (20 : Int32).toNatClampNeg)))), (e_a, .inr (1, [.ref e_places_a, .ref e_froms_a, .ref e_tos_a, .ref e_widths_a, .int e_ribbons, .int e_trimmed])), (e_places_a, .inl (T.1, (16, .inl e_places))), (e_froms_a, .inl (T.1, (20, .inl e_froms))), (e_tos_a, .inl (T.1, (20, .inl e_tos))), (e_widths_a, .inl (T.1, (20, .inl e_widths)))] H := hP
  have hD : va_D A [(d_a, .inr (1, [.ref d_places_a, .ref d_froms_a, .ref d_tos_a, .ref d_widths_a, .int d_ribbons, .int d_trimmed])), (d_places_a, .inl (T.1, (16, .inl (va_cpy e_places d_places (0 : Int32).toNatClampNeg (0 : Int32).toNatClampNeg (16 : Int32).toNatClampNeg)))), (d_froms_a, .inl (T.1, (20, .inl (va_cpy e_froms d_froms (0 : Int32).toNatClampNeg (0 : Int32).toNatClampNeg (20 : Int32).toNatClampNeg)))), (d_tos_a, .inl (T.1, (20, .inl (va_cpy e_tos d_tos (0 : Int32).toNatClampNeg (0 : Int32).toNatClampNeg (20 : Int32).toNatClampNeg)))), (d_widths_a, .inl (T.1, (20, .inl (va_cpy e_widths d_widths (0 : Int32).toNatClampNeg (0 : Int32).toNatClampNeg (20 : Int32).toNatClampNeg)))), (e_a, .inr (1, [.ref e_places_a, .ref e_froms_a, .ref e_tos_a, .ref e_widths_a, .int e_ribbons, .int e_trimmed])), (e_places_a, .inl (T.1, (16, .inl e_places))), (e_froms_a, .inl (T.1, (20, .inl e_froms))), (e_tos_a, .inl (T.1, (20, .inl e_tos))), (e_widths_a, .inl (T.1, (20, .inl e_widths)))] := hD
  refine lv_aload_n hx hb dX1_copyFrom_65 rfl (lv_at hl 0 rfl) ?_
  refine lv_aload_n hx hb dX1_copyFrom_66 rfl (lv_at hl 1 rfl) ?_
  refine va_get (D := D) (ci := 1) (v := .int e_ribbons) (C := RX1) (T := TX1) (N := 6) hx hb hts iw_X1_copyFrom_X1 hown hK hP 5 rfl rfl 4 (by decide) (hts (.fieldLink RX1 30 "RibbonPosts$Drawing" "ribbons" "I") mw_X1_copyFrom_4) (fun _ h9 => h9) rfl dX1_copyFrom_67 ?_
  refine va_put (D := D) (ci := 1) (v := .int e_ribbons) (ty := .int) (C := RX1) (T := TX1) (N := 6) hx hb hts iw_X1_copyFrom_X1 tyX1 tyX1_ok nmX1 hown hK hP hD hS 0 rfl rfl 4 (by decide) (hts (.fieldLink RX1 30 "RibbonPosts$Drawing" "ribbons" "I") mw_X1_copyFrom_4) (fun _ h9 => h9) rfl (by decide +kernel) rfl rfl (Nat.le_of_ble_eq_true rfl) dX1_copyFrom_70 (fun H locs hP hD hS => ?_)
  have hP : va_P D vwCl [(d_a, .inr (1, [.ref d_places_a, .ref d_froms_a, .ref d_tos_a, .ref d_widths_a, .int e_ribbons, .int d_trimmed])), (d_places_a, .inl (T.1, (16, .inl (va_cpy e_places d_places (0 : Int32).toNatClampNeg (0 : Int32).toNatClampNeg (16 : Int32).toNatClampNeg)))), (d_froms_a, .inl (T.1, (20, .inl (va_cpy e_froms d_froms (0 : Int32).toNatClampNeg (0 : Int32).toNatClampNeg (20 : Int32).toNatClampNeg)))), (d_tos_a, .inl (T.1, (20, .inl (va_cpy e_tos d_tos (0 : Int32).toNatClampNeg (0 : Int32).toNatClampNeg (20 : Int32).toNatClampNeg)))), (d_widths_a, .inl (T.1, (20, .inl (va_cpy e_widths d_widths (0 : Int32).toNatClampNeg (0 : Int32).toNatClampNeg (20 : Int32).toNatClampNeg)))), (e_a, .inr (1, [.ref e_places_a, .ref e_froms_a, .ref e_tos_a, .ref e_widths_a, .int e_ribbons, .int e_trimmed])), (e_places_a, .inl (T.1, (16, .inl e_places))), (e_froms_a, .inl (T.1, (20, .inl e_froms))), (e_tos_a, .inl (T.1, (20, .inl e_tos))), (e_widths_a, .inl (T.1, (20, .inl e_widths)))] H := hP
  have hD : va_D A [(d_a, .inr (1, [.ref d_places_a, .ref d_froms_a, .ref d_tos_a, .ref d_widths_a, .int e_ribbons, .int d_trimmed])), (d_places_a, .inl (T.1, (16, .inl (va_cpy e_places d_places (0 : Int32).toNatClampNeg (0 : Int32).toNatClampNeg (16 : Int32).toNatClampNeg)))), (d_froms_a, .inl (T.1, (20, .inl (va_cpy e_froms d_froms (0 : Int32).toNatClampNeg (0 : Int32).toNatClampNeg (20 : Int32).toNatClampNeg)))), (d_tos_a, .inl (T.1, (20, .inl (va_cpy e_tos d_tos (0 : Int32).toNatClampNeg (0 : Int32).toNatClampNeg (20 : Int32).toNatClampNeg)))), (d_widths_a, .inl (T.1, (20, .inl (va_cpy e_widths d_widths (0 : Int32).toNatClampNeg (0 : Int32).toNatClampNeg (20 : Int32).toNatClampNeg)))), (e_a, .inr (1, [.ref e_places_a, .ref e_froms_a, .ref e_tos_a, .ref e_widths_a, .int e_ribbons, .int e_trimmed])), (e_places_a, .inl (T.1, (16, .inl e_places))), (e_froms_a, .inl (T.1, (20, .inl e_froms))), (e_tos_a, .inl (T.1, (20, .inl e_tos))), (e_widths_a, .inl (T.1, (20, .inl e_widths)))] := hD
  refine lv_aload_n hx hb dX1_copyFrom_73 rfl (lv_at hl 0 rfl) ?_
  refine lv_aload_n hx hb dX1_copyFrom_74 rfl (lv_at hl 1 rfl) ?_
  refine va_get (D := D) (ci := 1) (v := .int e_trimmed) (C := RX1) (T := TX1) (N := 6) hx hb hts iw_X1_copyFrom_X1 hown hK hP 5 rfl rfl 5 (by decide) (hts (.fieldLink RX1 34 "RibbonPosts$Drawing" "trimmed" "I") mw_X1_copyFrom_5) (fun _ h9 => h9) rfl dX1_copyFrom_75 ?_
  refine va_put (D := D) (ci := 1) (v := .int e_trimmed) (ty := .int) (C := RX1) (T := TX1) (N := 6) hx hb hts iw_X1_copyFrom_X1 tyX1 tyX1_ok nmX1 hown hK hP hD hS 0 rfl rfl 5 (by decide) (hts (.fieldLink RX1 34 "RibbonPosts$Drawing" "trimmed" "I") mw_X1_copyFrom_5) (fun _ h9 => h9) rfl (by decide +kernel) rfl rfl (Nat.le_of_ble_eq_true rfl) dX1_copyFrom_78 (fun H locs hP hD hS => ?_)
  have hP : va_P D vwCl [(d_a, .inr (1, [.ref d_places_a, .ref d_froms_a, .ref d_tos_a, .ref d_widths_a, .int e_ribbons, .int e_trimmed])), (d_places_a, .inl (T.1, (16, .inl (va_cpy e_places d_places (0 : Int32).toNatClampNeg (0 : Int32).toNatClampNeg (16 : Int32).toNatClampNeg)))), (d_froms_a, .inl (T.1, (20, .inl (va_cpy e_froms d_froms (0 : Int32).toNatClampNeg (0 : Int32).toNatClampNeg (20 : Int32).toNatClampNeg)))), (d_tos_a, .inl (T.1, (20, .inl (va_cpy e_tos d_tos (0 : Int32).toNatClampNeg (0 : Int32).toNatClampNeg (20 : Int32).toNatClampNeg)))), (d_widths_a, .inl (T.1, (20, .inl (va_cpy e_widths d_widths (0 : Int32).toNatClampNeg (0 : Int32).toNatClampNeg (20 : Int32).toNatClampNeg)))), (e_a, .inr (1, [.ref e_places_a, .ref e_froms_a, .ref e_tos_a, .ref e_widths_a, .int e_ribbons, .int e_trimmed])), (e_places_a, .inl (T.1, (16, .inl e_places))), (e_froms_a, .inl (T.1, (20, .inl e_froms))), (e_tos_a, .inl (T.1, (20, .inl e_tos))), (e_widths_a, .inl (T.1, (20, .inl e_widths)))] H := hP
  have hD : va_D A [(d_a, .inr (1, [.ref d_places_a, .ref d_froms_a, .ref d_tos_a, .ref d_widths_a, .int e_ribbons, .int e_trimmed])), (d_places_a, .inl (T.1, (16, .inl (va_cpy e_places d_places (0 : Int32).toNatClampNeg (0 : Int32).toNatClampNeg (16 : Int32).toNatClampNeg)))), (d_froms_a, .inl (T.1, (20, .inl (va_cpy e_froms d_froms (0 : Int32).toNatClampNeg (0 : Int32).toNatClampNeg (20 : Int32).toNatClampNeg)))), (d_tos_a, .inl (T.1, (20, .inl (va_cpy e_tos d_tos (0 : Int32).toNatClampNeg (0 : Int32).toNatClampNeg (20 : Int32).toNatClampNeg)))), (d_widths_a, .inl (T.1, (20, .inl (va_cpy e_widths d_widths (0 : Int32).toNatClampNeg (0 : Int32).toNatClampNeg (20 : Int32).toNatClampNeg)))), (e_a, .inr (1, [.ref e_places_a, .ref e_froms_a, .ref e_tos_a, .ref e_widths_a, .int e_ribbons, .int e_trimmed])), (e_places_a, .inl (T.1, (16, .inl e_places))), (e_froms_a, .inl (T.1, (20, .inl e_froms))), (e_tos_a, .inl (T.1, (20, .inl e_tos))), (e_widths_a, .inl (T.1, (20, .inl e_widths)))] := hD
  obtain rfl := Option.some.inj hf
  exact W.vret hx hb hr (fun t ht hW => ⟨rfl, ⟨_, rfl, by rw [ht]; exact hP, hD⟩, hS.F ht⟩) hS.2.2 dX1_copyFrom_81 hlocks
theorem c_X1_copyFrom (l : Launch) (D : va_G) (T : TY) (d_a d_places_a d_froms_a d_tos_a d_widths_a e_a e_places_a e_froms_a e_tos_a e_widths_a : Nat) (d_places : Nat → Int32) (d_froms : Nat → Int32) (d_tos : Nat → Int32) (d_widths : Nat → Int32) (d_ribbons : Int32) (d_trimmed : Int32) (e_places : Nat → Int32) (e_froms : Nat → Int32) (e_tos : Nat → Int32) (e_widths : Nat → Int32) (e_ribbons : Int32) (e_trimmed : Int32) (res : (Nat → Int32) × (Nat → Int32) × (Nat → Int32) × (Nat → Int32) × Int32 × Int32) (hf : f_X1_copyFrom e_places e_froms e_tos e_widths e_ribbons e_trimmed d_places d_froms d_tos d_widths d_ribbons d_trimmed = some res) (sz : Nat) : Met l yX1_copyFrom wsX1_copyFrom rmX1_copyFrom (va_Pc [.ref d_a, .ref e_a] (PM D T [(d_a, .inr (1, [.ref d_places_a, .ref d_froms_a, .ref d_tos_a, .ref d_widths_a, .int d_ribbons, .int d_trimmed])), (d_places_a, .inl (T.1, (16, .inl d_places))), (d_froms_a, .inl (T.1, (20, .inl d_froms))), (d_tos_a, .inl (T.1, (20, .inl d_tos))), (d_widths_a, .inl (T.1, (20, .inl d_widths))), (e_a, .inr (1, [.ref e_places_a, .ref e_froms_a, .ref e_tos_a, .ref e_widths_a, .int e_ribbons, .int e_trimmed])), (e_places_a, .inl (T.1, (16, .inl e_places))), (e_froms_a, .inl (T.1, (20, .inl e_froms))), (e_tos_a, .inl (T.1, (20, .inl e_tos))), (e_widths_a, .inl (T.1, (20, .inl e_widths)))] sz)) (Qm none D (fun W9 => W9 = [(d_a, .inr (1, [.ref d_places_a, .ref d_froms_a, .ref d_tos_a, .ref d_widths_a, .int res.2.2.2.2.1, .int res.2.2.2.2.2])), (d_places_a, .inl (T.1, (16, .inl res.1))), (d_froms_a, .inl (T.1, (20, .inl res.2.1))), (d_tos_a, .inl (T.1, (20, .inl res.2.2.1))), (d_widths_a, .inl (T.1, (20, .inl res.2.2.2.1))), (e_a, .inr (1, [.ref e_places_a, .ref e_froms_a, .ref e_tos_a, .ref e_widths_a, .int e_ribbons, .int e_trimmed])), (e_places_a, .inl (T.1, (16, .inl e_places))), (e_froms_a, .inl (T.1, (20, .inl e_froms))), (e_tos_a, .inl (T.1, (20, .inl e_tos))), (e_widths_a, .inl (T.1, (20, .inl e_widths)))]) (va_A [(d_a, .inr (1, [.ref d_places_a, .ref d_froms_a, .ref d_tos_a, .ref d_widths_a, .int d_ribbons, .int d_trimmed])), (d_places_a, .inl (T.1, (16, .inl d_places))), (d_froms_a, .inl (T.1, (20, .inl d_froms))), (d_tos_a, .inl (T.1, (20, .inl d_tos))), (d_widths_a, .inl (T.1, (20, .inl d_widths))), (e_a, .inr (1, [.ref e_places_a, .ref e_froms_a, .ref e_tos_a, .ref e_widths_a, .int e_ribbons, .int e_trimmed])), (e_places_a, .inl (T.1, (16, .inl e_places))), (e_froms_a, .inl (T.1, (20, .inl e_froms))), (e_tos_a, .inl (T.1, (20, .inl e_tos))), (e_widths_a, .inl (T.1, (20, .inl e_widths)))] sz)) 0 0 (va_A [(d_a, .inr (1, [.ref d_places_a, .ref d_froms_a, .ref d_tos_a, .ref d_widths_a, .int d_ribbons, .int d_trimmed])), (d_places_a, .inl (T.1, (16, .inl d_places))), (d_froms_a, .inl (T.1, (20, .inl d_froms))), (d_tos_a, .inl (T.1, (20, .inl d_tos))), (d_widths_a, .inl (T.1, (20, .inl d_widths))), (e_a, .inr (1, [.ref e_places_a, .ref e_froms_a, .ref e_tos_a, .ref e_widths_a, .int e_ribbons, .int e_trimmed])), (e_places_a, .inl (T.1, (16, .inl e_places))), (e_froms_a, .inl (T.1, (20, .inl e_froms))), (e_tos_a, .inl (T.1, (20, .inl e_tos))), (e_widths_a, .inl (T.1, (20, .inl e_widths)))] sz) :=
  metM_of (by decide +kernel) rfl (Nat.le_of_ble_eq_true rfl) (fun p e s m args below meth c C hnm A hA hP hD ls hl => w_X1_copyFrom_b0 C hA _ _ _ _ _ _ hf _ _ hP hD va_S.rf ls hl)
def rmX1_addRibbon : Room := { frames := 0, cells := 0, slots := 0, locals := 0 }
theorem hdV_X1_addRibbon : yX1_addRibbon.cls = RX1 ∧ yX1_addRibbon.cls ≠ "java/lang/invoke/MethodHandle" ∧ yX1_addRibbon.cls ≠ "java/lang/invoke/VarHandle" ∧ (parseMethodDescriptor yX1_addRibbon.desc).map (fun d => d.parameters.length) = some 3 := by decide +kernel
theorem iw_X1_addRibbon_X1 : ∀ w ∈ wsX10, w ∈ wsX1_addRibbon := by decide +kernel
theorem mw_X1_addRibbon_0 : Cond.fieldLink RX1 30 "RibbonPosts$Drawing" "ribbons" "I" ∈ wsX1_addRibbon := by decide +kernel
theorem mw_X1_addRibbon_1 : Cond.fieldLink RX1 15 "RibbonPosts$Drawing" "froms" "[I" ∈ wsX1_addRibbon := by decide +kernel
theorem mw_X1_addRibbon_2 : Cond.fieldLink RX1 18 "RibbonPosts$Drawing" "tos" "[I" ∈ wsX1_addRibbon := by decide +kernel
theorem mw_X1_addRibbon_3 : Cond.fieldLink RX1 21 "RibbonPosts$Drawing" "widths" "[I" ∈ wsX1_addRibbon := by decide +kernel
set_option maxHeartbeats 4000000 in
set_option maxRecDepth 100000 in
theorem w_X1_addRibbon_b0 {p : Program} {l : Launch} {e : Env} {s : State} {m : MethodId} {args : Array Value} {below : List Frame} {meth : Method} {c : Code} {D : va_G} {T : TY} {d_a d_places_a d_froms_a d_tos_a d_widths_a : Nat} {d_places : Nat → Int32} {d_trimmed : Int32} {x1 : Int32} {x2 : Int32} {x3 : Int32} {res : (Nat → Int32) × (Nat → Int32) × (Nat → Int32) × Int32} {A : Nat → Prop} (C : CX p s m args meth c cX1_addRibbon 4 RX1 wsX1_addRibbon none D T) (hA : ∀ q, s.heap.size ≤ q → A q) : ∀ d_froms : Nat → Int32, ∀ d_tos : Nat → Int32, ∀ d_widths : Nat → Int32, ∀ d_ribbons : Int32, f_X1_addRibbon x1 x2 x3 d_froms d_tos d_widths d_ribbons = some res → ∀ (H : Heap) (locs : List Loc), va_P D vwCl [(d_a, .inr (1, [.ref d_places_a, .ref d_froms_a, .ref d_tos_a, .ref d_widths_a, .int d_ribbons, .int d_trimmed])), (d_places_a, .inl (T.1, (16, .inl d_places))), (d_froms_a, .inl (T.1, (20, .inl d_froms))), (d_tos_a, .inl (T.1, (20, .inl d_tos))), (d_widths_a, .inl (T.1, (20, .inl d_widths)))] H → va_D A [(d_a, .inr (1, [.ref d_places_a, .ref d_froms_a, .ref d_tos_a, .ref d_widths_a, .int d_ribbons, .int d_trimmed])), (d_places_a, .inl (T.1, (16, .inl d_places))), (d_froms_a, .inl (T.1, (20, .inl d_froms))), (d_tos_a, .inl (T.1, (20, .inl d_tos))), (d_widths_a, .inl (T.1, (20, .inl d_widths)))] → va_S A s.heap H locs → ∀ ls : Array Slot, lv_has ls 4 [(0, .ref d_a), (1, .int x1), (2, .int x2), (3, .int x3)] → W p l e rmX1_addRibbon s m args below meth c H locs 0 0 (MQ below (Qm none D (fun W9 => W9 = [(d_a, .inr (1, [.ref d_places_a, .ref d_froms_a, .ref d_tos_a, .ref d_widths_a, .int res.2.2.2, .int d_trimmed])), (d_places_a, .inl (T.1, (16, .inl d_places))), (d_froms_a, .inl (T.1, (20, .inl res.1))), (d_tos_a, .inl (T.1, (20, .inl res.2.1))), (d_widths_a, .inl (T.1, (20, .inl res.2.2.1)))]) A) args s 0 0 A) (F0 m 0 ls []) := by
  obtain ⟨hx, hb, hml, hown, hts, hr, hlocks, hK, hN⟩ := id C
  intro d_froms d_tos d_widths d_ribbons hf H locs hP hD hS ls hl
  unfold f_X1_addRibbon at hf
  refine lv_aload_n hx hb dX1_addRibbon_0 rfl (lv_at hl 0 rfl) ?_
  refine va_get (D := D) (ci := 1) (v := .int d_ribbons) (C := RX1) (T := TX1) (N := 6) hx hb hts iw_X1_addRibbon_X1 hown hK hP 0 rfl rfl 4 (by decide) (hts (.fieldLink RX1 30 "RibbonPosts$Drawing" "ribbons" "I") mw_X1_addRibbon_0) (fun _ h9 => h9) rfl dX1_addRibbon_1 ?_
  refine lv_if_lt (tgt := 16) hx hb dX1_addRibbon_4 (by decide) (fun c_4 => ?_) (fun c_4 => ?_)
  · have hf := it_pos c_4 hf
    obtain rfl := Option.some.inj hf
    exact W.vret hx hb hr (fun t ht hW => ⟨rfl, ⟨_, rfl, by rw [ht]; exact hP, hD⟩, hS.F ht⟩) hS.2.2 dX1_addRibbon_16 hlocks
  · have hf := it_neg c_4 hf
    refine lv_aload_n hx hb dX1_addRibbon_7 rfl (lv_at hl 0 rfl) ?_
    refine va_get (D := D) (ci := 1) (v := .int d_ribbons) (C := RX1) (T := TX1) (N := 6) hx hb hts iw_X1_addRibbon_X1 hown hK hP 0 rfl rfl 4 (by decide) (hts (.fieldLink RX1 30 "RibbonPosts$Drawing" "ribbons" "I") mw_X1_addRibbon_0) (fun _ h9 => h9) rfl dX1_addRibbon_8 ?_
    refine lv_bipush (v := (20 : Int32)) hx hb dX1_addRibbon_11 (by decide) ?_
    refine lv_icmp_lt (tgt := 17) hx hb dX1_addRibbon_13 (by decide) (fun c_13 => ?_) (fun c_13 => ?_)
    · have hf := it_pos c_13 hf
      refine lv_aload_n hx hb dX1_addRibbon_17 rfl (lv_at hl 0 rfl) ?_
      refine va_get (D := D) (ci := 1) (v := .ref d_froms_a) (C := RX1) (T := TX1) (N := 6) hx hb hts iw_X1_addRibbon_X1 hown hK hP 0 rfl rfl 1 (by decide) (hts (.fieldLink RX1 15 "RibbonPosts$Drawing" "froms" "[I") mw_X1_addRibbon_1) (fun _ h9 => h9) rfl dX1_addRibbon_18 ?_
      refine lv_aload_n hx hb dX1_addRibbon_21 rfl (lv_at hl 0 rfl) ?_
      refine va_get (D := D) (ci := 1) (v := .int d_ribbons) (C := RX1) (T := TX1) (N := 6) hx hb hts iw_X1_addRibbon_X1 hown hK hP 0 rfl rfl 4 (by decide) (hts (.fieldLink RX1 30 "RibbonPosts$Drawing" "ribbons" "I") mw_X1_addRibbon_0) (fun _ h9 => h9) rfl dX1_addRibbon_22 ?_
      refine lv_iload_n hx hb dX1_addRibbon_25 rfl (lv_at hl 1 rfl) ?_
      obtain ⟨g_26, hf⟩ := gd_some hf
      refine va_iast (D := D) hx hb hK hP hD hS 2 0 rfl rfl (gd_in g_26) dX1_addRibbon_26 (fun H locs hP hD hS => ?_)
      have hP : va_P D vwCl [(d_a, .inr (1, [.ref d_places_a, .ref d_froms_a, .ref d_tos_a, .ref d_widths_a, .int d_ribbons, .int d_trimmed])), (d_places_a, .inl (T.1, (16, .inl d_places))), (d_froms_a, .inl (T.1, (20, .inl (upd d_froms d_ribbons.toNatClampNeg x1)))), (d_tos_a, .inl (T.1, (20, .inl d_tos))), (d_widths_a, .inl (T.1, (20, .inl d_widths)))] H := hP
      have hD : va_D A [(d_a, .inr (1, [.ref d_places_a, .ref d_froms_a, .ref d_tos_a, .ref d_widths_a, .int d_ribbons, .int d_trimmed])), (d_places_a, .inl (T.1, (16, .inl d_places))), (d_froms_a, .inl (T.1, (20, .inl (upd d_froms d_ribbons.toNatClampNeg x1)))), (d_tos_a, .inl (T.1, (20, .inl d_tos))), (d_widths_a, .inl (T.1, (20, .inl d_widths)))] := hD
      refine lv_aload_n hx hb dX1_addRibbon_27 rfl (lv_at hl 0 rfl) ?_
      refine va_get (D := D) (ci := 1) (v := .ref d_tos_a) (C := RX1) (T := TX1) (N := 6) hx hb hts iw_X1_addRibbon_X1 hown hK hP 0 rfl rfl 2 (by decide) (hts (.fieldLink RX1 18 "RibbonPosts$Drawing" "tos" "[I") mw_X1_addRibbon_2) (fun _ h9 => h9) rfl dX1_addRibbon_28 ?_
      refine lv_aload_n hx hb dX1_addRibbon_31 rfl (lv_at hl 0 rfl) ?_
      refine va_get (D := D) (ci := 1) (v := .int d_ribbons) (C := RX1) (T := TX1) (N := 6) hx hb hts iw_X1_addRibbon_X1 hown hK hP 0 rfl rfl 4 (by decide) (hts (.fieldLink RX1 30 "RibbonPosts$Drawing" "ribbons" "I") mw_X1_addRibbon_0) (fun _ h9 => h9) rfl dX1_addRibbon_32 ?_
      refine lv_iload_n hx hb dX1_addRibbon_35 rfl (lv_at hl 2 rfl) ?_
      obtain ⟨g_36, hf⟩ := gd_some hf
      refine va_iast (D := D) hx hb hK hP hD hS 3 0 rfl rfl (gd_in g_36) dX1_addRibbon_36 (fun H locs hP hD hS => ?_)
      have hP : va_P D vwCl [(d_a, .inr (1, [.ref d_places_a, .ref d_froms_a, .ref d_tos_a, .ref d_widths_a, .int d_ribbons, .int d_trimmed])), (d_places_a, .inl (T.1, (16, .inl d_places))), (d_froms_a, .inl (T.1, (20, .inl (upd d_froms d_ribbons.toNatClampNeg x1)))), (d_tos_a, .inl (T.1, (20, .inl (upd d_tos d_ribbons.toNatClampNeg x2)))), (d_widths_a, .inl (T.1, (20, .inl d_widths)))] H := hP
      have hD : va_D A [(d_a, .inr (1, [.ref d_places_a, .ref d_froms_a, .ref d_tos_a, .ref d_widths_a, .int d_ribbons, .int d_trimmed])), (d_places_a, .inl (T.1, (16, .inl d_places))), (d_froms_a, .inl (T.1, (20, .inl (upd d_froms d_ribbons.toNatClampNeg x1)))), (d_tos_a, .inl (T.1, (20, .inl (upd d_tos d_ribbons.toNatClampNeg x2)))), (d_widths_a, .inl (T.1, (20, .inl d_widths)))] := hD
      refine lv_aload_n hx hb dX1_addRibbon_37 rfl (lv_at hl 0 rfl) ?_
      refine va_get (D := D) (ci := 1) (v := .ref d_widths_a) (C := RX1) (T := TX1) (N := 6) hx hb hts iw_X1_addRibbon_X1 hown hK hP 0 rfl rfl 3 (by decide) (hts (.fieldLink RX1 21 "RibbonPosts$Drawing" "widths" "[I") mw_X1_addRibbon_3) (fun _ h9 => h9) rfl dX1_addRibbon_38 ?_
      refine lv_aload_n hx hb dX1_addRibbon_41 rfl (lv_at hl 0 rfl) ?_
      refine va_get (D := D) (ci := 1) (v := .int d_ribbons) (C := RX1) (T := TX1) (N := 6) hx hb hts iw_X1_addRibbon_X1 hown hK hP 0 rfl rfl 4 (by decide) (hts (.fieldLink RX1 30 "RibbonPosts$Drawing" "ribbons" "I") mw_X1_addRibbon_0) (fun _ h9 => h9) rfl dX1_addRibbon_42 ?_
      refine lv_iload_n hx hb dX1_addRibbon_45 rfl (lv_at hl 3 rfl) ?_
      obtain ⟨g_46, hf⟩ := gd_some hf
      refine va_iast (D := D) hx hb hK hP hD hS 4 0 rfl rfl (gd_in g_46) dX1_addRibbon_46 (fun H locs hP hD hS => ?_)
      have hP : va_P D vwCl [(d_a, .inr (1, [.ref d_places_a, .ref d_froms_a, .ref d_tos_a, .ref d_widths_a, .int d_ribbons, .int d_trimmed])), (d_places_a, .inl (T.1, (16, .inl d_places))), (d_froms_a, .inl (T.1, (20, .inl (upd d_froms d_ribbons.toNatClampNeg x1)))), (d_tos_a, .inl (T.1, (20, .inl (upd d_tos d_ribbons.toNatClampNeg x2)))), (d_widths_a, .inl (T.1, (20, .inl (upd d_widths d_ribbons.toNatClampNeg x3))))] H := hP
      have hD : va_D A [(d_a, .inr (1, [.ref d_places_a, .ref d_froms_a, .ref d_tos_a, .ref d_widths_a, .int d_ribbons, .int d_trimmed])), (d_places_a, .inl (T.1, (16, .inl d_places))), (d_froms_a, .inl (T.1, (20, .inl (upd d_froms d_ribbons.toNatClampNeg x1)))), (d_tos_a, .inl (T.1, (20, .inl (upd d_tos d_ribbons.toNatClampNeg x2)))), (d_widths_a, .inl (T.1, (20, .inl (upd d_widths d_ribbons.toNatClampNeg x3))))] := hD
      refine lv_aload_n hx hb dX1_addRibbon_47 rfl (lv_at hl 0 rfl) ?_
      refine lv_dup hx hb dX1_addRibbon_48 rfl ?_
      refine va_get (D := D) (ci := 1) (v := .int d_ribbons) (C := RX1) (T := TX1) (N := 6) hx hb hts iw_X1_addRibbon_X1 hown hK hP 0 rfl rfl 4 (by decide) (hts (.fieldLink RX1 30 "RibbonPosts$Drawing" "ribbons" "I") mw_X1_addRibbon_0) (fun _ h9 => h9) rfl dX1_addRibbon_49 ?_
      refine lv_iconst (v := (1 : Int32)) hx hb dX1_addRibbon_52 (by decide) ?_
      refine lv_iadd hx hb dX1_addRibbon_53 ?_
      obtain ⟨v54, e_54, hf⟩ := nm_some hf
      refine lv_nmi e_54 ?_
      refine va_put (D := D) (ci := 1) (v := .int v54) (ty := .int) (C := RX1) (T := TX1) (N := 6) hx hb hts iw_X1_addRibbon_X1 tyX1 tyX1_ok nmX1 hown hK hP hD hS 0 rfl rfl 4 (by decide) (hts (.fieldLink RX1 30 "RibbonPosts$Drawing" "ribbons" "I") mw_X1_addRibbon_0) (fun _ h9 => h9) rfl (by decide +kernel) rfl rfl (Nat.le_of_ble_eq_true rfl) dX1_addRibbon_54 (fun H locs hP hD hS => ?_)
      have hP : va_P D vwCl [(d_a, .inr (1, [.ref d_places_a, .ref d_froms_a, .ref d_tos_a, .ref d_widths_a, .int v54, .int d_trimmed])), (d_places_a, .inl (T.1, (16, .inl d_places))), (d_froms_a, .inl (T.1, (20, .inl (upd d_froms d_ribbons.toNatClampNeg x1)))), (d_tos_a, .inl (T.1, (20, .inl (upd d_tos d_ribbons.toNatClampNeg x2)))), (d_widths_a, .inl (T.1, (20, .inl (upd d_widths d_ribbons.toNatClampNeg x3))))] H := hP
      have hD : va_D A [(d_a, .inr (1, [.ref d_places_a, .ref d_froms_a, .ref d_tos_a, .ref d_widths_a, .int v54, .int d_trimmed])), (d_places_a, .inl (T.1, (16, .inl d_places))), (d_froms_a, .inl (T.1, (20, .inl (upd d_froms d_ribbons.toNatClampNeg x1)))), (d_tos_a, .inl (T.1, (20, .inl (upd d_tos d_ribbons.toNatClampNeg x2)))), (d_widths_a, .inl (T.1, (20, .inl (upd d_widths d_ribbons.toNatClampNeg x3))))] := hD
      obtain rfl := Option.some.inj hf
      exact W.vret hx hb hr (fun t ht hW => ⟨rfl, ⟨_, rfl, by rw [ht]; exact hP, hD⟩, hS.F ht⟩) hS.2.2 dX1_addRibbon_57 hlocks
    · have hf := it_neg c_13 hf
      obtain rfl := Option.some.inj hf
      exact W.vret hx hb hr (fun t ht hW => ⟨rfl, ⟨_, rfl, by rw [ht]; exact hP, hD⟩, hS.F ht⟩) hS.2.2 dX1_addRibbon_16 hlocks
theorem c_X1_addRibbon (l : Launch) (D : va_G) (T : TY) (d_a d_places_a d_froms_a d_tos_a d_widths_a : Nat) (d_places : Nat → Int32) (d_froms : Nat → Int32) (d_tos : Nat → Int32) (d_widths : Nat → Int32) (d_ribbons : Int32) (d_trimmed : Int32) (x1 : Int32) (x2 : Int32) (x3 : Int32) (res : (Nat → Int32) × (Nat → Int32) × (Nat → Int32) × Int32) (hf : f_X1_addRibbon x1 x2 x3 d_froms d_tos d_widths d_ribbons = some res) (sz : Nat) : Met l yX1_addRibbon wsX1_addRibbon rmX1_addRibbon (va_Pc [.ref d_a, .int x1, .int x2, .int x3] (PM D T [(d_a, .inr (1, [.ref d_places_a, .ref d_froms_a, .ref d_tos_a, .ref d_widths_a, .int d_ribbons, .int d_trimmed])), (d_places_a, .inl (T.1, (16, .inl d_places))), (d_froms_a, .inl (T.1, (20, .inl d_froms))), (d_tos_a, .inl (T.1, (20, .inl d_tos))), (d_widths_a, .inl (T.1, (20, .inl d_widths)))] sz)) (Qm none D (fun W9 => W9 = [(d_a, .inr (1, [.ref d_places_a, .ref d_froms_a, .ref d_tos_a, .ref d_widths_a, .int res.2.2.2, .int d_trimmed])), (d_places_a, .inl (T.1, (16, .inl d_places))), (d_froms_a, .inl (T.1, (20, .inl res.1))), (d_tos_a, .inl (T.1, (20, .inl res.2.1))), (d_widths_a, .inl (T.1, (20, .inl res.2.2.1)))]) (va_A [(d_a, .inr (1, [.ref d_places_a, .ref d_froms_a, .ref d_tos_a, .ref d_widths_a, .int d_ribbons, .int d_trimmed])), (d_places_a, .inl (T.1, (16, .inl d_places))), (d_froms_a, .inl (T.1, (20, .inl d_froms))), (d_tos_a, .inl (T.1, (20, .inl d_tos))), (d_widths_a, .inl (T.1, (20, .inl d_widths)))] sz)) 0 0 (va_A [(d_a, .inr (1, [.ref d_places_a, .ref d_froms_a, .ref d_tos_a, .ref d_widths_a, .int d_ribbons, .int d_trimmed])), (d_places_a, .inl (T.1, (16, .inl d_places))), (d_froms_a, .inl (T.1, (20, .inl d_froms))), (d_tos_a, .inl (T.1, (20, .inl d_tos))), (d_widths_a, .inl (T.1, (20, .inl d_widths)))] sz) :=
  metM_of (by decide +kernel) rfl (Nat.le_of_ble_eq_true rfl) (fun p e s m args below meth c C hnm A hA hP hD ls hl => w_X1_addRibbon_b0 C hA _ _ _ _ hf _ _ hP hD va_S.rf ls hl)
def rmX1_hasRibbon : Room := { frames := 0, cells := 0, slots := 0, locals := 0 }
theorem hdV_X1_hasRibbon : yX1_hasRibbon.cls = RX1 ∧ yX1_hasRibbon.cls ≠ "java/lang/invoke/MethodHandle" ∧ yX1_hasRibbon.cls ≠ "java/lang/invoke/VarHandle" ∧ (parseMethodDescriptor yX1_hasRibbon.desc).map (fun d => d.parameters.length) = some 1 := by decide +kernel
theorem iw_X1_hasRibbon_X1 : ∀ w ∈ wsX10, w ∈ wsX1_hasRibbon := by decide +kernel
theorem mw_X1_hasRibbon_0 : Cond.fieldLink RX1 30 "RibbonPosts$Drawing" "ribbons" "I" ∈ wsX1_hasRibbon := by decide +kernel
set_option maxHeartbeats 4000000 in
set_option maxRecDepth 100000 in
theorem w_X1_hasRibbon_b0 {p : Program} {l : Launch} {e : Env} {s : State} {m : MethodId} {args : Array Value} {below : List Frame} {meth : Method} {c : Code} {D : va_G} {T : TY} {d_a d_places_a d_froms_a d_tos_a d_widths_a : Nat} {d_places : Nat → Int32} {d_froms : Nat → Int32} {d_tos : Nat → Int32} {d_widths : Nat → Int32} {d_ribbons : Int32} {d_trimmed : Int32} {x1 : Int32} {res : Int32} (C : CX p s m args meth c cX1_hasRibbon 2 RX1 wsX1_hasRibbon (some .boolean) D T) (hP : va_P D vwCl [(d_a, .inr (1, [.ref d_places_a, .ref d_froms_a, .ref d_tos_a, .ref d_widths_a, .int d_ribbons, .int d_trimmed])), (d_places_a, .inl (T.1, (16, .inl d_places))), (d_froms_a, .inl (T.1, (20, .inl d_froms))), (d_tos_a, .inl (T.1, (20, .inl d_tos))), (d_widths_a, .inl (T.1, (20, .inl d_widths)))] s.heap) : f_X1_hasRibbon d_ribbons x1 = some res → ∀ ls : Array Slot, lv_has ls 2 [(0, .ref d_a), (1, .int x1)] → W p l e rmX1_hasRibbon s m args below meth c s.heap [] 0 0 (MQ below (Qp (some (.int res))) args s 0 0 (fun _ => False)) (F0 m 0 ls []) := by
  obtain ⟨hx, hb, hml, hown, hts, hr, hlocks, hK, hN⟩ := id C
  intro  hf ls hl
  unfold f_X1_hasRibbon at hf
  refine lv_iload_n hx hb dX1_hasRibbon_0 rfl (lv_at hl 1 rfl) ?_
  refine lv_if_lt (tgt := 22) hx hb dX1_hasRibbon_1 (by decide) (fun c_1 => ?_) (fun c_1 => ?_)
  · have hf := it_pos c_1 hf
    refine lv_iconst (v := (0 : Int32)) hx hb dX1_hasRibbon_22 (by decide) ?_
    obtain rfl := Option.some.inj hf
    exact W.zret hx hb hr (by decide) (fun t ht hW => ⟨rfl, ht⟩) (fun q hq => absurd hq List.not_mem_nil) dX1_hasRibbon_23 hlocks
  · have hf := it_neg c_1 hf
    refine lv_iload_n hx hb dX1_hasRibbon_4 rfl (lv_at hl 1 rfl) ?_
    refine lv_aload_n hx hb dX1_hasRibbon_5 rfl (lv_at hl 0 rfl) ?_
    refine va_get (D := D) (ci := 1) (v := .int d_ribbons) (C := RX1) (T := TX1) (N := 6) hx hb hts iw_X1_hasRibbon_X1 hown hK hP 0 rfl rfl 4 (by decide) (hts (.fieldLink RX1 30 "RibbonPosts$Drawing" "ribbons" "I") mw_X1_hasRibbon_0) (fun _ h9 => h9) rfl dX1_hasRibbon_6 ?_
    refine lv_icmp_ge (tgt := 22) hx hb dX1_hasRibbon_9 (by decide) (fun c_9 => ?_) (fun c_9 => ?_)
    · have hf := it_pos c_9 hf
      refine lv_iconst (v := (0 : Int32)) hx hb dX1_hasRibbon_22 (by decide) ?_
      obtain rfl := Option.some.inj hf
      exact W.zret hx hb hr (by decide) (fun t ht hW => ⟨rfl, ht⟩) (fun q hq => absurd hq List.not_mem_nil) dX1_hasRibbon_23 hlocks
    · have hf := it_neg c_9 hf
      refine lv_iload_n hx hb dX1_hasRibbon_12 rfl (lv_at hl 1 rfl) ?_
      refine lv_bipush (v := (20 : Int32)) hx hb dX1_hasRibbon_13 (by decide) ?_
      refine lv_icmp_ge (tgt := 22) hx hb dX1_hasRibbon_15 (by decide) (fun c_15 => ?_) (fun c_15 => ?_)
      · have hf := it_pos c_15 hf
        refine lv_iconst (v := (0 : Int32)) hx hb dX1_hasRibbon_22 (by decide) ?_
        obtain rfl := Option.some.inj hf
        exact W.zret hx hb hr (by decide) (fun t ht hW => ⟨rfl, ht⟩) (fun q hq => absurd hq List.not_mem_nil) dX1_hasRibbon_23 hlocks
      · have hf := it_neg c_15 hf
        refine lv_iconst (v := (1 : Int32)) hx hb dX1_hasRibbon_18 (by decide) ?_
        refine lv_goto (tgt := 23) hx hb dX1_hasRibbon_19 (by decide) ?_
        obtain rfl := Option.some.inj hf
        exact W.zret hx hb hr (by decide) (fun t ht hW => ⟨rfl, ht⟩) (fun q hq => absurd hq List.not_mem_nil) dX1_hasRibbon_23 hlocks
theorem c_X1_hasRibbon (l : Launch) (D : va_G) (T : TY) (d_a d_places_a d_froms_a d_tos_a d_widths_a : Nat) (d_places : Nat → Int32) (d_froms : Nat → Int32) (d_tos : Nat → Int32) (d_widths : Nat → Int32) (d_ribbons : Int32) (d_trimmed : Int32) (x1 : Int32) (res : Int32) (hf : f_X1_hasRibbon d_ribbons x1 = some res) : Met l yX1_hasRibbon wsX1_hasRibbon rmX1_hasRibbon (va_Pc [.ref d_a, .int x1] (PB D T [(d_a, .inr (1, [.ref d_places_a, .ref d_froms_a, .ref d_tos_a, .ref d_widths_a, .int d_ribbons, .int d_trimmed])), (d_places_a, .inl (T.1, (16, .inl d_places))), (d_froms_a, .inl (T.1, (20, .inl d_froms))), (d_tos_a, .inl (T.1, (20, .inl d_tos))), (d_widths_a, .inl (T.1, (20, .inl d_widths)))])) (Qp (some (.int res))) 0 0 (fun _ => False) :=
  metP_of (by decide +kernel) rfl (Nat.le_of_ble_eq_true rfl) (fun p e s m args below meth c C hP ls hl => w_X1_hasRibbon_b0 C hP hf ls hl)
def rmX1_widthOf : Room := { frames := 0, cells := 0, slots := 0, locals := 0 }
theorem hdV_X1_widthOf : yX1_widthOf.cls = RX1 ∧ yX1_widthOf.cls ≠ "java/lang/invoke/MethodHandle" ∧ yX1_widthOf.cls ≠ "java/lang/invoke/VarHandle" ∧ (parseMethodDescriptor yX1_widthOf.desc).map (fun d => d.parameters.length) = some 1 := by decide +kernel
theorem iw_X1_widthOf_X1 : ∀ w ∈ wsX10, w ∈ wsX1_widthOf := by decide +kernel
theorem mw_X1_widthOf_0 : Cond.fieldLink RX1 21 "RibbonPosts$Drawing" "widths" "[I" ∈ wsX1_widthOf := by decide +kernel
set_option maxHeartbeats 4000000 in
set_option maxRecDepth 100000 in
theorem w_X1_widthOf_b0 {p : Program} {l : Launch} {e : Env} {s : State} {m : MethodId} {args : Array Value} {below : List Frame} {meth : Method} {c : Code} {D : va_G} {T : TY} {d_a d_places_a d_froms_a d_tos_a d_widths_a : Nat} {d_places : Nat → Int32} {d_froms : Nat → Int32} {d_tos : Nat → Int32} {d_widths : Nat → Int32} {d_ribbons : Int32} {d_trimmed : Int32} {x1 : Int32} {res : Int32} (C : CX p s m args meth c cX1_widthOf 2 RX1 wsX1_widthOf (some .int) D T) (hP : va_P D vwCl [(d_a, .inr (1, [.ref d_places_a, .ref d_froms_a, .ref d_tos_a, .ref d_widths_a, .int d_ribbons, .int d_trimmed])), (d_places_a, .inl (T.1, (16, .inl d_places))), (d_froms_a, .inl (T.1, (20, .inl d_froms))), (d_tos_a, .inl (T.1, (20, .inl d_tos))), (d_widths_a, .inl (T.1, (20, .inl d_widths)))] s.heap) : f_X1_widthOf d_widths x1 = some res → ∀ ls : Array Slot, lv_has ls 2 [(0, .ref d_a), (1, .int x1)] → W p l e rmX1_widthOf s m args below meth c s.heap [] 0 0 (MQ below (Qp (some (.int res))) args s 0 0 (fun _ => False)) (F0 m 0 ls []) := by
  obtain ⟨hx, hb, hml, hown, hts, hr, hlocks, hK, hN⟩ := id C
  intro  hf ls hl
  unfold f_X1_widthOf at hf
  refine lv_iload_n hx hb dX1_widthOf_0 rfl (lv_at hl 1 rfl) ?_
  refine lv_if_lt (tgt := 19) hx hb dX1_widthOf_1 (by decide) (fun c_1 => ?_) (fun c_1 => ?_)
  · have hf := it_pos c_1 hf
    refine lv_iconst (v := (0 : Int32)) hx hb dX1_widthOf_19 (by decide) ?_
    obtain rfl := Option.some.inj hf
    exact W.iret hx hb hr (fun t ht hW => ⟨rfl, ht⟩) (fun q hq => absurd hq List.not_mem_nil) dX1_widthOf_20 hlocks
  · have hf := it_neg c_1 hf
    refine lv_iload_n hx hb dX1_widthOf_4 rfl (lv_at hl 1 rfl) ?_
    refine lv_bipush (v := (20 : Int32)) hx hb dX1_widthOf_5 (by decide) ?_
    refine lv_icmp_ge (tgt := 19) hx hb dX1_widthOf_7 (by decide) (fun c_7 => ?_) (fun c_7 => ?_)
    · have hf := it_pos c_7 hf
      refine lv_iconst (v := (0 : Int32)) hx hb dX1_widthOf_19 (by decide) ?_
      obtain rfl := Option.some.inj hf
      exact W.iret hx hb hr (fun t ht hW => ⟨rfl, ht⟩) (fun q hq => absurd hq List.not_mem_nil) dX1_widthOf_20 hlocks
    · have hf := it_neg c_7 hf
      refine lv_aload_n hx hb dX1_widthOf_10 rfl (lv_at hl 0 rfl) ?_
      refine va_get (D := D) (ci := 1) (v := .ref d_widths_a) (C := RX1) (T := TX1) (N := 6) hx hb hts iw_X1_widthOf_X1 hown hK hP 0 rfl rfl 3 (by decide) (hts (.fieldLink RX1 21 "RibbonPosts$Drawing" "widths" "[I") mw_X1_widthOf_0) (fun _ h9 => h9) rfl dX1_widthOf_11 ?_
      refine lv_iload_n hx hb dX1_widthOf_14 rfl (lv_at hl 1 rfl) ?_
      obtain ⟨g_15, hf⟩ := gd_some hf
      refine va_iald (D := D) hx hb hK hP 4 0 rfl rfl (gd_in g_15) dX1_widthOf_15 ?_
      refine lv_goto (tgt := 20) hx hb dX1_widthOf_16 (by decide) ?_
      obtain rfl := Option.some.inj hf
      exact W.iret hx hb hr (fun t ht hW => ⟨rfl, ht⟩) (fun q hq => absurd hq List.not_mem_nil) dX1_widthOf_20 hlocks
theorem c_X1_widthOf (l : Launch) (D : va_G) (T : TY) (d_a d_places_a d_froms_a d_tos_a d_widths_a : Nat) (d_places : Nat → Int32) (d_froms : Nat → Int32) (d_tos : Nat → Int32) (d_widths : Nat → Int32) (d_ribbons : Int32) (d_trimmed : Int32) (x1 : Int32) (res : Int32) (hf : f_X1_widthOf d_widths x1 = some res) : Met l yX1_widthOf wsX1_widthOf rmX1_widthOf (va_Pc [.ref d_a, .int x1] (PB D T [(d_a, .inr (1, [.ref d_places_a, .ref d_froms_a, .ref d_tos_a, .ref d_widths_a, .int d_ribbons, .int d_trimmed])), (d_places_a, .inl (T.1, (16, .inl d_places))), (d_froms_a, .inl (T.1, (20, .inl d_froms))), (d_tos_a, .inl (T.1, (20, .inl d_tos))), (d_widths_a, .inl (T.1, (20, .inl d_widths)))])) (Qp (some (.int res))) 0 0 (fun _ => False) :=
  metP_of (by decide +kernel) rfl (Nat.le_of_ble_eq_true rfl) (fun p e s m args below meth c C hP ls hl => w_X1_widthOf_b0 C hP hf ls hl)
def rmX1_setWidth : Room := { frames := 1, cells := 0, slots := 0, locals := 21 }
theorem hdV_X1_setWidth : yX1_setWidth.cls = RX1 ∧ yX1_setWidth.cls ≠ "java/lang/invoke/MethodHandle" ∧ yX1_setWidth.cls ≠ "java/lang/invoke/VarHandle" ∧ (parseMethodDescriptor yX1_setWidth.desc).map (fun d => d.parameters.length) = some 2 := by decide +kernel
theorem iw_X1_setWidth_X1 : ∀ w ∈ wsX10, w ∈ wsX1_setWidth := by decide +kernel
theorem mw_X1_setWidth_0 : Cond.fieldLink RX1 21 "RibbonPosts$Drawing" "widths" "[I" ∈ wsX1_setWidth := by decide +kernel
set_option maxHeartbeats 4000000 in
set_option maxRecDepth 100000 in
theorem w_X1_setWidth_b0 {p : Program} {l : Launch} {e : Env} {s : State} {m : MethodId} {args : Array Value} {below : List Frame} {meth : Method} {c : Code} {D : va_G} {T : TY} {d_a d_places_a d_froms_a d_tos_a d_widths_a : Nat} {d_places : Nat → Int32} {d_froms : Nat → Int32} {d_tos : Nat → Int32} {d_ribbons : Int32} {d_trimmed : Int32} {x1 : Int32} {x2 : Int32} {res : (Nat → Int32)} {A : Nat → Prop} (C : CX p s m args meth c cX1_setWidth 3 RX1 wsX1_setWidth none D T) (hA : ∀ q, s.heap.size ≤ q → A q) : ∀ d_widths : Nat → Int32, f_X1_setWidth d_ribbons x1 x2 d_widths = some res → ∀ (H : Heap) (locs : List Loc), va_P D vwCl [(d_a, .inr (1, [.ref d_places_a, .ref d_froms_a, .ref d_tos_a, .ref d_widths_a, .int d_ribbons, .int d_trimmed])), (d_places_a, .inl (T.1, (16, .inl d_places))), (d_froms_a, .inl (T.1, (20, .inl d_froms))), (d_tos_a, .inl (T.1, (20, .inl d_tos))), (d_widths_a, .inl (T.1, (20, .inl d_widths)))] H → va_D A [(d_a, .inr (1, [.ref d_places_a, .ref d_froms_a, .ref d_tos_a, .ref d_widths_a, .int d_ribbons, .int d_trimmed])), (d_places_a, .inl (T.1, (16, .inl d_places))), (d_froms_a, .inl (T.1, (20, .inl d_froms))), (d_tos_a, .inl (T.1, (20, .inl d_tos))), (d_widths_a, .inl (T.1, (20, .inl d_widths)))] → va_S A s.heap H locs → ∀ ls : Array Slot, lv_has ls 3 [(0, .ref d_a), (1, .int x1), (2, .int x2)] → W p l e rmX1_setWidth s m args below meth c H locs 0 0 (MQ below (Qm none D (fun W9 => W9 = [(d_a, .inr (1, [.ref d_places_a, .ref d_froms_a, .ref d_tos_a, .ref d_widths_a, .int d_ribbons, .int d_trimmed])), (d_places_a, .inl (T.1, (16, .inl d_places))), (d_froms_a, .inl (T.1, (20, .inl d_froms))), (d_tos_a, .inl (T.1, (20, .inl d_tos))), (d_widths_a, .inl (T.1, (20, .inl res)))]) A) args s 0 0 A) (F0 m 0 ls []) := by
  obtain ⟨hx, hb, hml, hown, hts, hr, hlocks, hK, hN⟩ := id C
  intro d_widths hf H locs hP hD hS ls hl
  unfold f_X1_setWidth at hf
  refine lv_aload_n hx hb dX1_setWidth_0 rfl (lv_at hl 0 rfl) ?_
  refine lv_iload_n hx hb dX1_setWidth_1 rfl (lv_at hl 1 rfl) ?_
  obtain ⟨q2, e_2, hf⟩ := bd_some hf
  refine callPi (va_runV (As := [.int x1]) (rest := []) ⟨hx, hb, hml, hown, hts⟩ (c_X1_hasRibbon l D T d_a d_places_a d_froms_a d_tos_a d_widths_a d_places d_froms d_tos d_widths d_ribbons d_trimmed x1 q2 e_2) (cwV 1 hts gX1_setWidth_X1_hasRibbon rfl rfl rfl hdV_X1_hasRibbon ⟨Nat.le_of_ble_eq_true rfl, Nat.le_of_ble_eq_true rfl⟩) (preBV hP hK hN rfl 0 rfl) rfl rfl hl.1 rfl (lv_room (Nat.le_of_ble_eq_true rfl)) dX1_setWidth_2 ⟨Nat.le_of_ble_eq_true rfl, Nat.le_of_ble_eq_true rfl⟩) ?_
  refine lv_if_eq (tgt := 15) hx hb dX1_setWidth_5 (by decide) (fun c_5 => ?_) (fun c_5 => ?_)
  · have hf := it_pos c_5 hf
    obtain rfl := Option.some.inj hf
    exact W.vret hx hb hr (fun t ht hW => ⟨rfl, ⟨_, rfl, by rw [ht]; exact hP, hD⟩, hS.F ht⟩) hS.2.2 dX1_setWidth_15 hlocks
  · have hf := it_neg c_5 hf
    refine lv_aload_n hx hb dX1_setWidth_8 rfl (lv_at hl 0 rfl) ?_
    refine va_get (D := D) (ci := 1) (v := .ref d_widths_a) (C := RX1) (T := TX1) (N := 6) hx hb hts iw_X1_setWidth_X1 hown hK hP 0 rfl rfl 3 (by decide) (hts (.fieldLink RX1 21 "RibbonPosts$Drawing" "widths" "[I") mw_X1_setWidth_0) (fun _ h9 => h9) rfl dX1_setWidth_9 ?_
    refine lv_iload_n hx hb dX1_setWidth_12 rfl (lv_at hl 1 rfl) ?_
    refine lv_iload_n hx hb dX1_setWidth_13 rfl (lv_at hl 2 rfl) ?_
    obtain ⟨g_14, hf⟩ := gd_some hf
    refine va_iast (D := D) hx hb hK hP hD hS 4 0 rfl rfl (gd_in g_14) dX1_setWidth_14 (fun H locs hP hD hS => ?_)
    have hP : va_P D vwCl [(d_a, .inr (1, [.ref d_places_a, .ref d_froms_a, .ref d_tos_a, .ref d_widths_a, .int d_ribbons, .int d_trimmed])), (d_places_a, .inl (T.1, (16, .inl d_places))), (d_froms_a, .inl (T.1, (20, .inl d_froms))), (d_tos_a, .inl (T.1, (20, .inl d_tos))), (d_widths_a, .inl (T.1, (20, .inl (upd d_widths x1.toNatClampNeg x2))))] H := hP
    have hD : va_D A [(d_a, .inr (1, [.ref d_places_a, .ref d_froms_a, .ref d_tos_a, .ref d_widths_a, .int d_ribbons, .int d_trimmed])), (d_places_a, .inl (T.1, (16, .inl d_places))), (d_froms_a, .inl (T.1, (20, .inl d_froms))), (d_tos_a, .inl (T.1, (20, .inl d_tos))), (d_widths_a, .inl (T.1, (20, .inl (upd d_widths x1.toNatClampNeg x2))))] := hD
    obtain rfl := Option.some.inj hf
    exact W.vret hx hb hr (fun t ht hW => ⟨rfl, ⟨_, rfl, by rw [ht]; exact hP, hD⟩, hS.F ht⟩) hS.2.2 dX1_setWidth_15 hlocks
theorem c_X1_setWidth (l : Launch) (D : va_G) (T : TY) (d_a d_places_a d_froms_a d_tos_a d_widths_a : Nat) (d_places : Nat → Int32) (d_froms : Nat → Int32) (d_tos : Nat → Int32) (d_widths : Nat → Int32) (d_ribbons : Int32) (d_trimmed : Int32) (x1 : Int32) (x2 : Int32) (res : (Nat → Int32)) (hf : f_X1_setWidth d_ribbons x1 x2 d_widths = some res) (sz : Nat) : Met l yX1_setWidth wsX1_setWidth rmX1_setWidth (va_Pc [.ref d_a, .int x1, .int x2] (PM D T [(d_a, .inr (1, [.ref d_places_a, .ref d_froms_a, .ref d_tos_a, .ref d_widths_a, .int d_ribbons, .int d_trimmed])), (d_places_a, .inl (T.1, (16, .inl d_places))), (d_froms_a, .inl (T.1, (20, .inl d_froms))), (d_tos_a, .inl (T.1, (20, .inl d_tos))), (d_widths_a, .inl (T.1, (20, .inl d_widths)))] sz)) (Qm none D (fun W9 => W9 = [(d_a, .inr (1, [.ref d_places_a, .ref d_froms_a, .ref d_tos_a, .ref d_widths_a, .int d_ribbons, .int d_trimmed])), (d_places_a, .inl (T.1, (16, .inl d_places))), (d_froms_a, .inl (T.1, (20, .inl d_froms))), (d_tos_a, .inl (T.1, (20, .inl d_tos))), (d_widths_a, .inl (T.1, (20, .inl res)))]) (va_A [(d_a, .inr (1, [.ref d_places_a, .ref d_froms_a, .ref d_tos_a, .ref d_widths_a, .int d_ribbons, .int d_trimmed])), (d_places_a, .inl (T.1, (16, .inl d_places))), (d_froms_a, .inl (T.1, (20, .inl d_froms))), (d_tos_a, .inl (T.1, (20, .inl d_tos))), (d_widths_a, .inl (T.1, (20, .inl d_widths)))] sz)) 0 0 (va_A [(d_a, .inr (1, [.ref d_places_a, .ref d_froms_a, .ref d_tos_a, .ref d_widths_a, .int d_ribbons, .int d_trimmed])), (d_places_a, .inl (T.1, (16, .inl d_places))), (d_froms_a, .inl (T.1, (20, .inl d_froms))), (d_tos_a, .inl (T.1, (20, .inl d_tos))), (d_widths_a, .inl (T.1, (20, .inl d_widths)))] sz) :=
  metM_of (by decide +kernel) rfl (Nat.le_of_ble_eq_true rfl) (fun p e s m args below meth c C hnm A hA hP hD ls hl => w_X1_setWidth_b0 C hA _ hf _ _ hP hD va_S.rf ls hl)
def rmX1_dropRibbon : Room := { frames := 1, cells := 0, slots := 0, locals := 21 }
theorem hdV_X1_dropRibbon : yX1_dropRibbon.cls = RX1 ∧ yX1_dropRibbon.cls ≠ "java/lang/invoke/MethodHandle" ∧ yX1_dropRibbon.cls ≠ "java/lang/invoke/VarHandle" ∧ (parseMethodDescriptor yX1_dropRibbon.desc).map (fun d => d.parameters.length) = some 1 := by decide +kernel
theorem iw_X1_dropRibbon_X1 : ∀ w ∈ wsX10, w ∈ wsX1_dropRibbon := by decide +kernel
theorem mw_X1_dropRibbon_0 : Cond.fieldLink RX1 30 "RibbonPosts$Drawing" "ribbons" "I" ∈ wsX1_dropRibbon := by decide +kernel
theorem mw_X1_dropRibbon_1 : Cond.fieldLink RX1 15 "RibbonPosts$Drawing" "froms" "[I" ∈ wsX1_dropRibbon := by decide +kernel
theorem mw_X1_dropRibbon_2 : Cond.fieldLink RX1 18 "RibbonPosts$Drawing" "tos" "[I" ∈ wsX1_dropRibbon := by decide +kernel
theorem mw_X1_dropRibbon_3 : Cond.fieldLink RX1 21 "RibbonPosts$Drawing" "widths" "[I" ∈ wsX1_dropRibbon := by decide +kernel
set_option maxHeartbeats 4000000 in
set_option maxRecDepth 100000 in
theorem w_X1_dropRibbon_b75 {p : Program} {l : Launch} {e : Env} {s : State} {m : MethodId} {args : Array Value} {below : List Frame} {meth : Method} {c : Code} {D : va_G} {T : TY} {d_a d_places_a d_froms_a d_tos_a d_widths_a : Nat} {d_places : Nat → Int32} {d_trimmed : Int32} {x1 : Int32} {res : (Nat → Int32) × (Nat → Int32) × (Nat → Int32) × Int32} {A : Nat → Prop} (C : CX p s m args meth c cX1_dropRibbon 3 RX1 wsX1_dropRibbon none D T) (hA : ∀ q, s.heap.size ≤ q → A q) : ∀ d_froms : Nat → Int32, ∀ d_tos : Nat → Int32, ∀ d_widths : Nat → Int32, ∀ d_ribbons : Int32, f_X1_dropRibbon_b75 x1 d_froms d_tos d_widths d_ribbons = some res → ∀ (H : Heap) (locs : List Loc), va_P D vwCl [(d_a, .inr (1, [.ref d_places_a, .ref d_froms_a, .ref d_tos_a, .ref d_widths_a, .int d_ribbons, .int d_trimmed])), (d_places_a, .inl (T.1, (16, .inl d_places))), (d_froms_a, .inl (T.1, (20, .inl d_froms))), (d_tos_a, .inl (T.1, (20, .inl d_tos))), (d_widths_a, .inl (T.1, (20, .inl d_widths)))] H → va_D A [(d_a, .inr (1, [.ref d_places_a, .ref d_froms_a, .ref d_tos_a, .ref d_widths_a, .int d_ribbons, .int d_trimmed])), (d_places_a, .inl (T.1, (16, .inl d_places))), (d_froms_a, .inl (T.1, (20, .inl d_froms))), (d_tos_a, .inl (T.1, (20, .inl d_tos))), (d_widths_a, .inl (T.1, (20, .inl d_widths)))] → va_S A s.heap H locs → ∀ ls : Array Slot, lv_has ls 3 [(0, .ref d_a)] → W p l e rmX1_dropRibbon s m args below meth c H locs 0 0 (MQ below (Qm none D (fun W9 => W9 = [(d_a, .inr (1, [.ref d_places_a, .ref d_froms_a, .ref d_tos_a, .ref d_widths_a, .int res.2.2.2, .int d_trimmed])), (d_places_a, .inl (T.1, (16, .inl d_places))), (d_froms_a, .inl (T.1, (20, .inl res.1))), (d_tos_a, .inl (T.1, (20, .inl res.2.1))), (d_widths_a, .inl (T.1, (20, .inl res.2.2.1)))]) A) args s 0 0 A) (F0 m 75 ls []) := by
  obtain ⟨hx, hb, hml, hown, hts, hr, hlocks, hK, hN⟩ := id C
  intro d_froms d_tos d_widths d_ribbons hf H locs hP hD hS ls hl
  unfold f_X1_dropRibbon_b75 at hf
  refine lv_aload_n hx hb dX1_dropRibbon_75 rfl (lv_at hl 0 rfl) ?_
  refine lv_dup hx hb dX1_dropRibbon_76 rfl ?_
  refine va_get (D := D) (ci := 1) (v := .int d_ribbons) (C := RX1) (T := TX1) (N := 6) hx hb hts iw_X1_dropRibbon_X1 hown hK hP 0 rfl rfl 4 (by decide) (hts (.fieldLink RX1 30 "RibbonPosts$Drawing" "ribbons" "I") mw_X1_dropRibbon_0) (fun _ h9 => h9) rfl dX1_dropRibbon_77 ?_
  refine lv_iconst (v := (1 : Int32)) hx hb dX1_dropRibbon_80 (by decide) ?_
  refine lv_isub hx hb dX1_dropRibbon_81 ?_
  obtain ⟨v82, e_82, hf⟩ := nm_some hf
  refine lv_nmi e_82 ?_
  refine va_put (D := D) (ci := 1) (v := .int v82) (ty := .int) (C := RX1) (T := TX1) (N := 6) hx hb hts iw_X1_dropRibbon_X1 tyX1 tyX1_ok nmX1 hown hK hP hD hS 0 rfl rfl 4 (by decide) (hts (.fieldLink RX1 30 "RibbonPosts$Drawing" "ribbons" "I") mw_X1_dropRibbon_0) (fun _ h9 => h9) rfl (by decide +kernel) rfl rfl (Nat.le_of_ble_eq_true rfl) dX1_dropRibbon_82 (fun H locs hP hD hS => ?_)
  have hP : va_P D vwCl [(d_a, .inr (1, [.ref d_places_a, .ref d_froms_a, .ref d_tos_a, .ref d_widths_a, .int v82, .int d_trimmed])), (d_places_a, .inl (T.1, (16, .inl d_places))), (d_froms_a, .inl (T.1, (20, .inl d_froms))), (d_tos_a, .inl (T.1, (20, .inl d_tos))), (d_widths_a, .inl (T.1, (20, .inl d_widths)))] H := hP
  have hD : va_D A [(d_a, .inr (1, [.ref d_places_a, .ref d_froms_a, .ref d_tos_a, .ref d_widths_a, .int v82, .int d_trimmed])), (d_places_a, .inl (T.1, (16, .inl d_places))), (d_froms_a, .inl (T.1, (20, .inl d_froms))), (d_tos_a, .inl (T.1, (20, .inl d_tos))), (d_widths_a, .inl (T.1, (20, .inl d_widths)))] := hD
  obtain rfl := Option.some.inj hf
  exact W.vret hx hb hr (fun t ht hW => ⟨rfl, ⟨_, rfl, by rw [ht]; exact hP, hD⟩, hS.F ht⟩) hS.2.2 dX1_dropRibbon_85 hlocks
set_option maxHeartbeats 4000000 in
set_option maxRecDepth 100000 in
theorem w_X1_dropRibbon_b13 {p : Program} {l : Launch} {e : Env} {s : State} {m : MethodId} {args : Array Value} {below : List Frame} {meth : Method} {c : Code} {D : va_G} {T : TY} {d_a d_places_a d_froms_a d_tos_a d_widths_a : Nat} {d_places : Nat → Int32} {d_trimmed : Int32} {x1 : Int32} {res : (Nat → Int32) × (Nat → Int32) × (Nat → Int32) × Int32} {A : Nat → Prop} (C : CX p s m args meth c cX1_dropRibbon 3 RX1 wsX1_dropRibbon none D T) (hA : ∀ q, s.heap.size ≤ q → A q) : ∀ F : Nat, ∀ x2 : Int32, ∀ d_froms : Nat → Int32, ∀ d_tos : Nat → Int32, ∀ d_widths : Nat → Int32, ∀ d_ribbons : Int32, f_X1_dropRibbon_b13 x1 F x2 d_froms d_tos d_widths d_ribbons = some res → ∀ (H : Heap) (locs : List Loc), va_P D vwCl [(d_a, .inr (1, [.ref d_places_a, .ref d_froms_a, .ref d_tos_a, .ref d_widths_a, .int d_ribbons, .int d_trimmed])), (d_places_a, .inl (T.1, (16, .inl d_places))), (d_froms_a, .inl (T.1, (20, .inl d_froms))), (d_tos_a, .inl (T.1, (20, .inl d_tos))), (d_widths_a, .inl (T.1, (20, .inl d_widths)))] H → va_D A [(d_a, .inr (1, [.ref d_places_a, .ref d_froms_a, .ref d_tos_a, .ref d_widths_a, .int d_ribbons, .int d_trimmed])), (d_places_a, .inl (T.1, (16, .inl d_places))), (d_froms_a, .inl (T.1, (20, .inl d_froms))), (d_tos_a, .inl (T.1, (20, .inl d_tos))), (d_widths_a, .inl (T.1, (20, .inl d_widths)))] → va_S A s.heap H locs → ∀ ls : Array Slot, lv_has ls 3 [(0, .ref d_a), (2, .int x2)] → W p l e rmX1_dropRibbon s m args below meth c H locs 0 0 (MQ below (Qm none D (fun W9 => W9 = [(d_a, .inr (1, [.ref d_places_a, .ref d_froms_a, .ref d_tos_a, .ref d_widths_a, .int res.2.2.2, .int d_trimmed])), (d_places_a, .inl (T.1, (16, .inl d_places))), (d_froms_a, .inl (T.1, (20, .inl res.1))), (d_tos_a, .inl (T.1, (20, .inl res.2.1))), (d_widths_a, .inl (T.1, (20, .inl res.2.2.1)))]) A) args s 0 0 A) (F0 m 13 ls []) := by
  obtain ⟨hx, hb, hml, hown, hts, hr, hlocks, hK, hN⟩ := id C
  intro F
  induction F with
  | zero => intro _ _ _ _ _ hf; cases hf
  | succ F ih =>
    intro x2 d_froms d_tos d_widths d_ribbons hf H locs hP hD hS ls hl
    unfold f_X1_dropRibbon_b13 at hf
    refine lv_iload_n hx hb dX1_dropRibbon_13 rfl (lv_at hl 1 rfl) ?_
    refine lv_aload_n hx hb dX1_dropRibbon_14 rfl (lv_at hl 0 rfl) ?_
    refine va_get (D := D) (ci := 1) (v := .int d_ribbons) (C := RX1) (T := TX1) (N := 6) hx hb hts iw_X1_dropRibbon_X1 hown hK hP 0 rfl rfl 4 (by decide) (hts (.fieldLink RX1 30 "RibbonPosts$Drawing" "ribbons" "I") mw_X1_dropRibbon_0) (fun _ h9 => h9) rfl dX1_dropRibbon_15 ?_
    refine lv_icmp_ge (tgt := 75) hx hb dX1_dropRibbon_18 (by decide) (fun c_18 => ?_) (fun c_18 => ?_)
    · have hf := it_pos c_18 hf
      exact w_X1_dropRibbon_b75 C hA _ _ _ _ hf _ _ hP hD hS _ (lv_sub hl [0] rfl)
    · have hf := it_neg c_18 hf
      refine lv_iload_n hx hb dX1_dropRibbon_21 rfl (lv_at hl 1 rfl) ?_
      refine lv_bipush (v := (20 : Int32)) hx hb dX1_dropRibbon_22 (by decide) ?_
      refine lv_icmp_ge (tgt := 75) hx hb dX1_dropRibbon_24 (by decide) (fun c_24 => ?_) (fun c_24 => ?_)
      · have hf := it_pos c_24 hf
        exact w_X1_dropRibbon_b75 C hA _ _ _ _ hf _ _ hP hD hS _ (lv_sub hl [0] rfl)
      · have hf := it_neg c_24 hf
        refine lv_aload_n hx hb dX1_dropRibbon_27 rfl (lv_at hl 0 rfl) ?_
        refine va_get (D := D) (ci := 1) (v := .ref d_froms_a) (C := RX1) (T := TX1) (N := 6) hx hb hts iw_X1_dropRibbon_X1 hown hK hP 0 rfl rfl 1 (by decide) (hts (.fieldLink RX1 15 "RibbonPosts$Drawing" "froms" "[I") mw_X1_dropRibbon_1) (fun _ h9 => h9) rfl dX1_dropRibbon_28 ?_
        refine lv_iload_n hx hb dX1_dropRibbon_31 rfl (lv_at hl 1 rfl) ?_
        refine lv_iconst (v := (1 : Int32)) hx hb dX1_dropRibbon_32 (by decide) ?_
        refine lv_isub hx hb dX1_dropRibbon_33 ?_
        refine lv_aload_n hx hb dX1_dropRibbon_34 rfl (lv_at hl 0 rfl) ?_
        refine va_get (D := D) (ci := 1) (v := .ref d_froms_a) (C := RX1) (T := TX1) (N := 6) hx hb hts iw_X1_dropRibbon_X1 hown hK hP 0 rfl rfl 1 (by decide) (hts (.fieldLink RX1 15 "RibbonPosts$Drawing" "froms" "[I") mw_X1_dropRibbon_1) (fun _ h9 => h9) rfl dX1_dropRibbon_35 ?_
        refine lv_iload_n hx hb dX1_dropRibbon_38 rfl (lv_at hl 1 rfl) ?_
        obtain ⟨g_39, hf⟩ := gd_some hf
        refine va_iald (D := D) hx hb hK hP 2 0 rfl rfl (gd_in g_39) dX1_dropRibbon_39 ?_
        obtain ⟨v40, e_40, hf⟩ := nm_some hf
        refine lv_nmi e_40 ?_
        obtain ⟨g_40, hf⟩ := gd_some hf
        refine va_iast (D := D) hx hb hK hP hD hS 2 0 rfl rfl (gd_in g_40) dX1_dropRibbon_40 (fun H locs hP hD hS => ?_)
        have hP : va_P D vwCl [(d_a, .inr (1, [.ref d_places_a, .ref d_froms_a, .ref d_tos_a, .ref d_widths_a, .int d_ribbons, .int d_trimmed])), (d_places_a, .inl (T.1, (16, .inl d_places))), (d_froms_a, .inl (T.1, (20, .inl (upd d_froms (x2 - (1 : Int32)).toNatClampNeg v40)))), (d_tos_a, .inl (T.1, (20, .inl d_tos))), (d_widths_a, .inl (T.1, (20, .inl d_widths)))] H := hP
        have hD : va_D A [(d_a, .inr (1, [.ref d_places_a, .ref d_froms_a, .ref d_tos_a, .ref d_widths_a, .int d_ribbons, .int d_trimmed])), (d_places_a, .inl (T.1, (16, .inl d_places))), (d_froms_a, .inl (T.1, (20, .inl (upd d_froms (x2 - (1 : Int32)).toNatClampNeg v40)))), (d_tos_a, .inl (T.1, (20, .inl d_tos))), (d_widths_a, .inl (T.1, (20, .inl d_widths)))] := hD
        refine lv_aload_n hx hb dX1_dropRibbon_41 rfl (lv_at hl 0 rfl) ?_
        refine va_get (D := D) (ci := 1) (v := .ref d_tos_a) (C := RX1) (T := TX1) (N := 6) hx hb hts iw_X1_dropRibbon_X1 hown hK hP 0 rfl rfl 2 (by decide) (hts (.fieldLink RX1 18 "RibbonPosts$Drawing" "tos" "[I") mw_X1_dropRibbon_2) (fun _ h9 => h9) rfl dX1_dropRibbon_42 ?_
        refine lv_iload_n hx hb dX1_dropRibbon_45 rfl (lv_at hl 1 rfl) ?_
        refine lv_iconst (v := (1 : Int32)) hx hb dX1_dropRibbon_46 (by decide) ?_
        refine lv_isub hx hb dX1_dropRibbon_47 ?_
        refine lv_aload_n hx hb dX1_dropRibbon_48 rfl (lv_at hl 0 rfl) ?_
        refine va_get (D := D) (ci := 1) (v := .ref d_tos_a) (C := RX1) (T := TX1) (N := 6) hx hb hts iw_X1_dropRibbon_X1 hown hK hP 0 rfl rfl 2 (by decide) (hts (.fieldLink RX1 18 "RibbonPosts$Drawing" "tos" "[I") mw_X1_dropRibbon_2) (fun _ h9 => h9) rfl dX1_dropRibbon_49 ?_
        refine lv_iload_n hx hb dX1_dropRibbon_52 rfl (lv_at hl 1 rfl) ?_
        obtain ⟨g_53, hf⟩ := gd_some hf
        refine va_iald (D := D) hx hb hK hP 3 0 rfl rfl (gd_in g_53) dX1_dropRibbon_53 ?_
        obtain ⟨v54, e_54, hf⟩ := nm_some hf
        refine lv_nmi e_54 ?_
        obtain ⟨g_54, hf⟩ := gd_some hf
        refine va_iast (D := D) hx hb hK hP hD hS 3 0 rfl rfl (gd_in g_54) dX1_dropRibbon_54 (fun H locs hP hD hS => ?_)
        have hP : va_P D vwCl [(d_a, .inr (1, [.ref d_places_a, .ref d_froms_a, .ref d_tos_a, .ref d_widths_a, .int d_ribbons, .int d_trimmed])), (d_places_a, .inl (T.1, (16, .inl d_places))), (d_froms_a, .inl (T.1, (20, .inl (upd d_froms (x2 - (1 : Int32)).toNatClampNeg v40)))), (d_tos_a, .inl (T.1, (20, .inl (upd d_tos (x2 - (1 : Int32)).toNatClampNeg v54)))), (d_widths_a, .inl (T.1, (20, .inl d_widths)))] H := hP
        have hD : va_D A [(d_a, .inr (1, [.ref d_places_a, .ref d_froms_a, .ref d_tos_a, .ref d_widths_a, .int d_ribbons, .int d_trimmed])), (d_places_a, .inl (T.1, (16, .inl d_places))), (d_froms_a, .inl (T.1, (20, .inl (upd d_froms (x2 - (1 : Int32)).toNatClampNeg v40)))), (d_tos_a, .inl (T.1, (20, .inl (upd d_tos (x2 - (1 : Int32)).toNatClampNeg v54)))), (d_widths_a, .inl (T.1, (20, .inl d_widths)))] := hD
        refine lv_aload_n hx hb dX1_dropRibbon_55 rfl (lv_at hl 0 rfl) ?_
        refine va_get (D := D) (ci := 1) (v := .ref d_widths_a) (C := RX1) (T := TX1) (N := 6) hx hb hts iw_X1_dropRibbon_X1 hown hK hP 0 rfl rfl 3 (by decide) (hts (.fieldLink RX1 21 "RibbonPosts$Drawing" "widths" "[I") mw_X1_dropRibbon_3) (fun _ h9 => h9) rfl dX1_dropRibbon_56 ?_
        refine lv_iload_n hx hb dX1_dropRibbon_59 rfl (lv_at hl 1 rfl) ?_
        refine lv_iconst (v := (1 : Int32)) hx hb dX1_dropRibbon_60 (by decide) ?_
        refine lv_isub hx hb dX1_dropRibbon_61 ?_
        refine lv_aload_n hx hb dX1_dropRibbon_62 rfl (lv_at hl 0 rfl) ?_
        refine va_get (D := D) (ci := 1) (v := .ref d_widths_a) (C := RX1) (T := TX1) (N := 6) hx hb hts iw_X1_dropRibbon_X1 hown hK hP 0 rfl rfl 3 (by decide) (hts (.fieldLink RX1 21 "RibbonPosts$Drawing" "widths" "[I") mw_X1_dropRibbon_3) (fun _ h9 => h9) rfl dX1_dropRibbon_63 ?_
        refine lv_iload_n hx hb dX1_dropRibbon_66 rfl (lv_at hl 1 rfl) ?_
        obtain ⟨g_67, hf⟩ := gd_some hf
        refine va_iald (D := D) hx hb hK hP 4 0 rfl rfl (gd_in g_67) dX1_dropRibbon_67 ?_
        obtain ⟨v68, e_68, hf⟩ := nm_some hf
        refine lv_nmi e_68 ?_
        obtain ⟨g_68, hf⟩ := gd_some hf
        refine va_iast (D := D) hx hb hK hP hD hS 4 0 rfl rfl (gd_in g_68) dX1_dropRibbon_68 (fun H locs hP hD hS => ?_)
        have hP : va_P D vwCl [(d_a, .inr (1, [.ref d_places_a, .ref d_froms_a, .ref d_tos_a, .ref d_widths_a, .int d_ribbons, .int d_trimmed])), (d_places_a, .inl (T.1, (16, .inl d_places))), (d_froms_a, .inl (T.1, (20, .inl (upd d_froms (x2 - (1 : Int32)).toNatClampNeg v40)))), (d_tos_a, .inl (T.1, (20, .inl (upd d_tos (x2 - (1 : Int32)).toNatClampNeg v54)))), (d_widths_a, .inl (T.1, (20, .inl (upd d_widths (x2 - (1 : Int32)).toNatClampNeg v68))))] H := hP
        have hD : va_D A [(d_a, .inr (1, [.ref d_places_a, .ref d_froms_a, .ref d_tos_a, .ref d_widths_a, .int d_ribbons, .int d_trimmed])), (d_places_a, .inl (T.1, (16, .inl d_places))), (d_froms_a, .inl (T.1, (20, .inl (upd d_froms (x2 - (1 : Int32)).toNatClampNeg v40)))), (d_tos_a, .inl (T.1, (20, .inl (upd d_tos (x2 - (1 : Int32)).toNatClampNeg v54)))), (d_widths_a, .inl (T.1, (20, .inl (upd d_widths (x2 - (1 : Int32)).toNatClampNeg v68))))] := hD
        obtain ⟨v69, e_69, hf⟩ := nm_some hf
        refine lv_iinc (v := v69) (lv' := [(2, .int v69), (0, .ref d_a)]) hx hb dX1_dropRibbon_69 hl (k := 1) rfl (by rw [e_69]; rfl) (by decide) rfl (fun ls hl => ?_)
        refine lv_goto (tgt := 13) hx hb dX1_dropRibbon_72 (by decide) ?_
        exact ih _ _ _ _ _ hf _ _ hP hD hS _ (lv_sub hl [1, 0] rfl)
set_option maxHeartbeats 4000000 in
set_option maxRecDepth 100000 in
theorem w_X1_dropRibbon_b0 {p : Program} {l : Launch} {e : Env} {s : State} {m : MethodId} {args : Array Value} {below : List Frame} {meth : Method} {c : Code} {D : va_G} {T : TY} {d_a d_places_a d_froms_a d_tos_a d_widths_a : Nat} {d_places : Nat → Int32} {d_trimmed : Int32} {x1 : Int32} {res : (Nat → Int32) × (Nat → Int32) × (Nat → Int32) × Int32} {A : Nat → Prop} (C : CX p s m args meth c cX1_dropRibbon 3 RX1 wsX1_dropRibbon none D T) (hA : ∀ q, s.heap.size ≤ q → A q) : ∀ d_froms : Nat → Int32, ∀ d_tos : Nat → Int32, ∀ d_widths : Nat → Int32, ∀ d_ribbons : Int32, f_X1_dropRibbon x1 d_froms d_tos d_widths d_ribbons = some res → ∀ (H : Heap) (locs : List Loc), va_P D vwCl [(d_a, .inr (1, [.ref d_places_a, .ref d_froms_a, .ref d_tos_a, .ref d_widths_a, .int d_ribbons, .int d_trimmed])), (d_places_a, .inl (T.1, (16, .inl d_places))), (d_froms_a, .inl (T.1, (20, .inl d_froms))), (d_tos_a, .inl (T.1, (20, .inl d_tos))), (d_widths_a, .inl (T.1, (20, .inl d_widths)))] H → va_D A [(d_a, .inr (1, [.ref d_places_a, .ref d_froms_a, .ref d_tos_a, .ref d_widths_a, .int d_ribbons, .int d_trimmed])), (d_places_a, .inl (T.1, (16, .inl d_places))), (d_froms_a, .inl (T.1, (20, .inl d_froms))), (d_tos_a, .inl (T.1, (20, .inl d_tos))), (d_widths_a, .inl (T.1, (20, .inl d_widths)))] → va_S A s.heap H locs → ∀ ls : Array Slot, lv_has ls 3 [(0, .ref d_a), (1, .int x1)] → W p l e rmX1_dropRibbon s m args below meth c H locs 0 0 (MQ below (Qm none D (fun W9 => W9 = [(d_a, .inr (1, [.ref d_places_a, .ref d_froms_a, .ref d_tos_a, .ref d_widths_a, .int res.2.2.2, .int d_trimmed])), (d_places_a, .inl (T.1, (16, .inl d_places))), (d_froms_a, .inl (T.1, (20, .inl res.1))), (d_tos_a, .inl (T.1, (20, .inl res.2.1))), (d_widths_a, .inl (T.1, (20, .inl res.2.2.1)))]) A) args s 0 0 A) (F0 m 0 ls []) := by
  obtain ⟨hx, hb, hml, hown, hts, hr, hlocks, hK, hN⟩ := id C
  intro d_froms d_tos d_widths d_ribbons hf H locs hP hD hS ls hl
  unfold f_X1_dropRibbon at hf
  refine lv_aload_n hx hb dX1_dropRibbon_0 rfl (lv_at hl 0 rfl) ?_
  refine lv_iload_n hx hb dX1_dropRibbon_1 rfl (lv_at hl 1 rfl) ?_
  obtain ⟨q2, e_2, hf⟩ := bd_some hf
  refine callPi (va_runV (As := [.int x1]) (rest := []) ⟨hx, hb, hml, hown, hts⟩ (c_X1_hasRibbon l D T d_a d_places_a d_froms_a d_tos_a d_widths_a d_places d_froms d_tos d_widths d_ribbons d_trimmed x1 q2 e_2) (cwV 1 hts gX1_dropRibbon_X1_hasRibbon rfl rfl rfl hdV_X1_hasRibbon ⟨Nat.le_of_ble_eq_true rfl, Nat.le_of_ble_eq_true rfl⟩) (preBV hP hK hN rfl 0 rfl) rfl rfl hl.1 rfl (lv_room (Nat.le_of_ble_eq_true rfl)) dX1_dropRibbon_2 ⟨Nat.le_of_ble_eq_true rfl, Nat.le_of_ble_eq_true rfl⟩) ?_
  refine lv_if_ne (tgt := 9) hx hb dX1_dropRibbon_5 (by decide) (fun c_5 => ?_) (fun c_5 => ?_)
  · have hf := it_neg c_5 hf
    refine lv_iload_n hx hb dX1_dropRibbon_9 rfl (lv_at hl 1 rfl) ?_
    refine lv_iconst (v := (1 : Int32)) hx hb dX1_dropRibbon_10 (by decide) ?_
    refine lv_iadd hx hb dX1_dropRibbon_11 ?_
    obtain ⟨v12, e_12, hf⟩ := nm_some hf
    refine lv_nmi e_12 ?_
    refine lv_istore_n (lv' := [(2, .int v12), (0, .ref d_a), (1, .int x1)]) hx hb dX1_dropRibbon_12 rfl hl (by decide) rfl (fun ls hl => ?_)
    exact w_X1_dropRibbon_b13 C hA _ _ _ _ _ _ hf _ _ hP hD hS _ (lv_sub hl [1, 0] rfl)
  · have hf := it_pos c_5 hf
    obtain rfl := Option.some.inj hf
    exact W.vret hx hb hr (fun t ht hW => ⟨rfl, ⟨_, rfl, by rw [ht]; exact hP, hD⟩, hS.F ht⟩) hS.2.2 dX1_dropRibbon_8 hlocks
theorem c_X1_dropRibbon (l : Launch) (D : va_G) (T : TY) (d_a d_places_a d_froms_a d_tos_a d_widths_a : Nat) (d_places : Nat → Int32) (d_froms : Nat → Int32) (d_tos : Nat → Int32) (d_widths : Nat → Int32) (d_ribbons : Int32) (d_trimmed : Int32) (x1 : Int32) (res : (Nat → Int32) × (Nat → Int32) × (Nat → Int32) × Int32) (hf : f_X1_dropRibbon x1 d_froms d_tos d_widths d_ribbons = some res) (sz : Nat) : Met l yX1_dropRibbon wsX1_dropRibbon rmX1_dropRibbon (va_Pc [.ref d_a, .int x1] (PM D T [(d_a, .inr (1, [.ref d_places_a, .ref d_froms_a, .ref d_tos_a, .ref d_widths_a, .int d_ribbons, .int d_trimmed])), (d_places_a, .inl (T.1, (16, .inl d_places))), (d_froms_a, .inl (T.1, (20, .inl d_froms))), (d_tos_a, .inl (T.1, (20, .inl d_tos))), (d_widths_a, .inl (T.1, (20, .inl d_widths)))] sz)) (Qm none D (fun W9 => W9 = [(d_a, .inr (1, [.ref d_places_a, .ref d_froms_a, .ref d_tos_a, .ref d_widths_a, .int res.2.2.2, .int d_trimmed])), (d_places_a, .inl (T.1, (16, .inl d_places))), (d_froms_a, .inl (T.1, (20, .inl res.1))), (d_tos_a, .inl (T.1, (20, .inl res.2.1))), (d_widths_a, .inl (T.1, (20, .inl res.2.2.1)))]) (va_A [(d_a, .inr (1, [.ref d_places_a, .ref d_froms_a, .ref d_tos_a, .ref d_widths_a, .int d_ribbons, .int d_trimmed])), (d_places_a, .inl (T.1, (16, .inl d_places))), (d_froms_a, .inl (T.1, (20, .inl d_froms))), (d_tos_a, .inl (T.1, (20, .inl d_tos))), (d_widths_a, .inl (T.1, (20, .inl d_widths)))] sz)) 0 0 (va_A [(d_a, .inr (1, [.ref d_places_a, .ref d_froms_a, .ref d_tos_a, .ref d_widths_a, .int d_ribbons, .int d_trimmed])), (d_places_a, .inl (T.1, (16, .inl d_places))), (d_froms_a, .inl (T.1, (20, .inl d_froms))), (d_tos_a, .inl (T.1, (20, .inl d_tos))), (d_widths_a, .inl (T.1, (20, .inl d_widths)))] sz) :=
  metM_of (by decide +kernel) rfl (Nat.le_of_ble_eq_true rfl) (fun p e s m args below meth c C hnm A hA hP hD ls hl => w_X1_dropRibbon_b0 C hA _ _ _ _ hf _ _ hP hD va_S.rf ls hl)
def rmX1_placeOf : Room := { frames := 0, cells := 0, slots := 0, locals := 0 }
theorem hdV_X1_placeOf : yX1_placeOf.cls = RX1 ∧ yX1_placeOf.cls ≠ "java/lang/invoke/MethodHandle" ∧ yX1_placeOf.cls ≠ "java/lang/invoke/VarHandle" ∧ (parseMethodDescriptor yX1_placeOf.desc).map (fun d => d.parameters.length) = some 1 := by decide +kernel
theorem iw_X1_placeOf_X1 : ∀ w ∈ wsX10, w ∈ wsX1_placeOf := by decide +kernel
theorem mw_X1_placeOf_0 : Cond.fieldLink RX1 9 "RibbonPosts$Drawing" "places" "[I" ∈ wsX1_placeOf := by decide +kernel
set_option maxHeartbeats 4000000 in
set_option maxRecDepth 100000 in
theorem w_X1_placeOf_b0 {p : Program} {l : Launch} {e : Env} {s : State} {m : MethodId} {args : Array Value} {below : List Frame} {meth : Method} {c : Code} {D : va_G} {T : TY} {d_a d_places_a d_froms_a d_tos_a d_widths_a : Nat} {d_places : Nat → Int32} {d_froms : Nat → Int32} {d_tos : Nat → Int32} {d_widths : Nat → Int32} {d_ribbons : Int32} {d_trimmed : Int32} {x1 : Int32} {res : Int32} (C : CX p s m args meth c cX1_placeOf 2 RX1 wsX1_placeOf (some .int) D T) (hP : va_P D vwCl [(d_a, .inr (1, [.ref d_places_a, .ref d_froms_a, .ref d_tos_a, .ref d_widths_a, .int d_ribbons, .int d_trimmed])), (d_places_a, .inl (T.1, (16, .inl d_places))), (d_froms_a, .inl (T.1, (20, .inl d_froms))), (d_tos_a, .inl (T.1, (20, .inl d_tos))), (d_widths_a, .inl (T.1, (20, .inl d_widths)))] s.heap) : f_X1_placeOf d_places x1 = some res → ∀ ls : Array Slot, lv_has ls 2 [(0, .ref d_a), (1, .int x1)] → W p l e rmX1_placeOf s m args below meth c s.heap [] 0 0 (MQ below (Qp (some (.int res))) args s 0 0 (fun _ => False)) (F0 m 0 ls []) := by
  obtain ⟨hx, hb, hml, hown, hts, hr, hlocks, hK, hN⟩ := id C
  intro  hf ls hl
  unfold f_X1_placeOf at hf
  refine lv_iload_n hx hb dX1_placeOf_0 rfl (lv_at hl 1 rfl) ?_
  refine lv_if_lt (tgt := 19) hx hb dX1_placeOf_1 (by decide) (fun c_1 => ?_) (fun c_1 => ?_)
  · have hf := it_pos c_1 hf
    refine lv_iconst (v := (0 : Int32)) hx hb dX1_placeOf_19 (by decide) ?_
    obtain rfl := Option.some.inj hf
    exact W.iret hx hb hr (fun t ht hW => ⟨rfl, ht⟩) (fun q hq => absurd hq List.not_mem_nil) dX1_placeOf_20 hlocks
  · have hf := it_neg c_1 hf
    refine lv_iload_n hx hb dX1_placeOf_4 rfl (lv_at hl 1 rfl) ?_
    refine lv_bipush (v := (16 : Int32)) hx hb dX1_placeOf_5 (by decide) ?_
    refine lv_icmp_ge (tgt := 19) hx hb dX1_placeOf_7 (by decide) (fun c_7 => ?_) (fun c_7 => ?_)
    · have hf := it_pos c_7 hf
      refine lv_iconst (v := (0 : Int32)) hx hb dX1_placeOf_19 (by decide) ?_
      obtain rfl := Option.some.inj hf
      exact W.iret hx hb hr (fun t ht hW => ⟨rfl, ht⟩) (fun q hq => absurd hq List.not_mem_nil) dX1_placeOf_20 hlocks
    · have hf := it_neg c_7 hf
      refine lv_aload_n hx hb dX1_placeOf_10 rfl (lv_at hl 0 rfl) ?_
      refine va_get (D := D) (ci := 1) (v := .ref d_places_a) (C := RX1) (T := TX1) (N := 6) hx hb hts iw_X1_placeOf_X1 hown hK hP 0 rfl rfl 0 (by decide) (hts (.fieldLink RX1 9 "RibbonPosts$Drawing" "places" "[I") mw_X1_placeOf_0) (fun _ h9 => h9) rfl dX1_placeOf_11 ?_
      refine lv_iload_n hx hb dX1_placeOf_14 rfl (lv_at hl 1 rfl) ?_
      obtain ⟨g_15, hf⟩ := gd_some hf
      refine va_iald (D := D) hx hb hK hP 1 0 rfl rfl (gd_in g_15) dX1_placeOf_15 ?_
      refine lv_goto (tgt := 20) hx hb dX1_placeOf_16 (by decide) ?_
      obtain rfl := Option.some.inj hf
      exact W.iret hx hb hr (fun t ht hW => ⟨rfl, ht⟩) (fun q hq => absurd hq List.not_mem_nil) dX1_placeOf_20 hlocks
theorem c_X1_placeOf (l : Launch) (D : va_G) (T : TY) (d_a d_places_a d_froms_a d_tos_a d_widths_a : Nat) (d_places : Nat → Int32) (d_froms : Nat → Int32) (d_tos : Nat → Int32) (d_widths : Nat → Int32) (d_ribbons : Int32) (d_trimmed : Int32) (x1 : Int32) (res : Int32) (hf : f_X1_placeOf d_places x1 = some res) : Met l yX1_placeOf wsX1_placeOf rmX1_placeOf (va_Pc [.ref d_a, .int x1] (PB D T [(d_a, .inr (1, [.ref d_places_a, .ref d_froms_a, .ref d_tos_a, .ref d_widths_a, .int d_ribbons, .int d_trimmed])), (d_places_a, .inl (T.1, (16, .inl d_places))), (d_froms_a, .inl (T.1, (20, .inl d_froms))), (d_tos_a, .inl (T.1, (20, .inl d_tos))), (d_widths_a, .inl (T.1, (20, .inl d_widths)))])) (Qp (some (.int res))) 0 0 (fun _ => False) :=
  metP_of (by decide +kernel) rfl (Nat.le_of_ble_eq_true rfl) (fun p e s m args below meth c C hP ls hl => w_X1_placeOf_b0 C hP hf ls hl)
def rmX1_setPlace : Room := { frames := 1, cells := 0, slots := 0, locals := 20 }
theorem hdV_X1_setPlace : yX1_setPlace.cls = RX1 ∧ yX1_setPlace.cls ≠ "java/lang/invoke/MethodHandle" ∧ yX1_setPlace.cls ≠ "java/lang/invoke/VarHandle" ∧ (parseMethodDescriptor yX1_setPlace.desc).map (fun d => d.parameters.length) = some 2 := by decide +kernel
theorem iw_X1_setPlace_X1 : ∀ w ∈ wsX10, w ∈ wsX1_setPlace := by decide +kernel
theorem mw_X1_setPlace_0 : Cond.fieldLink RX1 9 "RibbonPosts$Drawing" "places" "[I" ∈ wsX1_setPlace := by decide +kernel
theorem mw_X1_setPlace_1 : Cond.static yX6_isPost ∈ wsX1_setPlace := by decide +kernel
theorem mw_X1_setPlace_2 : Cond.initialized RX6 ∈ wsX1_setPlace := by decide +kernel
set_option maxHeartbeats 4000000 in
set_option maxRecDepth 100000 in
theorem w_X1_setPlace_b0 {p : Program} {l : Launch} {e : Env} {s : State} {m : MethodId} {args : Array Value} {below : List Frame} {meth : Method} {c : Code} {D : va_G} {T : TY} {d_a d_places_a d_froms_a d_tos_a d_widths_a : Nat} {d_froms : Nat → Int32} {d_tos : Nat → Int32} {d_widths : Nat → Int32} {d_ribbons : Int32} {d_trimmed : Int32} {x1 : Int32} {x2 : Int32} {res : (Nat → Int32)} {A : Nat → Prop} (C : CX p s m args meth c cX1_setPlace 3 RX1 wsX1_setPlace none D T) (hA : ∀ q, s.heap.size ≤ q → A q) : ∀ d_places : Nat → Int32, f_X1_setPlace x1 x2 d_places = some res → ∀ (H : Heap) (locs : List Loc), va_P D vwCl [(d_a, .inr (1, [.ref d_places_a, .ref d_froms_a, .ref d_tos_a, .ref d_widths_a, .int d_ribbons, .int d_trimmed])), (d_places_a, .inl (T.1, (16, .inl d_places))), (d_froms_a, .inl (T.1, (20, .inl d_froms))), (d_tos_a, .inl (T.1, (20, .inl d_tos))), (d_widths_a, .inl (T.1, (20, .inl d_widths)))] H → va_D A [(d_a, .inr (1, [.ref d_places_a, .ref d_froms_a, .ref d_tos_a, .ref d_widths_a, .int d_ribbons, .int d_trimmed])), (d_places_a, .inl (T.1, (16, .inl d_places))), (d_froms_a, .inl (T.1, (20, .inl d_froms))), (d_tos_a, .inl (T.1, (20, .inl d_tos))), (d_widths_a, .inl (T.1, (20, .inl d_widths)))] → va_S A s.heap H locs → ∀ ls : Array Slot, lv_has ls 3 [(0, .ref d_a), (1, .int x1), (2, .int x2)] → W p l e rmX1_setPlace s m args below meth c H locs 0 0 (MQ below (Qm none D (fun W9 => W9 = [(d_a, .inr (1, [.ref d_places_a, .ref d_froms_a, .ref d_tos_a, .ref d_widths_a, .int d_ribbons, .int d_trimmed])), (d_places_a, .inl (T.1, (16, .inl res))), (d_froms_a, .inl (T.1, (20, .inl d_froms))), (d_tos_a, .inl (T.1, (20, .inl d_tos))), (d_widths_a, .inl (T.1, (20, .inl d_widths)))]) A) args s 0 0 A) (F0 m 0 ls []) := by
  obtain ⟨hx, hb, hml, hown, hts, hr, hlocks, hK, hN⟩ := id C
  intro d_places hf H locs hP hD hS ls hl
  unfold f_X1_setPlace at hf
  refine lv_iload_n hx hb dX1_setPlace_0 rfl (lv_at hl 1 rfl) ?_
  obtain ⟨q1, e_1, hf⟩ := bd_some hf
  refine callPi (va_runSN (As := [.int x1]) (rest := []) ⟨hx, hb, hml, hown, hts⟩ (c_X6_isPost l D T x1 q1 e_1) ⟨va_cnB 1 hts gX1_setPlace_X6_isPost_n41 rfl rfl rfl (hN.m 5 rfl) (hts (.initialized RX6) mw_X1_setPlace_2) hdS_X6_isPost ⟨Nat.le_of_ble_eq_true rfl, Nat.le_of_ble_eq_true rfl⟩, (hts (.static yX6_isPost) mw_X1_setPlace_1), trivial⟩ (preBS va_P0 hK hN) rfl rfl hl.1 rfl (lv_room (Nat.le_of_ble_eq_true rfl)) dX1_setPlace_1 ⟨Nat.le_of_ble_eq_true rfl, Nat.le_of_ble_eq_true rfl⟩) ?_
  refine lv_if_eq (tgt := 14) hx hb dX1_setPlace_4 (by decide) (fun c_4 => ?_) (fun c_4 => ?_)
  · have hf := it_pos c_4 hf
    obtain rfl := Option.some.inj hf
    exact W.vret hx hb hr (fun t ht hW => ⟨rfl, ⟨_, rfl, by rw [ht]; exact hP, hD⟩, hS.F ht⟩) hS.2.2 dX1_setPlace_14 hlocks
  · have hf := it_neg c_4 hf
    refine lv_aload_n hx hb dX1_setPlace_7 rfl (lv_at hl 0 rfl) ?_
    refine va_get (D := D) (ci := 1) (v := .ref d_places_a) (C := RX1) (T := TX1) (N := 6) hx hb hts iw_X1_setPlace_X1 hown hK hP 0 rfl rfl 0 (by decide) (hts (.fieldLink RX1 9 "RibbonPosts$Drawing" "places" "[I") mw_X1_setPlace_0) (fun _ h9 => h9) rfl dX1_setPlace_8 ?_
    refine lv_iload_n hx hb dX1_setPlace_11 rfl (lv_at hl 1 rfl) ?_
    refine lv_iload_n hx hb dX1_setPlace_12 rfl (lv_at hl 2 rfl) ?_
    obtain ⟨g_13, hf⟩ := gd_some hf
    refine va_iast (D := D) hx hb hK hP hD hS 1 0 rfl rfl (gd_in g_13) dX1_setPlace_13 (fun H locs hP hD hS => ?_)
    have hP : va_P D vwCl [(d_a, .inr (1, [.ref d_places_a, .ref d_froms_a, .ref d_tos_a, .ref d_widths_a, .int d_ribbons, .int d_trimmed])), (d_places_a, .inl (T.1, (16, .inl (upd d_places x1.toNatClampNeg x2)))), (d_froms_a, .inl (T.1, (20, .inl d_froms))), (d_tos_a, .inl (T.1, (20, .inl d_tos))), (d_widths_a, .inl (T.1, (20, .inl d_widths)))] H := hP
    have hD : va_D A [(d_a, .inr (1, [.ref d_places_a, .ref d_froms_a, .ref d_tos_a, .ref d_widths_a, .int d_ribbons, .int d_trimmed])), (d_places_a, .inl (T.1, (16, .inl (upd d_places x1.toNatClampNeg x2)))), (d_froms_a, .inl (T.1, (20, .inl d_froms))), (d_tos_a, .inl (T.1, (20, .inl d_tos))), (d_widths_a, .inl (T.1, (20, .inl d_widths)))] := hD
    obtain rfl := Option.some.inj hf
    exact W.vret hx hb hr (fun t ht hW => ⟨rfl, ⟨_, rfl, by rw [ht]; exact hP, hD⟩, hS.F ht⟩) hS.2.2 dX1_setPlace_14 hlocks
theorem c_X1_setPlace (l : Launch) (D : va_G) (T : TY) (d_a d_places_a d_froms_a d_tos_a d_widths_a : Nat) (d_places : Nat → Int32) (d_froms : Nat → Int32) (d_tos : Nat → Int32) (d_widths : Nat → Int32) (d_ribbons : Int32) (d_trimmed : Int32) (x1 : Int32) (x2 : Int32) (res : (Nat → Int32)) (hf : f_X1_setPlace x1 x2 d_places = some res) (sz : Nat) : Met l yX1_setPlace wsX1_setPlace rmX1_setPlace (va_Pc [.ref d_a, .int x1, .int x2] (PM D T [(d_a, .inr (1, [.ref d_places_a, .ref d_froms_a, .ref d_tos_a, .ref d_widths_a, .int d_ribbons, .int d_trimmed])), (d_places_a, .inl (T.1, (16, .inl d_places))), (d_froms_a, .inl (T.1, (20, .inl d_froms))), (d_tos_a, .inl (T.1, (20, .inl d_tos))), (d_widths_a, .inl (T.1, (20, .inl d_widths)))] sz)) (Qm none D (fun W9 => W9 = [(d_a, .inr (1, [.ref d_places_a, .ref d_froms_a, .ref d_tos_a, .ref d_widths_a, .int d_ribbons, .int d_trimmed])), (d_places_a, .inl (T.1, (16, .inl res))), (d_froms_a, .inl (T.1, (20, .inl d_froms))), (d_tos_a, .inl (T.1, (20, .inl d_tos))), (d_widths_a, .inl (T.1, (20, .inl d_widths)))]) (va_A [(d_a, .inr (1, [.ref d_places_a, .ref d_froms_a, .ref d_tos_a, .ref d_widths_a, .int d_ribbons, .int d_trimmed])), (d_places_a, .inl (T.1, (16, .inl d_places))), (d_froms_a, .inl (T.1, (20, .inl d_froms))), (d_tos_a, .inl (T.1, (20, .inl d_tos))), (d_widths_a, .inl (T.1, (20, .inl d_widths)))] sz)) 0 0 (va_A [(d_a, .inr (1, [.ref d_places_a, .ref d_froms_a, .ref d_tos_a, .ref d_widths_a, .int d_ribbons, .int d_trimmed])), (d_places_a, .inl (T.1, (16, .inl d_places))), (d_froms_a, .inl (T.1, (20, .inl d_froms))), (d_tos_a, .inl (T.1, (20, .inl d_tos))), (d_widths_a, .inl (T.1, (20, .inl d_widths)))] sz) :=
  metM_of (by decide +kernel) rfl (Nat.le_of_ble_eq_true rfl) (fun p e s m args below meth c C hnm A hA hP hD ls hl => w_X1_setPlace_b0 C hA _ hf _ _ hP hD va_S.rf ls hl)
def rmX1_exchangePlaces : Room := { frames := 2, cells := 0, slots := 0, locals := 42 }
theorem hdV_X1_exchangePlaces : yX1_exchangePlaces.cls = RX1 ∧ yX1_exchangePlaces.cls ≠ "java/lang/invoke/MethodHandle" ∧ yX1_exchangePlaces.cls ≠ "java/lang/invoke/VarHandle" ∧ (parseMethodDescriptor yX1_exchangePlaces.desc).map (fun d => d.parameters.length) = some 2 := by decide +kernel
set_option maxHeartbeats 4000000 in
set_option maxRecDepth 100000 in
theorem w_X1_exchangePlaces_b0 {p : Program} {l : Launch} {e : Env} {s : State} {m : MethodId} {args : Array Value} {below : List Frame} {meth : Method} {c : Code} {D : va_G} {T : TY} {d_a d_places_a d_froms_a d_tos_a d_widths_a : Nat} {d_froms : Nat → Int32} {d_tos : Nat → Int32} {d_widths : Nat → Int32} {d_ribbons : Int32} {d_trimmed : Int32} {x1 : Int32} {x2 : Int32} {res : (Nat → Int32)} {A : Nat → Prop} (C : CX p s m args meth c cX1_exchangePlaces 4 RX1 wsX1_exchangePlaces none D T) (hA : ∀ q, s.heap.size ≤ q → A q) : ∀ d_places : Nat → Int32, f_X1_exchangePlaces x1 x2 d_places = some res → ∀ (H : Heap) (locs : List Loc), va_P D vwCl [(d_a, .inr (1, [.ref d_places_a, .ref d_froms_a, .ref d_tos_a, .ref d_widths_a, .int d_ribbons, .int d_trimmed])), (d_places_a, .inl (T.1, (16, .inl d_places))), (d_froms_a, .inl (T.1, (20, .inl d_froms))), (d_tos_a, .inl (T.1, (20, .inl d_tos))), (d_widths_a, .inl (T.1, (20, .inl d_widths)))] H → va_D A [(d_a, .inr (1, [.ref d_places_a, .ref d_froms_a, .ref d_tos_a, .ref d_widths_a, .int d_ribbons, .int d_trimmed])), (d_places_a, .inl (T.1, (16, .inl d_places))), (d_froms_a, .inl (T.1, (20, .inl d_froms))), (d_tos_a, .inl (T.1, (20, .inl d_tos))), (d_widths_a, .inl (T.1, (20, .inl d_widths)))] → va_S A s.heap H locs → ∀ ls : Array Slot, lv_has ls 4 [(0, .ref d_a), (1, .int x1), (2, .int x2)] → W p l e rmX1_exchangePlaces s m args below meth c H locs 0 0 (MQ below (Qm none D (fun W9 => W9 = [(d_a, .inr (1, [.ref d_places_a, .ref d_froms_a, .ref d_tos_a, .ref d_widths_a, .int d_ribbons, .int d_trimmed])), (d_places_a, .inl (T.1, (16, .inl res))), (d_froms_a, .inl (T.1, (20, .inl d_froms))), (d_tos_a, .inl (T.1, (20, .inl d_tos))), (d_widths_a, .inl (T.1, (20, .inl d_widths)))]) A) args s 0 0 A) (F0 m 0 ls []) := by
  obtain ⟨hx, hb, hml, hown, hts, hr, hlocks, hK, hN⟩ := id C
  intro d_places hf H locs hP hD hS ls hl
  unfold f_X1_exchangePlaces at hf
  refine lv_aload_n hx hb dX1_exchangePlaces_0 rfl (lv_at hl 0 rfl) ?_
  refine lv_iload_n hx hb dX1_exchangePlaces_1 rfl (lv_at hl 1 rfl) ?_
  obtain ⟨q2, e_2, hf⟩ := bd_some hf
  refine callPi (va_runV (As := [.int x1]) (rest := []) ⟨hx, hb, hml, hown, hts⟩ (c_X1_placeOf l D T d_a d_places_a d_froms_a d_tos_a d_widths_a d_places d_froms d_tos d_widths d_ribbons d_trimmed x1 q2 e_2) (cwV 1 hts gX1_exchangePlaces_X1_placeOf rfl rfl rfl hdV_X1_placeOf ⟨Nat.le_of_ble_eq_true rfl, Nat.le_of_ble_eq_true rfl⟩) (preBV hP hK hN rfl 0 rfl) rfl rfl hl.1 rfl (lv_room (Nat.le_of_ble_eq_true rfl)) dX1_exchangePlaces_2 ⟨Nat.le_of_ble_eq_true rfl, Nat.le_of_ble_eq_true rfl⟩) ?_
  refine lv_istore_n (lv' := [(3, .int q2), (0, .ref d_a), (1, .int x1), (2, .int x2)]) hx hb dX1_exchangePlaces_5 rfl hl (by decide) rfl (fun ls hl => ?_)
  refine lv_aload_n hx hb dX1_exchangePlaces_6 rfl (lv_at hl 1 rfl) ?_
  refine lv_iload_n hx hb dX1_exchangePlaces_7 rfl (lv_at hl 2 rfl) ?_
  refine lv_aload_n hx hb dX1_exchangePlaces_8 rfl (lv_at hl 1 rfl) ?_
  refine lv_iload_n hx hb dX1_exchangePlaces_9 rfl (lv_at hl 3 rfl) ?_
  obtain ⟨q10, e_10, hf⟩ := bd_some hf
  refine callPi (va_runV (As := [.int x2]) (rest := [.int x1, .ref d_a]) ⟨hx, hb, hml, hown, hts⟩ (c_X1_placeOf l D T d_a d_places_a d_froms_a d_tos_a d_widths_a d_places d_froms d_tos d_widths d_ribbons d_trimmed x2 q10 e_10) (cwV 1 hts gX1_exchangePlaces_X1_placeOf rfl rfl rfl hdV_X1_placeOf ⟨Nat.le_of_ble_eq_true rfl, Nat.le_of_ble_eq_true rfl⟩) (preBV hP hK hN rfl 0 rfl) rfl rfl hl.1 rfl (lv_room (Nat.le_of_ble_eq_true rfl)) dX1_exchangePlaces_10 ⟨Nat.le_of_ble_eq_true rfl, Nat.le_of_ble_eq_true rfl⟩) ?_
  obtain ⟨q13, e_13, hf⟩ := bd_some hf
  refine callMv (wr := []) (ws' := [(d_a, .inr (1, [.ref d_places_a, .ref d_froms_a, .ref d_tos_a, .ref d_widths_a, .int d_ribbons, .int d_trimmed])), (d_places_a, .inl (T.1, (16, .inl q13))), (d_froms_a, .inl (T.1, (20, .inl d_froms))), (d_tos_a, .inl (T.1, (20, .inl d_tos))), (d_widths_a, .inl (T.1, (20, .inl d_widths)))]) (va_runV (As := [.int x1, .int q10]) (rest := []) ⟨hx, hb, hml, hown, hts⟩ (c_X1_setPlace l D T d_a d_places_a d_froms_a d_tos_a d_widths_a d_places d_froms d_tos d_widths d_ribbons d_trimmed x1 q10 q13 e_13 H.size) (cwV 2 hts gX1_exchangePlaces_X1_setPlace rfl rfl rfl hdV_X1_setPlace ⟨Nat.le_of_ble_eq_true rfl, Nat.le_of_ble_eq_true rfl⟩) (preMV hP hD hK hN rfl 0 rfl) rfl rfl hl.1 rfl (lv_room (Nat.le_of_ble_eq_true rfl)) dX1_exchangePlaces_13 ⟨Nat.le_of_ble_eq_true rfl, Nat.le_of_ble_eq_true rfl⟩) hP hD hS hA [0, 1, 2, 3, 4] [] [0, 1, 2, 3, 4] rfl rfl rfl rfl rfl rfl (fun H locs hP hD hS => ?_)
  refine lv_aload_n hx hb dX1_exchangePlaces_16 rfl (lv_at hl 1 rfl) ?_
  refine lv_iload_n hx hb dX1_exchangePlaces_17 rfl (lv_at hl 3 rfl) ?_
  refine lv_iload_n hx hb dX1_exchangePlaces_18 rfl (lv_at hl 0 rfl) ?_
  obtain ⟨q19, e_19, hf⟩ := bd_some hf
  refine callMv (wr := []) (ws' := [(d_a, .inr (1, [.ref d_places_a, .ref d_froms_a, .ref d_tos_a, .ref d_widths_a, .int d_ribbons, .int d_trimmed])), (d_places_a, .inl (T.1, (16, .inl q19))), (d_froms_a, .inl (T.1, (20, .inl d_froms))), (d_tos_a, .inl (T.1, (20, .inl d_tos))), (d_widths_a, .inl (T.1, (20, .inl d_widths)))]) (va_runV (As := [.int x2, .int q2]) (rest := []) ⟨hx, hb, hml, hown, hts⟩ (c_X1_setPlace l D T d_a d_places_a d_froms_a d_tos_a d_widths_a q13 d_froms d_tos d_widths d_ribbons d_trimmed x2 q2 q19 e_19 H.size) (cwV 2 hts gX1_exchangePlaces_X1_setPlace rfl rfl rfl hdV_X1_setPlace ⟨Nat.le_of_ble_eq_true rfl, Nat.le_of_ble_eq_true rfl⟩) (preMV hP hD hK hN rfl 0 rfl) rfl rfl hl.1 rfl (lv_room (Nat.le_of_ble_eq_true rfl)) dX1_exchangePlaces_19 ⟨Nat.le_of_ble_eq_true rfl, Nat.le_of_ble_eq_true rfl⟩) hP hD hS hA [0, 1, 2, 3, 4] [] [0, 1, 2, 3, 4] rfl rfl rfl rfl rfl rfl (fun H locs hP hD hS => ?_)
  obtain rfl := Option.some.inj hf
  exact W.vret hx hb hr (fun t ht hW => ⟨rfl, ⟨_, rfl, by rw [ht]; exact hP, hD⟩, hS.F ht⟩) hS.2.2 dX1_exchangePlaces_22 hlocks
theorem c_X1_exchangePlaces (l : Launch) (D : va_G) (T : TY) (d_a d_places_a d_froms_a d_tos_a d_widths_a : Nat) (d_places : Nat → Int32) (d_froms : Nat → Int32) (d_tos : Nat → Int32) (d_widths : Nat → Int32) (d_ribbons : Int32) (d_trimmed : Int32) (x1 : Int32) (x2 : Int32) (res : (Nat → Int32)) (hf : f_X1_exchangePlaces x1 x2 d_places = some res) (sz : Nat) : Met l yX1_exchangePlaces wsX1_exchangePlaces rmX1_exchangePlaces (va_Pc [.ref d_a, .int x1, .int x2] (PM D T [(d_a, .inr (1, [.ref d_places_a, .ref d_froms_a, .ref d_tos_a, .ref d_widths_a, .int d_ribbons, .int d_trimmed])), (d_places_a, .inl (T.1, (16, .inl d_places))), (d_froms_a, .inl (T.1, (20, .inl d_froms))), (d_tos_a, .inl (T.1, (20, .inl d_tos))), (d_widths_a, .inl (T.1, (20, .inl d_widths)))] sz)) (Qm none D (fun W9 => W9 = [(d_a, .inr (1, [.ref d_places_a, .ref d_froms_a, .ref d_tos_a, .ref d_widths_a, .int d_ribbons, .int d_trimmed])), (d_places_a, .inl (T.1, (16, .inl res))), (d_froms_a, .inl (T.1, (20, .inl d_froms))), (d_tos_a, .inl (T.1, (20, .inl d_tos))), (d_widths_a, .inl (T.1, (20, .inl d_widths)))]) (va_A [(d_a, .inr (1, [.ref d_places_a, .ref d_froms_a, .ref d_tos_a, .ref d_widths_a, .int d_ribbons, .int d_trimmed])), (d_places_a, .inl (T.1, (16, .inl d_places))), (d_froms_a, .inl (T.1, (20, .inl d_froms))), (d_tos_a, .inl (T.1, (20, .inl d_tos))), (d_widths_a, .inl (T.1, (20, .inl d_widths)))] sz)) 0 0 (va_A [(d_a, .inr (1, [.ref d_places_a, .ref d_froms_a, .ref d_tos_a, .ref d_widths_a, .int d_ribbons, .int d_trimmed])), (d_places_a, .inl (T.1, (16, .inl d_places))), (d_froms_a, .inl (T.1, (20, .inl d_froms))), (d_tos_a, .inl (T.1, (20, .inl d_tos))), (d_widths_a, .inl (T.1, (20, .inl d_widths)))] sz) :=
  metM_of (by decide +kernel) rfl (Nat.le_of_ble_eq_true rfl) (fun p e s m args below meth c C hnm A hA hP hD ls hl => w_X1_exchangePlaces_b0 C hA _ hf _ _ hP hD va_S.rf ls hl)
def rmX1_fromOf : Room := { frames := 0, cells := 0, slots := 0, locals := 0 }
theorem hdV_X1_fromOf : yX1_fromOf.cls = RX1 ∧ yX1_fromOf.cls ≠ "java/lang/invoke/MethodHandle" ∧ yX1_fromOf.cls ≠ "java/lang/invoke/VarHandle" ∧ (parseMethodDescriptor yX1_fromOf.desc).map (fun d => d.parameters.length) = some 1 := by decide +kernel
theorem iw_X1_fromOf_X1 : ∀ w ∈ wsX10, w ∈ wsX1_fromOf := by decide +kernel
theorem mw_X1_fromOf_0 : Cond.fieldLink RX1 15 "RibbonPosts$Drawing" "froms" "[I" ∈ wsX1_fromOf := by decide +kernel
set_option maxHeartbeats 4000000 in
set_option maxRecDepth 100000 in
theorem w_X1_fromOf_b0 {p : Program} {l : Launch} {e : Env} {s : State} {m : MethodId} {args : Array Value} {below : List Frame} {meth : Method} {c : Code} {D : va_G} {T : TY} {d_a d_places_a d_froms_a d_tos_a d_widths_a : Nat} {d_places : Nat → Int32} {d_froms : Nat → Int32} {d_tos : Nat → Int32} {d_widths : Nat → Int32} {d_ribbons : Int32} {d_trimmed : Int32} {x1 : Int32} {res : Int32} (C : CX p s m args meth c cX1_fromOf 2 RX1 wsX1_fromOf (some .int) D T) (hP : va_P D vwCl [(d_a, .inr (1, [.ref d_places_a, .ref d_froms_a, .ref d_tos_a, .ref d_widths_a, .int d_ribbons, .int d_trimmed])), (d_places_a, .inl (T.1, (16, .inl d_places))), (d_froms_a, .inl (T.1, (20, .inl d_froms))), (d_tos_a, .inl (T.1, (20, .inl d_tos))), (d_widths_a, .inl (T.1, (20, .inl d_widths)))] s.heap) : f_X1_fromOf d_froms x1 = some res → ∀ ls : Array Slot, lv_has ls 2 [(0, .ref d_a), (1, .int x1)] → W p l e rmX1_fromOf s m args below meth c s.heap [] 0 0 (MQ below (Qp (some (.int res))) args s 0 0 (fun _ => False)) (F0 m 0 ls []) := by
  obtain ⟨hx, hb, hml, hown, hts, hr, hlocks, hK, hN⟩ := id C
  intro  hf ls hl
  unfold f_X1_fromOf at hf
  refine lv_iload_n hx hb dX1_fromOf_0 rfl (lv_at hl 1 rfl) ?_
  refine lv_if_lt (tgt := 19) hx hb dX1_fromOf_1 (by decide) (fun c_1 => ?_) (fun c_1 => ?_)
  · have hf := it_pos c_1 hf
    refine lv_iconst (v := (0 : Int32)) hx hb dX1_fromOf_19 (by decide) ?_
    obtain rfl := Option.some.inj hf
    exact W.iret hx hb hr (fun t ht hW => ⟨rfl, ht⟩) (fun q hq => absurd hq List.not_mem_nil) dX1_fromOf_20 hlocks
  · have hf := it_neg c_1 hf
    refine lv_iload_n hx hb dX1_fromOf_4 rfl (lv_at hl 1 rfl) ?_
    refine lv_bipush (v := (20 : Int32)) hx hb dX1_fromOf_5 (by decide) ?_
    refine lv_icmp_ge (tgt := 19) hx hb dX1_fromOf_7 (by decide) (fun c_7 => ?_) (fun c_7 => ?_)
    · have hf := it_pos c_7 hf
      refine lv_iconst (v := (0 : Int32)) hx hb dX1_fromOf_19 (by decide) ?_
      obtain rfl := Option.some.inj hf
      exact W.iret hx hb hr (fun t ht hW => ⟨rfl, ht⟩) (fun q hq => absurd hq List.not_mem_nil) dX1_fromOf_20 hlocks
    · have hf := it_neg c_7 hf
      refine lv_aload_n hx hb dX1_fromOf_10 rfl (lv_at hl 0 rfl) ?_
      refine va_get (D := D) (ci := 1) (v := .ref d_froms_a) (C := RX1) (T := TX1) (N := 6) hx hb hts iw_X1_fromOf_X1 hown hK hP 0 rfl rfl 1 (by decide) (hts (.fieldLink RX1 15 "RibbonPosts$Drawing" "froms" "[I") mw_X1_fromOf_0) (fun _ h9 => h9) rfl dX1_fromOf_11 ?_
      refine lv_iload_n hx hb dX1_fromOf_14 rfl (lv_at hl 1 rfl) ?_
      obtain ⟨g_15, hf⟩ := gd_some hf
      refine va_iald (D := D) hx hb hK hP 2 0 rfl rfl (gd_in g_15) dX1_fromOf_15 ?_
      refine lv_goto (tgt := 20) hx hb dX1_fromOf_16 (by decide) ?_
      obtain rfl := Option.some.inj hf
      exact W.iret hx hb hr (fun t ht hW => ⟨rfl, ht⟩) (fun q hq => absurd hq List.not_mem_nil) dX1_fromOf_20 hlocks
theorem c_X1_fromOf (l : Launch) (D : va_G) (T : TY) (d_a d_places_a d_froms_a d_tos_a d_widths_a : Nat) (d_places : Nat → Int32) (d_froms : Nat → Int32) (d_tos : Nat → Int32) (d_widths : Nat → Int32) (d_ribbons : Int32) (d_trimmed : Int32) (x1 : Int32) (res : Int32) (hf : f_X1_fromOf d_froms x1 = some res) : Met l yX1_fromOf wsX1_fromOf rmX1_fromOf (va_Pc [.ref d_a, .int x1] (PB D T [(d_a, .inr (1, [.ref d_places_a, .ref d_froms_a, .ref d_tos_a, .ref d_widths_a, .int d_ribbons, .int d_trimmed])), (d_places_a, .inl (T.1, (16, .inl d_places))), (d_froms_a, .inl (T.1, (20, .inl d_froms))), (d_tos_a, .inl (T.1, (20, .inl d_tos))), (d_widths_a, .inl (T.1, (20, .inl d_widths)))])) (Qp (some (.int res))) 0 0 (fun _ => False) :=
  metP_of (by decide +kernel) rfl (Nat.le_of_ble_eq_true rfl) (fun p e s m args below meth c C hP ls hl => w_X1_fromOf_b0 C hP hf ls hl)
def rmX1_toOf : Room := { frames := 0, cells := 0, slots := 0, locals := 0 }
theorem hdV_X1_toOf : yX1_toOf.cls = RX1 ∧ yX1_toOf.cls ≠ "java/lang/invoke/MethodHandle" ∧ yX1_toOf.cls ≠ "java/lang/invoke/VarHandle" ∧ (parseMethodDescriptor yX1_toOf.desc).map (fun d => d.parameters.length) = some 1 := by decide +kernel
theorem iw_X1_toOf_X1 : ∀ w ∈ wsX10, w ∈ wsX1_toOf := by decide +kernel
theorem mw_X1_toOf_0 : Cond.fieldLink RX1 18 "RibbonPosts$Drawing" "tos" "[I" ∈ wsX1_toOf := by decide +kernel
set_option maxHeartbeats 4000000 in
set_option maxRecDepth 100000 in
theorem w_X1_toOf_b0 {p : Program} {l : Launch} {e : Env} {s : State} {m : MethodId} {args : Array Value} {below : List Frame} {meth : Method} {c : Code} {D : va_G} {T : TY} {d_a d_places_a d_froms_a d_tos_a d_widths_a : Nat} {d_places : Nat → Int32} {d_froms : Nat → Int32} {d_tos : Nat → Int32} {d_widths : Nat → Int32} {d_ribbons : Int32} {d_trimmed : Int32} {x1 : Int32} {res : Int32} (C : CX p s m args meth c cX1_toOf 2 RX1 wsX1_toOf (some .int) D T) (hP : va_P D vwCl [(d_a, .inr (1, [.ref d_places_a, .ref d_froms_a, .ref d_tos_a, .ref d_widths_a, .int d_ribbons, .int d_trimmed])), (d_places_a, .inl (T.1, (16, .inl d_places))), (d_froms_a, .inl (T.1, (20, .inl d_froms))), (d_tos_a, .inl (T.1, (20, .inl d_tos))), (d_widths_a, .inl (T.1, (20, .inl d_widths)))] s.heap) : f_X1_toOf d_tos x1 = some res → ∀ ls : Array Slot, lv_has ls 2 [(0, .ref d_a), (1, .int x1)] → W p l e rmX1_toOf s m args below meth c s.heap [] 0 0 (MQ below (Qp (some (.int res))) args s 0 0 (fun _ => False)) (F0 m 0 ls []) := by
  obtain ⟨hx, hb, hml, hown, hts, hr, hlocks, hK, hN⟩ := id C
  intro  hf ls hl
  unfold f_X1_toOf at hf
  refine lv_iload_n hx hb dX1_toOf_0 rfl (lv_at hl 1 rfl) ?_
  refine lv_if_lt (tgt := 19) hx hb dX1_toOf_1 (by decide) (fun c_1 => ?_) (fun c_1 => ?_)
  · have hf := it_pos c_1 hf
    refine lv_iconst (v := (0 : Int32)) hx hb dX1_toOf_19 (by decide) ?_
    obtain rfl := Option.some.inj hf
    exact W.iret hx hb hr (fun t ht hW => ⟨rfl, ht⟩) (fun q hq => absurd hq List.not_mem_nil) dX1_toOf_20 hlocks
  · have hf := it_neg c_1 hf
    refine lv_iload_n hx hb dX1_toOf_4 rfl (lv_at hl 1 rfl) ?_
    refine lv_bipush (v := (20 : Int32)) hx hb dX1_toOf_5 (by decide) ?_
    refine lv_icmp_ge (tgt := 19) hx hb dX1_toOf_7 (by decide) (fun c_7 => ?_) (fun c_7 => ?_)
    · have hf := it_pos c_7 hf
      refine lv_iconst (v := (0 : Int32)) hx hb dX1_toOf_19 (by decide) ?_
      obtain rfl := Option.some.inj hf
      exact W.iret hx hb hr (fun t ht hW => ⟨rfl, ht⟩) (fun q hq => absurd hq List.not_mem_nil) dX1_toOf_20 hlocks
    · have hf := it_neg c_7 hf
      refine lv_aload_n hx hb dX1_toOf_10 rfl (lv_at hl 0 rfl) ?_
      refine va_get (D := D) (ci := 1) (v := .ref d_tos_a) (C := RX1) (T := TX1) (N := 6) hx hb hts iw_X1_toOf_X1 hown hK hP 0 rfl rfl 2 (by decide) (hts (.fieldLink RX1 18 "RibbonPosts$Drawing" "tos" "[I") mw_X1_toOf_0) (fun _ h9 => h9) rfl dX1_toOf_11 ?_
      refine lv_iload_n hx hb dX1_toOf_14 rfl (lv_at hl 1 rfl) ?_
      obtain ⟨g_15, hf⟩ := gd_some hf
      refine va_iald (D := D) hx hb hK hP 3 0 rfl rfl (gd_in g_15) dX1_toOf_15 ?_
      refine lv_goto (tgt := 20) hx hb dX1_toOf_16 (by decide) ?_
      obtain rfl := Option.some.inj hf
      exact W.iret hx hb hr (fun t ht hW => ⟨rfl, ht⟩) (fun q hq => absurd hq List.not_mem_nil) dX1_toOf_20 hlocks
theorem c_X1_toOf (l : Launch) (D : va_G) (T : TY) (d_a d_places_a d_froms_a d_tos_a d_widths_a : Nat) (d_places : Nat → Int32) (d_froms : Nat → Int32) (d_tos : Nat → Int32) (d_widths : Nat → Int32) (d_ribbons : Int32) (d_trimmed : Int32) (x1 : Int32) (res : Int32) (hf : f_X1_toOf d_tos x1 = some res) : Met l yX1_toOf wsX1_toOf rmX1_toOf (va_Pc [.ref d_a, .int x1] (PB D T [(d_a, .inr (1, [.ref d_places_a, .ref d_froms_a, .ref d_tos_a, .ref d_widths_a, .int d_ribbons, .int d_trimmed])), (d_places_a, .inl (T.1, (16, .inl d_places))), (d_froms_a, .inl (T.1, (20, .inl d_froms))), (d_tos_a, .inl (T.1, (20, .inl d_tos))), (d_widths_a, .inl (T.1, (20, .inl d_widths)))])) (Qp (some (.int res))) 0 0 (fun _ => False) :=
  metP_of (by decide +kernel) rfl (Nat.le_of_ble_eq_true rfl) (fun p e s m args below meth c C hP ls hl => w_X1_toOf_b0 C hP hf ls hl)
def rmX1_joins : Room := { frames := 1, cells := 0, slots := 0, locals := 21 }
theorem hdV_X1_joins : yX1_joins.cls = RX1 ∧ yX1_joins.cls ≠ "java/lang/invoke/MethodHandle" ∧ yX1_joins.cls ≠ "java/lang/invoke/VarHandle" ∧ (parseMethodDescriptor yX1_joins.desc).map (fun d => d.parameters.length) = some 3 := by decide +kernel
theorem mw_X1_joins_0 : Cond.static yX6_columnOf ∈ wsX1_joins := by decide +kernel
theorem mw_X1_joins_1 : Cond.initialized RX6 ∈ wsX1_joins := by decide +kernel
set_option maxHeartbeats 4000000 in
set_option maxRecDepth 100000 in
theorem w_X1_joins_b0 {p : Program} {l : Launch} {e : Env} {s : State} {m : MethodId} {args : Array Value} {below : List Frame} {meth : Method} {c : Code} {D : va_G} {T : TY} {d_a d_places_a d_froms_a d_tos_a d_widths_a : Nat} {d_places : Nat → Int32} {d_froms : Nat → Int32} {d_tos : Nat → Int32} {d_widths : Nat → Int32} {d_ribbons : Int32} {d_trimmed : Int32} {x1 : Int32} {x2 : Int32} {x3 : Int32} {res : Int32} (C : CX p s m args meth c cX1_joins 4 RX1 wsX1_joins (some .boolean) D T) (hP : va_P D vwCl [(d_a, .inr (1, [.ref d_places_a, .ref d_froms_a, .ref d_tos_a, .ref d_widths_a, .int d_ribbons, .int d_trimmed])), (d_places_a, .inl (T.1, (16, .inl d_places))), (d_froms_a, .inl (T.1, (20, .inl d_froms))), (d_tos_a, .inl (T.1, (20, .inl d_tos))), (d_widths_a, .inl (T.1, (20, .inl d_widths)))] s.heap) : f_X1_joins d_froms d_tos x1 x2 x3 = some res → ∀ ls : Array Slot, lv_has ls 4 [(0, .ref d_a), (1, .int x1), (2, .int x2), (3, .int x3)] → W p l e rmX1_joins s m args below meth c s.heap [] 0 0 (MQ below (Qp (some (.int res))) args s 0 0 (fun _ => False)) (F0 m 0 ls []) := by
  obtain ⟨hx, hb, hml, hown, hts, hr, hlocks, hK, hN⟩ := id C
  intro  hf ls hl
  unfold f_X1_joins at hf
  refine lv_iload_n hx hb dX1_joins_0 rfl (lv_at hl 2 rfl) ?_
  refine lv_iload_n hx hb dX1_joins_1 rfl (lv_at hl 3 rfl) ?_
  refine lv_icmp_ge (tgt := 33) hx hb dX1_joins_2 (by decide) (fun c_2 => ?_) (fun c_2 => ?_)
  · have hf := it_pos c_2 hf
    refine lv_iconst (v := (0 : Int32)) hx hb dX1_joins_33 (by decide) ?_
    obtain rfl := Option.some.inj hf
    exact W.zret hx hb hr (by decide) (fun t ht hW => ⟨rfl, ht⟩) (fun q hq => absurd hq List.not_mem_nil) dX1_joins_34 hlocks
  · have hf := it_neg c_2 hf
    refine lv_aload_n hx hb dX1_joins_5 rfl (lv_at hl 0 rfl) ?_
    refine lv_iload_n hx hb dX1_joins_6 rfl (lv_at hl 1 rfl) ?_
    obtain ⟨q7, e_7, hf⟩ := bd_some hf
    refine callPi (va_runV (As := [.int x1]) (rest := []) ⟨hx, hb, hml, hown, hts⟩ (c_X1_fromOf l D T d_a d_places_a d_froms_a d_tos_a d_widths_a d_places d_froms d_tos d_widths d_ribbons d_trimmed x1 q7 e_7) (cwV 1 hts gX1_joins_X1_fromOf rfl rfl rfl hdV_X1_fromOf ⟨Nat.le_of_ble_eq_true rfl, Nat.le_of_ble_eq_true rfl⟩) (preBV hP hK hN rfl 0 rfl) rfl rfl hl.1 rfl (lv_room (Nat.le_of_ble_eq_true rfl)) dX1_joins_7 ⟨Nat.le_of_ble_eq_true rfl, Nat.le_of_ble_eq_true rfl⟩) ?_
    obtain ⟨q10, e_10, hf⟩ := bd_some hf
    refine callPi (va_runSN (As := [.int q7]) (rest := []) ⟨hx, hb, hml, hown, hts⟩ (c_X6_columnOf l D T q7 q10 e_10) ⟨va_cnB 1 hts gX1_joins_X6_columnOf_n55 rfl rfl rfl (hN.m 6 rfl) (hts (.initialized RX6) mw_X1_joins_1) hdS_X6_columnOf ⟨Nat.le_of_ble_eq_true rfl, Nat.le_of_ble_eq_true rfl⟩, (hts (.static yX6_columnOf) mw_X1_joins_0), trivial⟩ (preBS va_P0 hK hN) rfl rfl hl.1 rfl (lv_room (Nat.le_of_ble_eq_true rfl)) dX1_joins_10 ⟨Nat.le_of_ble_eq_true rfl, Nat.le_of_ble_eq_true rfl⟩) ?_
    refine lv_iload_n hx hb dX1_joins_13 rfl (lv_at hl 2 rfl) ?_
    refine lv_icmp_ne (tgt := 33) hx hb dX1_joins_14 (by decide) (fun c_14 => ?_) (fun c_14 => ?_)
    · have hf := it_neg c_14 hf
      refine lv_iconst (v := (0 : Int32)) hx hb dX1_joins_33 (by decide) ?_
      obtain rfl := Option.some.inj hf
      exact W.zret hx hb hr (by decide) (fun t ht hW => ⟨rfl, ht⟩) (fun q hq => absurd hq List.not_mem_nil) dX1_joins_34 hlocks
    · have hf := it_pos c_14 hf
      refine lv_aload_n hx hb dX1_joins_17 rfl (lv_at hl 0 rfl) ?_
      refine lv_iload_n hx hb dX1_joins_18 rfl (lv_at hl 1 rfl) ?_
      obtain ⟨q19, e_19, hf⟩ := bd_some hf
      refine callPi (va_runV (As := [.int x1]) (rest := []) ⟨hx, hb, hml, hown, hts⟩ (c_X1_toOf l D T d_a d_places_a d_froms_a d_tos_a d_widths_a d_places d_froms d_tos d_widths d_ribbons d_trimmed x1 q19 e_19) (cwV 1 hts gX1_joins_X1_toOf rfl rfl rfl hdV_X1_toOf ⟨Nat.le_of_ble_eq_true rfl, Nat.le_of_ble_eq_true rfl⟩) (preBV hP hK hN rfl 0 rfl) rfl rfl hl.1 rfl (lv_room (Nat.le_of_ble_eq_true rfl)) dX1_joins_19 ⟨Nat.le_of_ble_eq_true rfl, Nat.le_of_ble_eq_true rfl⟩) ?_
      obtain ⟨q22, e_22, hf⟩ := bd_some hf
      refine callPi (va_runSN (As := [.int q19]) (rest := []) ⟨hx, hb, hml, hown, hts⟩ (c_X6_columnOf l D T q19 q22 e_22) ⟨va_cnB 1 hts gX1_joins_X6_columnOf_n55 rfl rfl rfl (hN.m 6 rfl) (hts (.initialized RX6) mw_X1_joins_1) hdS_X6_columnOf ⟨Nat.le_of_ble_eq_true rfl, Nat.le_of_ble_eq_true rfl⟩, (hts (.static yX6_columnOf) mw_X1_joins_0), trivial⟩ (preBS va_P0 hK hN) rfl rfl hl.1 rfl (lv_room (Nat.le_of_ble_eq_true rfl)) dX1_joins_22 ⟨Nat.le_of_ble_eq_true rfl, Nat.le_of_ble_eq_true rfl⟩) ?_
      refine lv_iload_n hx hb dX1_joins_25 rfl (lv_at hl 3 rfl) ?_
      refine lv_icmp_ne (tgt := 33) hx hb dX1_joins_26 (by decide) (fun c_26 => ?_) (fun c_26 => ?_)
      · have hf := it_neg c_26 hf
        refine lv_iconst (v := (0 : Int32)) hx hb dX1_joins_33 (by decide) ?_
        obtain rfl := Option.some.inj hf
        exact W.zret hx hb hr (by decide) (fun t ht hW => ⟨rfl, ht⟩) (fun q hq => absurd hq List.not_mem_nil) dX1_joins_34 hlocks
      · have hf := it_pos c_26 hf
        refine lv_iconst (v := (1 : Int32)) hx hb dX1_joins_29 (by decide) ?_
        refine lv_goto (tgt := 34) hx hb dX1_joins_30 (by decide) ?_
        obtain rfl := Option.some.inj hf
        exact W.zret hx hb hr (by decide) (fun t ht hW => ⟨rfl, ht⟩) (fun q hq => absurd hq List.not_mem_nil) dX1_joins_34 hlocks
theorem c_X1_joins (l : Launch) (D : va_G) (T : TY) (d_a d_places_a d_froms_a d_tos_a d_widths_a : Nat) (d_places : Nat → Int32) (d_froms : Nat → Int32) (d_tos : Nat → Int32) (d_widths : Nat → Int32) (d_ribbons : Int32) (d_trimmed : Int32) (x1 : Int32) (x2 : Int32) (x3 : Int32) (res : Int32) (hf : f_X1_joins d_froms d_tos x1 x2 x3 = some res) : Met l yX1_joins wsX1_joins rmX1_joins (va_Pc [.ref d_a, .int x1, .int x2, .int x3] (PB D T [(d_a, .inr (1, [.ref d_places_a, .ref d_froms_a, .ref d_tos_a, .ref d_widths_a, .int d_ribbons, .int d_trimmed])), (d_places_a, .inl (T.1, (16, .inl d_places))), (d_froms_a, .inl (T.1, (20, .inl d_froms))), (d_tos_a, .inl (T.1, (20, .inl d_tos))), (d_widths_a, .inl (T.1, (20, .inl d_widths)))])) (Qp (some (.int res))) 0 0 (fun _ => False) :=
  metP_of (by decide +kernel) rfl (Nat.le_of_ble_eq_true rfl) (fun p e s m args below meth c C hP ls hl => w_X1_joins_b0 C hP hf ls hl)
def rmX1_cross : Room := { frames := 2, cells := 0, slots := 0, locals := 44 }
theorem hdV_X1_cross : yX1_cross.cls = RX1 ∧ yX1_cross.cls ≠ "java/lang/invoke/MethodHandle" ∧ yX1_cross.cls ≠ "java/lang/invoke/VarHandle" ∧ (parseMethodDescriptor yX1_cross.desc).map (fun d => d.parameters.length) = some 2 := by decide +kernel
theorem mw_X1_cross_0 : Cond.static yX6_columnOf ∈ wsX1_cross := by decide +kernel
theorem mw_X1_cross_1 : Cond.initialized RX6 ∈ wsX1_cross := by decide +kernel
set_option maxHeartbeats 4000000 in
set_option maxRecDepth 100000 in
theorem w_X1_cross_b87 {p : Program} {l : Launch} {e : Env} {s : State} {m : MethodId} {args : Array Value} {below : List Frame} {meth : Method} {c : Code} {D : va_G} {T : TY} {d_a d_places_a d_froms_a d_tos_a d_widths_a : Nat} {d_places : Nat → Int32} {d_froms : Nat → Int32} {d_tos : Nat → Int32} {d_widths : Nat → Int32} {d_ribbons : Int32} {d_trimmed : Int32} {x1 : Int32} {x2 : Int32} {res : Int32} (C : CX p s m args meth c cX1_cross 7 RX1 wsX1_cross (some .boolean) D T) (hP : va_P D vwCl [(d_a, .inr (1, [.ref d_places_a, .ref d_froms_a, .ref d_tos_a, .ref d_widths_a, .int d_ribbons, .int d_trimmed])), (d_places_a, .inl (T.1, (16, .inl d_places))), (d_froms_a, .inl (T.1, (20, .inl d_froms))), (d_tos_a, .inl (T.1, (20, .inl d_tos))), (d_widths_a, .inl (T.1, (20, .inl d_widths)))] s.heap) : f_X1_cross_b87 d_places d_froms d_tos x1 x2 = some res → ∀ ls : Array Slot, lv_has ls 7 [] → W p l e rmX1_cross s m args below meth c s.heap [] 0 0 (MQ below (Qp (some (.int res))) args s 0 0 (fun _ => False)) (F0 m 87 ls []) := by
  obtain ⟨hx, hb, hml, hown, hts, hr, hlocks, hK, hN⟩ := id C
  intro  hf ls hl
  unfold f_X1_cross_b87 at hf
  refine lv_iconst (v := (1 : Int32)) hx hb dX1_cross_87 (by decide) ?_
  refine lv_goto (tgt := 92) hx hb dX1_cross_88 (by decide) ?_
  obtain rfl := Option.some.inj hf
  exact W.zret hx hb hr (by decide) (fun t ht hW => ⟨rfl, ht⟩) (fun q hq => absurd hq List.not_mem_nil) dX1_cross_92 hlocks
set_option maxHeartbeats 4000000 in
set_option maxRecDepth 100000 in
theorem w_X1_cross_b77 {p : Program} {l : Launch} {e : Env} {s : State} {m : MethodId} {args : Array Value} {below : List Frame} {meth : Method} {c : Code} {D : va_G} {T : TY} {d_a d_places_a d_froms_a d_tos_a d_widths_a : Nat} {d_places : Nat → Int32} {d_froms : Nat → Int32} {d_tos : Nat → Int32} {d_widths : Nat → Int32} {d_ribbons : Int32} {d_trimmed : Int32} {x1 : Int32} {x2 : Int32} {res : Int32} (C : CX p s m args meth c cX1_cross 7 RX1 wsX1_cross (some .boolean) D T) (hP : va_P D vwCl [(d_a, .inr (1, [.ref d_places_a, .ref d_froms_a, .ref d_tos_a, .ref d_widths_a, .int d_ribbons, .int d_trimmed])), (d_places_a, .inl (T.1, (16, .inl d_places))), (d_froms_a, .inl (T.1, (20, .inl d_froms))), (d_tos_a, .inl (T.1, (20, .inl d_tos))), (d_widths_a, .inl (T.1, (20, .inl d_widths)))] s.heap) : ∀ x5 : Int32, ∀ x6 : Int32, f_X1_cross_b77 d_places d_froms d_tos x1 x2 x5 x6 = some res → ∀ ls : Array Slot, lv_has ls 7 [(5, .int x5), (6, .int x6)] → W p l e rmX1_cross s m args below meth c s.heap [] 0 0 (MQ below (Qp (some (.int res))) args s 0 0 (fun _ => False)) (F0 m 77 ls []) := by
  obtain ⟨hx, hb, hml, hown, hts, hr, hlocks, hK, hN⟩ := id C
  intro x5 x6 hf ls hl
  unfold f_X1_cross_b77 at hf
  refine lv_iload hx hb dX1_cross_77 (lv_at hl 0 rfl) ?_
  refine lv_if_le (tgt := 91) hx hb dX1_cross_79 (by decide) (fun c_79 => ?_) (fun c_79 => ?_)
  · have hf := it_pos c_79 hf
    refine lv_iconst (v := (0 : Int32)) hx hb dX1_cross_91 (by decide) ?_
    obtain rfl := Option.some.inj hf
    exact W.zret hx hb hr (by decide) (fun t ht hW => ⟨rfl, ht⟩) (fun q hq => absurd hq List.not_mem_nil) dX1_cross_92 hlocks
  · have hf := it_neg c_79 hf
    refine lv_iload hx hb dX1_cross_82 (lv_at hl 1 rfl) ?_
    refine lv_if_ge (tgt := 91) hx hb dX1_cross_84 (by decide) (fun c_84 => ?_) (fun c_84 => ?_)
    · have hf := it_pos c_84 hf
      refine lv_iconst (v := (0 : Int32)) hx hb dX1_cross_91 (by decide) ?_
      obtain rfl := Option.some.inj hf
      exact W.zret hx hb hr (by decide) (fun t ht hW => ⟨rfl, ht⟩) (fun q hq => absurd hq List.not_mem_nil) dX1_cross_92 hlocks
    · have hf := it_neg c_84 hf
      exact w_X1_cross_b87 C hP hf _ (lv_sub hl [] rfl)
set_option maxHeartbeats 4000000 in
set_option maxRecDepth 100000 in
theorem w_X1_cross_b0 {p : Program} {l : Launch} {e : Env} {s : State} {m : MethodId} {args : Array Value} {below : List Frame} {meth : Method} {c : Code} {D : va_G} {T : TY} {d_a d_places_a d_froms_a d_tos_a d_widths_a : Nat} {d_places : Nat → Int32} {d_froms : Nat → Int32} {d_tos : Nat → Int32} {d_widths : Nat → Int32} {d_ribbons : Int32} {d_trimmed : Int32} {x1 : Int32} {x2 : Int32} {res : Int32} (C : CX p s m args meth c cX1_cross 7 RX1 wsX1_cross (some .boolean) D T) (hP : va_P D vwCl [(d_a, .inr (1, [.ref d_places_a, .ref d_froms_a, .ref d_tos_a, .ref d_widths_a, .int d_ribbons, .int d_trimmed])), (d_places_a, .inl (T.1, (16, .inl d_places))), (d_froms_a, .inl (T.1, (20, .inl d_froms))), (d_tos_a, .inl (T.1, (20, .inl d_tos))), (d_widths_a, .inl (T.1, (20, .inl d_widths)))] s.heap) : f_X1_cross d_places d_froms d_tos x1 x2 = some res → ∀ ls : Array Slot, lv_has ls 7 [(0, .ref d_a), (1, .int x1), (2, .int x2)] → W p l e rmX1_cross s m args below meth c s.heap [] 0 0 (MQ below (Qp (some (.int res))) args s 0 0 (fun _ => False)) (F0 m 0 ls []) := by
  obtain ⟨hx, hb, hml, hown, hts, hr, hlocks, hK, hN⟩ := id C
  intro  hf ls hl
  unfold f_X1_cross at hf
  refine lv_aload_n hx hb dX1_cross_0 rfl (lv_at hl 0 rfl) ?_
  refine lv_iload_n hx hb dX1_cross_1 rfl (lv_at hl 1 rfl) ?_
  obtain ⟨q2, e_2, hf⟩ := bd_some hf
  refine callPi (va_runV (As := [.int x1]) (rest := []) ⟨hx, hb, hml, hown, hts⟩ (c_X1_fromOf l D T d_a d_places_a d_froms_a d_tos_a d_widths_a d_places d_froms d_tos d_widths d_ribbons d_trimmed x1 q2 e_2) (cwV 1 hts gX1_cross_X1_fromOf rfl rfl rfl hdV_X1_fromOf ⟨Nat.le_of_ble_eq_true rfl, Nat.le_of_ble_eq_true rfl⟩) (preBV hP hK hN rfl 0 rfl) rfl rfl hl.1 rfl (lv_room (Nat.le_of_ble_eq_true rfl)) dX1_cross_2 ⟨Nat.le_of_ble_eq_true rfl, Nat.le_of_ble_eq_true rfl⟩) ?_
  refine lv_istore_n (lv' := [(3, .int q2), (0, .ref d_a), (1, .int x1), (2, .int x2)]) hx hb dX1_cross_5 rfl hl (by decide) rfl (fun ls hl => ?_)
  refine lv_aload_n hx hb dX1_cross_6 rfl (lv_at hl 1 rfl) ?_
  refine lv_iload_n hx hb dX1_cross_7 rfl (lv_at hl 2 rfl) ?_
  obtain ⟨q8, e_8, hf⟩ := bd_some hf
  refine callPi (va_runV (As := [.int x1]) (rest := []) ⟨hx, hb, hml, hown, hts⟩ (c_X1_toOf l D T d_a d_places_a d_froms_a d_tos_a d_widths_a d_places d_froms d_tos d_widths d_ribbons d_trimmed x1 q8 e_8) (cwV 1 hts gX1_cross_X1_toOf rfl rfl rfl hdV_X1_toOf ⟨Nat.le_of_ble_eq_true rfl, Nat.le_of_ble_eq_true rfl⟩) (preBV hP hK hN rfl 0 rfl) rfl rfl hl.1 rfl (lv_room (Nat.le_of_ble_eq_true rfl)) dX1_cross_8 ⟨Nat.le_of_ble_eq_true rfl, Nat.le_of_ble_eq_true rfl⟩) ?_
  refine lv_istore (lv' := [(4, .int q8), (3, .int q2), (0, .ref d_a), (1, .int x1), (2, .int x2)]) hx hb dX1_cross_11 hl (by decide) rfl (fun ls hl => ?_)
  refine lv_aload_n hx hb dX1_cross_13 rfl (lv_at hl 2 rfl) ?_
  refine lv_iload_n hx hb dX1_cross_14 rfl (lv_at hl 4 rfl) ?_
  refine lv_iload_n hx hb dX1_cross_15 rfl (lv_at hl 1 rfl) ?_
  obtain ⟨q16, e_16, hf⟩ := bd_some hf
  refine callPi (va_runSN (As := [.int q2]) (rest := [.int x2, .ref d_a]) ⟨hx, hb, hml, hown, hts⟩ (c_X6_columnOf l D T q2 q16 e_16) ⟨va_cnB 1 hts gX1_cross_X6_columnOf_n55 rfl rfl rfl (hN.m 6 rfl) (hts (.initialized RX6) mw_X1_cross_1) hdS_X6_columnOf ⟨Nat.le_of_ble_eq_true rfl, Nat.le_of_ble_eq_true rfl⟩, (hts (.static yX6_columnOf) mw_X1_cross_0), trivial⟩ (preBS va_P0 hK hN) rfl rfl hl.1 rfl (lv_room (Nat.le_of_ble_eq_true rfl)) dX1_cross_16 ⟨Nat.le_of_ble_eq_true rfl, Nat.le_of_ble_eq_true rfl⟩) ?_
  refine lv_iload hx hb dX1_cross_19 (lv_at hl 0 rfl) ?_
  obtain ⟨q21, e_21, hf⟩ := bd_some hf
  refine callPi (va_runSN (As := [.int q8]) (rest := [.int q16, .int x2, .ref d_a]) ⟨hx, hb, hml, hown, hts⟩ (c_X6_columnOf l D T q8 q21 e_21) ⟨va_cnB 1 hts gX1_cross_X6_columnOf_n55 rfl rfl rfl (hN.m 6 rfl) (hts (.initialized RX6) mw_X1_cross_1) hdS_X6_columnOf ⟨Nat.le_of_ble_eq_true rfl, Nat.le_of_ble_eq_true rfl⟩, (hts (.static yX6_columnOf) mw_X1_cross_0), trivial⟩ (preBS va_P0 hK hN) rfl rfl hl.1 rfl (lv_room (Nat.le_of_ble_eq_true rfl)) dX1_cross_21 ⟨Nat.le_of_ble_eq_true rfl, Nat.le_of_ble_eq_true rfl⟩) ?_
  obtain ⟨q24, e_24, hf⟩ := bd_some hf
  refine callPi (va_runV (As := [.int x2, .int q16, .int q21]) (rest := []) ⟨hx, hb, hml, hown, hts⟩ (c_X1_joins l D T d_a d_places_a d_froms_a d_tos_a d_widths_a d_places d_froms d_tos d_widths d_ribbons d_trimmed x2 q16 q21 q24 e_24) (cwV 3 hts gX1_cross_X1_joins rfl rfl rfl hdV_X1_joins ⟨Nat.le_of_ble_eq_true rfl, Nat.le_of_ble_eq_true rfl⟩) (preBV hP hK hN rfl 0 rfl) rfl rfl hl.1 rfl (lv_room (Nat.le_of_ble_eq_true rfl)) dX1_cross_24 ⟨Nat.le_of_ble_eq_true rfl, Nat.le_of_ble_eq_true rfl⟩) ?_
  refine lv_if_ne (tgt := 32) hx hb dX1_cross_27 (by decide) (fun c_27 => ?_) (fun c_27 => ?_)
  · have hf := it_neg c_27 hf
    refine lv_aload_n hx hb dX1_cross_32 rfl (lv_at hl 2 rfl) ?_
    refine lv_iload_n hx hb dX1_cross_33 rfl (lv_at hl 1 rfl) ?_
    obtain ⟨q34, e_34, hf⟩ := bd_some hf
    refine callPi (va_runV (As := [.int q2]) (rest := []) ⟨hx, hb, hml, hown, hts⟩ (c_X1_placeOf l D T d_a d_places_a d_froms_a d_tos_a d_widths_a d_places d_froms d_tos d_widths d_ribbons d_trimmed q2 q34 e_34) (cwV 1 hts gX1_cross_X1_placeOf rfl rfl rfl hdV_X1_placeOf ⟨Nat.le_of_ble_eq_true rfl, Nat.le_of_ble_eq_true rfl⟩) (preBV hP hK hN rfl 0 rfl) rfl rfl hl.1 rfl (lv_room (Nat.le_of_ble_eq_true rfl)) dX1_cross_34 ⟨Nat.le_of_ble_eq_true rfl, Nat.le_of_ble_eq_true rfl⟩) ?_
    refine lv_aload_n hx hb dX1_cross_37 rfl (lv_at hl 2 rfl) ?_
    refine lv_aload_n hx hb dX1_cross_38 rfl (lv_at hl 2 rfl) ?_
    refine lv_iload_n hx hb dX1_cross_39 rfl (lv_at hl 4 rfl) ?_
    obtain ⟨q40, e_40, hf⟩ := bd_some hf
    refine callPi (va_runV (As := [.int x2]) (rest := [.ref d_a, .int q34]) ⟨hx, hb, hml, hown, hts⟩ (c_X1_fromOf l D T d_a d_places_a d_froms_a d_tos_a d_widths_a d_places d_froms d_tos d_widths d_ribbons d_trimmed x2 q40 e_40) (cwV 1 hts gX1_cross_X1_fromOf rfl rfl rfl hdV_X1_fromOf ⟨Nat.le_of_ble_eq_true rfl, Nat.le_of_ble_eq_true rfl⟩) (preBV hP hK hN rfl 0 rfl) rfl rfl hl.1 rfl (lv_room (Nat.le_of_ble_eq_true rfl)) dX1_cross_40 ⟨Nat.le_of_ble_eq_true rfl, Nat.le_of_ble_eq_true rfl⟩) ?_
    obtain ⟨q43, e_43, hf⟩ := bd_some hf
    refine callPi (va_runV (As := [.int q40]) (rest := [.int q34]) ⟨hx, hb, hml, hown, hts⟩ (c_X1_placeOf l D T d_a d_places_a d_froms_a d_tos_a d_widths_a d_places d_froms d_tos d_widths d_ribbons d_trimmed q40 q43 e_43) (cwV 1 hts gX1_cross_X1_placeOf rfl rfl rfl hdV_X1_placeOf ⟨Nat.le_of_ble_eq_true rfl, Nat.le_of_ble_eq_true rfl⟩) (preBV hP hK hN rfl 0 rfl) rfl rfl hl.1 rfl (lv_room (Nat.le_of_ble_eq_true rfl)) dX1_cross_43 ⟨Nat.le_of_ble_eq_true rfl, Nat.le_of_ble_eq_true rfl⟩) ?_
    refine lv_isub hx hb dX1_cross_46 ?_
    obtain ⟨v47, e_47, hf⟩ := nm_some hf
    refine lv_nmi e_47 ?_
    refine lv_istore (lv' := [(5, .int v47), (4, .int q8), (3, .int q2), (0, .ref d_a), (1, .int x1), (2, .int x2)]) hx hb dX1_cross_47 hl (by decide) rfl (fun ls hl => ?_)
    refine lv_aload_n hx hb dX1_cross_49 rfl (lv_at hl 3 rfl) ?_
    refine lv_iload hx hb dX1_cross_50 (lv_at hl 1 rfl) ?_
    obtain ⟨q52, e_52, hf⟩ := bd_some hf
    refine callPi (va_runV (As := [.int q8]) (rest := []) ⟨hx, hb, hml, hown, hts⟩ (c_X1_placeOf l D T d_a d_places_a d_froms_a d_tos_a d_widths_a d_places d_froms d_tos d_widths d_ribbons d_trimmed q8 q52 e_52) (cwV 1 hts gX1_cross_X1_placeOf rfl rfl rfl hdV_X1_placeOf ⟨Nat.le_of_ble_eq_true rfl, Nat.le_of_ble_eq_true rfl⟩) (preBV hP hK hN rfl 0 rfl) rfl rfl hl.1 rfl (lv_room (Nat.le_of_ble_eq_true rfl)) dX1_cross_52 ⟨Nat.le_of_ble_eq_true rfl, Nat.le_of_ble_eq_true rfl⟩) ?_
    refine lv_aload_n hx hb dX1_cross_55 rfl (lv_at hl 3 rfl) ?_
    refine lv_aload_n hx hb dX1_cross_56 rfl (lv_at hl 3 rfl) ?_
    refine lv_iload_n hx hb dX1_cross_57 rfl (lv_at hl 5 rfl) ?_
    obtain ⟨q58, e_58, hf⟩ := bd_some hf
    refine callPi (va_runV (As := [.int x2]) (rest := [.ref d_a, .int q52]) ⟨hx, hb, hml, hown, hts⟩ (c_X1_toOf l D T d_a d_places_a d_froms_a d_tos_a d_widths_a d_places d_froms d_tos d_widths d_ribbons d_trimmed x2 q58 e_58) (cwV 1 hts gX1_cross_X1_toOf rfl rfl rfl hdV_X1_toOf ⟨Nat.le_of_ble_eq_true rfl, Nat.le_of_ble_eq_true rfl⟩) (preBV hP hK hN rfl 0 rfl) rfl rfl hl.1 rfl (lv_room (Nat.le_of_ble_eq_true rfl)) dX1_cross_58 ⟨Nat.le_of_ble_eq_true rfl, Nat.le_of_ble_eq_true rfl⟩) ?_
    obtain ⟨q61, e_61, hf⟩ := bd_some hf
    refine callPi (va_runV (As := [.int q58]) (rest := [.int q52]) ⟨hx, hb, hml, hown, hts⟩ (c_X1_placeOf l D T d_a d_places_a d_froms_a d_tos_a d_widths_a d_places d_froms d_tos d_widths d_ribbons d_trimmed q58 q61 e_61) (cwV 1 hts gX1_cross_X1_placeOf rfl rfl rfl hdV_X1_placeOf ⟨Nat.le_of_ble_eq_true rfl, Nat.le_of_ble_eq_true rfl⟩) (preBV hP hK hN rfl 0 rfl) rfl rfl hl.1 rfl (lv_room (Nat.le_of_ble_eq_true rfl)) dX1_cross_61 ⟨Nat.le_of_ble_eq_true rfl, Nat.le_of_ble_eq_true rfl⟩) ?_
    refine lv_isub hx hb dX1_cross_64 ?_
    obtain ⟨v65, e_65, hf⟩ := nm_some hf
    refine lv_nmi e_65 ?_
    refine lv_istore (lv' := [(6, .int v65), (5, .int v47), (4, .int q8), (3, .int q2), (0, .ref d_a), (1, .int x1), (2, .int x2)]) hx hb dX1_cross_65 hl (by decide) rfl (fun ls hl => ?_)
    refine lv_iload hx hb dX1_cross_67 (lv_at hl 1 rfl) ?_
    refine lv_if_ge (tgt := 77) hx hb dX1_cross_69 (by decide) (fun c_69 => ?_) (fun c_69 => ?_)
    · have hf := it_pos c_69 hf
      exact w_X1_cross_b77 C hP _ _ hf _ (lv_sub hl [1, 0] rfl)
    · have hf := it_neg c_69 hf
      refine lv_iload hx hb dX1_cross_72 (lv_at hl 0 rfl) ?_
      refine lv_if_gt (tgt := 87) hx hb dX1_cross_74 (by decide) (fun c_74 => ?_) (fun c_74 => ?_)
      · have hf := it_pos c_74 hf
        exact w_X1_cross_b87 C hP hf _ (lv_sub hl [] rfl)
      · have hf := it_neg c_74 hf
        exact w_X1_cross_b77 C hP _ _ hf _ (lv_sub hl [1, 0] rfl)
  · have hf := it_pos c_27 hf
    refine lv_iconst (v := (0 : Int32)) hx hb dX1_cross_30 (by decide) ?_
    obtain rfl := Option.some.inj hf
    exact W.zret hx hb hr (by decide) (fun t ht hW => ⟨rfl, ht⟩) (fun q hq => absurd hq List.not_mem_nil) dX1_cross_31 hlocks
theorem c_X1_cross (l : Launch) (D : va_G) (T : TY) (d_a d_places_a d_froms_a d_tos_a d_widths_a : Nat) (d_places : Nat → Int32) (d_froms : Nat → Int32) (d_tos : Nat → Int32) (d_widths : Nat → Int32) (d_ribbons : Int32) (d_trimmed : Int32) (x1 : Int32) (x2 : Int32) (res : Int32) (hf : f_X1_cross d_places d_froms d_tos x1 x2 = some res) : Met l yX1_cross wsX1_cross rmX1_cross (va_Pc [.ref d_a, .int x1, .int x2] (PB D T [(d_a, .inr (1, [.ref d_places_a, .ref d_froms_a, .ref d_tos_a, .ref d_widths_a, .int d_ribbons, .int d_trimmed])), (d_places_a, .inl (T.1, (16, .inl d_places))), (d_froms_a, .inl (T.1, (20, .inl d_froms))), (d_tos_a, .inl (T.1, (20, .inl d_tos))), (d_widths_a, .inl (T.1, (20, .inl d_widths)))])) (Qp (some (.int res))) 0 0 (fun _ => False) :=
  metP_of (by decide +kernel) rfl (Nat.le_of_ble_eq_true rfl) (fun p e s m args below meth c C hP ls hl => w_X1_cross_b0 C hP hf ls hl)
def rmX1_allCrossings : Room := { frames := 3, cells := 0, slots := 0, locals := 70 }
theorem hdV_X1_allCrossings : yX1_allCrossings.cls = RX1 ∧ yX1_allCrossings.cls ≠ "java/lang/invoke/MethodHandle" ∧ yX1_allCrossings.cls ≠ "java/lang/invoke/VarHandle" ∧ (parseMethodDescriptor yX1_allCrossings.desc).map (fun d => d.parameters.length) = some 0 := by decide +kernel
theorem iw_X1_allCrossings_X1 : ∀ w ∈ wsX10, w ∈ wsX1_allCrossings := by decide +kernel
theorem mw_X1_allCrossings_0 : Cond.fieldLink RX1 30 "RibbonPosts$Drawing" "ribbons" "I" ∈ wsX1_allCrossings := by decide +kernel
theorem mw_X1_allCrossings_1 : Cond.methodLink RX1 72 Lib.Math.min.name ∈ wsX1_allCrossings := by decide +kernel
theorem mw_X1_allCrossings_2 : Cond.static Lib.Math.min.name ∈ wsX1_allCrossings := by decide +kernel
theorem mw_X1_allCrossings_3 : Cond.initialized "java/lang/Math" ∈ wsX1_allCrossings := by decide +kernel
theorem mw_X1_allCrossings_4 : Cond.code Lib.Math.min.name Lib.Math.min.code 2 (some .int) ∈ wsX1_allCrossings := by decide +kernel
set_option maxHeartbeats 4000000 in
set_option maxRecDepth 100000 in
theorem w_X1_allCrossings_b49 {p : Program} {l : Launch} {e : Env} {s : State} {m : MethodId} {args : Array Value} {below : List Frame} {meth : Method} {c : Code} {D : va_G} {T : TY} {d_a d_places_a d_froms_a d_tos_a d_widths_a : Nat} {d_places : Nat → Int32} {d_froms : Nat → Int32} {d_tos : Nat → Int32} {d_widths : Nat → Int32} {d_ribbons : Int32} {d_trimmed : Int32} {res : Int32} {K4 : Int32 → Int32 → Option (Int32)} {K16 : Int32 → Int32 → Int32 → Option (Int32)} (C : CX p s m args meth c cX1_allCrossings 4 RX1 wsX1_allCrossings (some .int) D T) (hP : va_P D vwCl [(d_a, .inr (1, [.ref d_places_a, .ref d_froms_a, .ref d_tos_a, .ref d_widths_a, .int d_ribbons, .int d_trimmed])), (d_places_a, .inl (T.1, (16, .inl d_places))), (d_froms_a, .inl (T.1, (20, .inl d_froms))), (d_tos_a, .inl (T.1, (20, .inl d_tos))), (d_widths_a, .inl (T.1, (20, .inl d_widths)))] s.heap) (hK4 : ∀ x1 : Int32, ∀ x2 : Int32, K4 x1 x2 = some res → ∀ ls : Array Slot, lv_has ls 4 [(0, .ref d_a), (1, .int x1), (2, .int x2)] → W p l e rmX1_allCrossings s m args below meth c s.heap [] 0 0 (MQ below (Qp (some (.int res))) args s 0 0 (fun _ => False)) (F0 m 4 ls [])) (hK16 : ∀ x1 : Int32, ∀ x2 : Int32, ∀ x3 : Int32, K16 x1 x2 x3 = some res → ∀ ls : Array Slot, lv_has ls 4 [(0, .ref d_a), (1, .int x1), (2, .int x2), (3, .int x3)] → W p l e rmX1_allCrossings s m args below meth c s.heap [] 0 0 (MQ below (Qp (some (.int res))) args s 0 0 (fun _ => False)) (F0 m 16 ls [])) : ∀ x1 : Int32, ∀ x2 : Int32, ∀ x3 : Int32, f_X1_allCrossings_b49 d_places d_froms d_tos d_widths d_ribbons K4 K16 x1 x2 x3 = some res → ∀ ls : Array Slot, lv_has ls 4 [(0, .ref d_a), (1, .int x1), (2, .int x2), (3, .int x3)] → W p l e rmX1_allCrossings s m args below meth c s.heap [] 0 0 (MQ below (Qp (some (.int res))) args s 0 0 (fun _ => False)) (F0 m 49 ls []) := by
  obtain ⟨hx, hb, hml, hown, hts, hr, hlocks, hK, hN⟩ := id C
  intro x1 x2 x3 hf ls hl
  unfold f_X1_allCrossings_b49 at hf
  obtain ⟨v49, e_49, hf⟩ := nm_some hf
  refine lv_iinc (v := v49) (lv' := [(3, .int v49), (0, .ref d_a), (1, .int x1), (2, .int x2)]) hx hb dX1_allCrossings_49 hl (k := 3) rfl (by rw [e_49]; rfl) (by decide) rfl (fun ls hl => ?_)
  refine lv_goto (tgt := 16) hx hb dX1_allCrossings_52 (by decide) ?_
  exact hK16 _ _ _ hf _ (lv_sub hl [1, 2, 3, 0] rfl)
set_option maxHeartbeats 4000000 in
set_option maxRecDepth 100000 in
theorem w_X1_allCrossings_b16 {p : Program} {l : Launch} {e : Env} {s : State} {m : MethodId} {args : Array Value} {below : List Frame} {meth : Method} {c : Code} {D : va_G} {T : TY} {d_a d_places_a d_froms_a d_tos_a d_widths_a : Nat} {d_places : Nat → Int32} {d_froms : Nat → Int32} {d_tos : Nat → Int32} {d_widths : Nat → Int32} {d_ribbons : Int32} {d_trimmed : Int32} {res : Int32} {K4 : Int32 → Int32 → Option (Int32)} (C : CX p s m args meth c cX1_allCrossings 4 RX1 wsX1_allCrossings (some .int) D T) (hP : va_P D vwCl [(d_a, .inr (1, [.ref d_places_a, .ref d_froms_a, .ref d_tos_a, .ref d_widths_a, .int d_ribbons, .int d_trimmed])), (d_places_a, .inl (T.1, (16, .inl d_places))), (d_froms_a, .inl (T.1, (20, .inl d_froms))), (d_tos_a, .inl (T.1, (20, .inl d_tos))), (d_widths_a, .inl (T.1, (20, .inl d_widths)))] s.heap) (hK4 : ∀ x1 : Int32, ∀ x2 : Int32, K4 x1 x2 = some res → ∀ ls : Array Slot, lv_has ls 4 [(0, .ref d_a), (1, .int x1), (2, .int x2)] → W p l e rmX1_allCrossings s m args below meth c s.heap [] 0 0 (MQ below (Qp (some (.int res))) args s 0 0 (fun _ => False)) (F0 m 4 ls [])) : ∀ F : Nat, ∀ x1 : Int32, ∀ x2 : Int32, ∀ x3 : Int32, f_X1_allCrossings_b16 d_places d_froms d_tos d_widths d_ribbons K4 F x1 x2 x3 = some res → ∀ ls : Array Slot, lv_has ls 4 [(0, .ref d_a), (1, .int x1), (2, .int x2), (3, .int x3)] → W p l e rmX1_allCrossings s m args below meth c s.heap [] 0 0 (MQ below (Qp (some (.int res))) args s 0 0 (fun _ => False)) (F0 m 16 ls []) := by
  obtain ⟨hx, hb, hml, hown, hts, hr, hlocks, hK, hN⟩ := id C
  intro F
  induction F with
  | zero => intro _ _ _ hf; cases hf
  | succ F ih =>
    intro x1 x2 x3 hf ls hl
    unfold f_X1_allCrossings_b16 at hf
    refine lv_iload_n hx hb dX1_allCrossings_16 rfl (lv_at hl 3 rfl) ?_
    refine lv_aload_n hx hb dX1_allCrossings_17 rfl (lv_at hl 0 rfl) ?_
    refine va_get (D := D) (ci := 1) (v := .int d_ribbons) (C := RX1) (T := TX1) (N := 6) hx hb hts iw_X1_allCrossings_X1 hown hK hP 0 rfl rfl 4 (by decide) (hts (.fieldLink RX1 30 "RibbonPosts$Drawing" "ribbons" "I") mw_X1_allCrossings_0) (fun _ h9 => h9) rfl dX1_allCrossings_18 ?_
    refine lv_icmp_ge (tgt := 55) hx hb dX1_allCrossings_21 (by decide) (fun c_21 => ?_) (fun c_21 => ?_)
    · have hf := it_pos c_21 hf
      obtain ⟨v55, e_55, hf⟩ := nm_some hf
      refine lv_iinc (v := v55) (lv' := [(2, .int v55), (0, .ref d_a), (1, .int x1), (3, .int x3)]) hx hb dX1_allCrossings_55 hl (k := 2) rfl (by rw [e_55]; rfl) (by decide) rfl (fun ls hl => ?_)
      refine lv_goto (tgt := 4) hx hb dX1_allCrossings_58 (by decide) ?_
      exact hK4 _ _ hf _ (lv_sub hl [1, 2, 0] rfl)
    · have hf := it_neg c_21 hf
      refine lv_aload_n hx hb dX1_allCrossings_24 rfl (lv_at hl 0 rfl) ?_
      refine lv_iload_n hx hb dX1_allCrossings_25 rfl (lv_at hl 2 rfl) ?_
      refine lv_iload_n hx hb dX1_allCrossings_26 rfl (lv_at hl 3 rfl) ?_
      obtain ⟨q27, e_27, hf⟩ := bd_some hf
      refine callPi (va_runV (As := [.int x2, .int x3]) (rest := []) ⟨hx, hb, hml, hown, hts⟩ (c_X1_cross l D T d_a d_places_a d_froms_a d_tos_a d_widths_a d_places d_froms d_tos d_widths d_ribbons d_trimmed x2 x3 q27 e_27) (cwV 2 hts gX1_allCrossings_X1_cross rfl rfl rfl hdV_X1_cross ⟨Nat.le_of_ble_eq_true rfl, Nat.le_of_ble_eq_true rfl⟩) (preBV hP hK hN rfl 0 rfl) rfl rfl hl.1 rfl (lv_room (Nat.le_of_ble_eq_true rfl)) dX1_allCrossings_27 ⟨Nat.le_of_ble_eq_true rfl, Nat.le_of_ble_eq_true rfl⟩) ?_
      refine lv_if_eq (tgt := 49) hx hb dX1_allCrossings_30 (by decide) (fun c_30 => ?_) (fun c_30 => ?_)
      · have hf := it_pos c_30 hf
        exact w_X1_allCrossings_b49 C hP hK4 (fun v0 v1 v2 hf ls hl => ih v0 v1 v2 hf ls hl) _ _ _ hf _ (lv_sub hl [0, 1, 2, 3] rfl)
      · have hf := it_neg c_30 hf
        refine lv_iload_n hx hb dX1_allCrossings_33 rfl (lv_at hl 1 rfl) ?_
        refine lv_aload_n hx hb dX1_allCrossings_34 rfl (lv_at hl 0 rfl) ?_
        refine lv_iload_n hx hb dX1_allCrossings_35 rfl (lv_at hl 2 rfl) ?_
        obtain ⟨q36, e_36, hf⟩ := bd_some hf
        refine callPi (va_runV (As := [.int x2]) (rest := [.int x1]) ⟨hx, hb, hml, hown, hts⟩ (c_X1_widthOf l D T d_a d_places_a d_froms_a d_tos_a d_widths_a d_places d_froms d_tos d_widths d_ribbons d_trimmed x2 q36 e_36) (cwV 1 hts gX1_allCrossings_X1_widthOf rfl rfl rfl hdV_X1_widthOf ⟨Nat.le_of_ble_eq_true rfl, Nat.le_of_ble_eq_true rfl⟩) (preBV hP hK hN rfl 0 rfl) rfl rfl hl.1 rfl (lv_room (Nat.le_of_ble_eq_true rfl)) dX1_allCrossings_36 ⟨Nat.le_of_ble_eq_true rfl, Nat.le_of_ble_eq_true rfl⟩) ?_
        refine lv_aload_n hx hb dX1_allCrossings_39 rfl (lv_at hl 0 rfl) ?_
        refine lv_iload_n hx hb dX1_allCrossings_40 rfl (lv_at hl 3 rfl) ?_
        obtain ⟨q41, e_41, hf⟩ := bd_some hf
        refine callPi (va_runV (As := [.int x3]) (rest := [.int q36, .int x1]) ⟨hx, hb, hml, hown, hts⟩ (c_X1_widthOf l D T d_a d_places_a d_froms_a d_tos_a d_widths_a d_places d_froms d_tos d_widths d_ribbons d_trimmed x3 q41 e_41) (cwV 1 hts gX1_allCrossings_X1_widthOf rfl rfl rfl hdV_X1_widthOf ⟨Nat.le_of_ble_eq_true rfl, Nat.le_of_ble_eq_true rfl⟩) (preBV hP hK hN rfl 0 rfl) rfl rfl hl.1 rfl (lv_room (Nat.le_of_ble_eq_true rfl)) dX1_allCrossings_41 ⟨Nat.le_of_ble_eq_true rfl, Nat.le_of_ble_eq_true rfl⟩) ?_
        refine va_mmin hx hb (by rw [hml]; exact hl.1.symm) hown (hts (.methodLink RX1 72 Lib.Math.min.name) mw_X1_allCrossings_1) (hts (.static Lib.Math.min.name) mw_X1_allCrossings_2) (hts (.initialized "java/lang/Math") mw_X1_allCrossings_3) (hts (.code Lib.Math.min.name Lib.Math.min.code 2 (some .int)) mw_X1_allCrossings_4) (Nat.le_of_ble_eq_true rfl) (Nat.le_of_ble_eq_true rfl) (Nat.le_of_ble_eq_true rfl) (Nat.le_of_ble_eq_true rfl) dX1_allCrossings_44 ?_
        refine lv_iadd hx hb dX1_allCrossings_47 ?_
        obtain ⟨v48, e_48, hf⟩ := nm_some hf
        refine lv_nmi e_48 ?_
        refine lv_istore_n (lv' := [(1, .int v48), (0, .ref d_a), (2, .int x2), (3, .int x3)]) hx hb dX1_allCrossings_48 rfl hl (by decide) rfl (fun ls hl => ?_)
        exact w_X1_allCrossings_b49 C hP hK4 (fun v0 v1 v2 hf ls hl => ih v0 v1 v2 hf ls hl) _ _ _ hf _ (lv_sub hl [1, 0, 2, 3] rfl)
set_option maxHeartbeats 4000000 in
set_option maxRecDepth 100000 in
theorem w_X1_allCrossings_b4 {p : Program} {l : Launch} {e : Env} {s : State} {m : MethodId} {args : Array Value} {below : List Frame} {meth : Method} {c : Code} {D : va_G} {T : TY} {d_a d_places_a d_froms_a d_tos_a d_widths_a : Nat} {d_places : Nat → Int32} {d_froms : Nat → Int32} {d_tos : Nat → Int32} {d_widths : Nat → Int32} {d_ribbons : Int32} {d_trimmed : Int32} {res : Int32} (C : CX p s m args meth c cX1_allCrossings 4 RX1 wsX1_allCrossings (some .int) D T) (hP : va_P D vwCl [(d_a, .inr (1, [.ref d_places_a, .ref d_froms_a, .ref d_tos_a, .ref d_widths_a, .int d_ribbons, .int d_trimmed])), (d_places_a, .inl (T.1, (16, .inl d_places))), (d_froms_a, .inl (T.1, (20, .inl d_froms))), (d_tos_a, .inl (T.1, (20, .inl d_tos))), (d_widths_a, .inl (T.1, (20, .inl d_widths)))] s.heap) : ∀ F : Nat, ∀ x1 : Int32, ∀ x2 : Int32, f_X1_allCrossings_b4 d_places d_froms d_tos d_widths d_ribbons F x1 x2 = some res → ∀ ls : Array Slot, lv_has ls 4 [(0, .ref d_a), (1, .int x1), (2, .int x2)] → W p l e rmX1_allCrossings s m args below meth c s.heap [] 0 0 (MQ below (Qp (some (.int res))) args s 0 0 (fun _ => False)) (F0 m 4 ls []) := by
  obtain ⟨hx, hb, hml, hown, hts, hr, hlocks, hK, hN⟩ := id C
  intro F
  induction F with
  | zero => intro _ _ hf; cases hf
  | succ F ih =>
    intro x1 x2 hf ls hl
    unfold f_X1_allCrossings_b4 at hf
    refine lv_iload_n hx hb dX1_allCrossings_4 rfl (lv_at hl 2 rfl) ?_
    refine lv_aload_n hx hb dX1_allCrossings_5 rfl (lv_at hl 0 rfl) ?_
    refine va_get (D := D) (ci := 1) (v := .int d_ribbons) (C := RX1) (T := TX1) (N := 6) hx hb hts iw_X1_allCrossings_X1 hown hK hP 0 rfl rfl 4 (by decide) (hts (.fieldLink RX1 30 "RibbonPosts$Drawing" "ribbons" "I") mw_X1_allCrossings_0) (fun _ h9 => h9) rfl dX1_allCrossings_6 ?_
    refine lv_icmp_ge (tgt := 61) hx hb dX1_allCrossings_9 (by decide) (fun c_9 => ?_) (fun c_9 => ?_)
    · have hf := it_pos c_9 hf
      refine lv_iload_n hx hb dX1_allCrossings_61 rfl (lv_at hl 1 rfl) ?_
      obtain rfl := Option.some.inj hf
      exact W.iret hx hb hr (fun t ht hW => ⟨rfl, ht⟩) (fun q hq => absurd hq List.not_mem_nil) dX1_allCrossings_62 hlocks
    · have hf := it_neg c_9 hf
      refine lv_iload_n hx hb dX1_allCrossings_12 rfl (lv_at hl 2 rfl) ?_
      refine lv_iconst (v := (1 : Int32)) hx hb dX1_allCrossings_13 (by decide) ?_
      refine lv_iadd hx hb dX1_allCrossings_14 ?_
      obtain ⟨v15, e_15, hf⟩ := nm_some hf
      refine lv_nmi e_15 ?_
      refine lv_istore_n (lv' := [(3, .int v15), (0, .ref d_a), (1, .int x1), (2, .int x2)]) hx hb dX1_allCrossings_15 rfl hl (by decide) rfl (fun ls hl => ?_)
      exact w_X1_allCrossings_b16 C hP (fun v0 v1 hf ls hl => ih v0 v1 hf ls hl) _ _ _ _ hf _ (lv_sub hl [1, 2, 3, 0] rfl)
set_option maxHeartbeats 4000000 in
set_option maxRecDepth 100000 in
theorem w_X1_allCrossings_b0 {p : Program} {l : Launch} {e : Env} {s : State} {m : MethodId} {args : Array Value} {below : List Frame} {meth : Method} {c : Code} {D : va_G} {T : TY} {d_a d_places_a d_froms_a d_tos_a d_widths_a : Nat} {d_places : Nat → Int32} {d_froms : Nat → Int32} {d_tos : Nat → Int32} {d_widths : Nat → Int32} {d_ribbons : Int32} {d_trimmed : Int32} {res : Int32} (C : CX p s m args meth c cX1_allCrossings 4 RX1 wsX1_allCrossings (some .int) D T) (hP : va_P D vwCl [(d_a, .inr (1, [.ref d_places_a, .ref d_froms_a, .ref d_tos_a, .ref d_widths_a, .int d_ribbons, .int d_trimmed])), (d_places_a, .inl (T.1, (16, .inl d_places))), (d_froms_a, .inl (T.1, (20, .inl d_froms))), (d_tos_a, .inl (T.1, (20, .inl d_tos))), (d_widths_a, .inl (T.1, (20, .inl d_widths)))] s.heap) : f_X1_allCrossings d_places d_froms d_tos d_widths d_ribbons = some res → ∀ ls : Array Slot, lv_has ls 4 [(0, .ref d_a)] → W p l e rmX1_allCrossings s m args below meth c s.heap [] 0 0 (MQ below (Qp (some (.int res))) args s 0 0 (fun _ => False)) (F0 m 0 ls []) := by
  obtain ⟨hx, hb, hml, hown, hts, hr, hlocks, hK, hN⟩ := id C
  intro  hf ls hl
  unfold f_X1_allCrossings at hf
  refine lv_iconst (v := (0 : Int32)) hx hb dX1_allCrossings_0 (by decide) ?_
  refine lv_istore_n (lv' := [(1, .int (0 : Int32)), (0, .ref d_a)]) hx hb dX1_allCrossings_1 rfl hl (by decide) rfl (fun ls hl => ?_)
  refine lv_iconst (v := (0 : Int32)) hx hb dX1_allCrossings_2 (by decide) ?_
  refine lv_istore_n (lv' := [(2, .int (0 : Int32)), (1, .int (0 : Int32)), (0, .ref d_a)]) hx hb dX1_allCrossings_3 rfl hl (by decide) rfl (fun ls hl => ?_)
  exact w_X1_allCrossings_b4 C hP _ _ _ hf _ (lv_sub hl [2, 1, 0] rfl)
theorem c_X1_allCrossings (l : Launch) (D : va_G) (T : TY) (d_a d_places_a d_froms_a d_tos_a d_widths_a : Nat) (d_places : Nat → Int32) (d_froms : Nat → Int32) (d_tos : Nat → Int32) (d_widths : Nat → Int32) (d_ribbons : Int32) (d_trimmed : Int32) (res : Int32) (hf : f_X1_allCrossings d_places d_froms d_tos d_widths d_ribbons = some res) : Met l yX1_allCrossings wsX1_allCrossings rmX1_allCrossings (va_Pc [.ref d_a] (PB D T [(d_a, .inr (1, [.ref d_places_a, .ref d_froms_a, .ref d_tos_a, .ref d_widths_a, .int d_ribbons, .int d_trimmed])), (d_places_a, .inl (T.1, (16, .inl d_places))), (d_froms_a, .inl (T.1, (20, .inl d_froms))), (d_tos_a, .inl (T.1, (20, .inl d_tos))), (d_widths_a, .inl (T.1, (20, .inl d_widths)))])) (Qp (some (.int res))) 0 0 (fun _ => False) :=
  metP_of (by decide +kernel) rfl (Nat.le_of_ble_eq_true rfl) (fun p e s m args below meth c C hP ls hl => w_X1_allCrossings_b0 C hP hf ls hl)
def rmJ7_fill_53178 : Room := { frames := 0, cells := 0, slots := 0, locals := 0 }
theorem hdS_J7_fill_53178 : yJ7_fill_53178.cls ≠ "java/lang/invoke/MethodHandle" ∧ yJ7_fill_53178.cls ≠ "java/lang/invoke/VarHandle" ∧ (parseMethodDescriptor yJ7_fill_53178.desc).map (fun d => d.parameters.length) = some 2 := by decide +kernel
set_option maxHeartbeats 4000000 in
set_option maxRecDepth 100000 in
theorem w_J7_fill_53178_b5 {p : Program} {l : Launch} {e : Env} {s : State} {m : MethodId} {args : Array Value} {below : List Frame} {meth : Method} {c : Code} {D : va_G} {T : TY} {a_a : Nat} {a_n : Nat} {x1 : Int32} {res : (Nat → Int32)} {A : Nat → Prop} (C : CX p s m args meth c cJ7_fill_53178 4 RJ7 wsJ7_fill_53178 none D T) (hA : ∀ q, s.heap.size ≤ q → A q) : ∀ F : Nat, ∀ x2 : Int32, ∀ x3 : Int32, ∀ a_c : Nat → Int32, f_J7_fill_53178_b5 a_n x1 F x2 x3 a_c = some res → ∀ (H : Heap) (locs : List Loc), va_P D vwCl [(a_a, .inl (T.1, (a_n, .inl a_c)))] H → va_D A [(a_a, .inl (T.1, (a_n, .inl a_c)))] → va_S A s.heap H locs → ∀ ls : Array Slot, lv_has ls 4 [(0, .ref a_a), (1, .int x1), (2, .int x2), (3, .int x3)] → W p l e rmJ7_fill_53178 s m args below meth c H locs 0 0 (MQ below (Qm none D (fun W9 => W9 = [(a_a, .inl (T.1, (a_n, .inl res)))]) A) args s 0 0 A) (F0 m 5 ls []) := by
  obtain ⟨hx, hb, hml, hown, hts, hr, hlocks, hK, hN⟩ := id C
  intro F
  induction F with
  | zero => intro _ _ _ hf; cases hf
  | succ F ih =>
    intro x2 x3 a_c hf H locs hP hD hS ls hl
    unfold f_J7_fill_53178_b5 at hf
    refine lv_iload_n hx hb dJ7_fill_53178_5 rfl (lv_at hl 2 rfl) ?_
    refine lv_iload_n hx hb dJ7_fill_53178_6 rfl (lv_at hl 3 rfl) ?_
    refine lv_icmp_ge (tgt := 20) hx hb dJ7_fill_53178_7 (by decide) (fun c_7 => ?_) (fun c_7 => ?_)
    · have hf := it_pos c_7 hf
      obtain rfl := Option.some.inj hf
      exact W.vret hx hb hr (fun t ht hW => ⟨rfl, ⟨_, rfl, by rw [ht]; exact hP, hD⟩, hS.F ht⟩) hS.2.2 dJ7_fill_53178_20 hlocks
    · have hf := it_neg c_7 hf
      refine lv_aload_n hx hb dJ7_fill_53178_10 rfl (lv_at hl 0 rfl) ?_
      refine lv_iload_n hx hb dJ7_fill_53178_11 rfl (lv_at hl 2 rfl) ?_
      refine lv_iload_n hx hb dJ7_fill_53178_12 rfl (lv_at hl 1 rfl) ?_
      obtain ⟨g_13, hf⟩ := gd_some hf
      refine va_iast (D := D) hx hb hK hP hD hS 0 0 rfl rfl (gd_in g_13) dJ7_fill_53178_13 (fun H locs hP hD hS => ?_)
      have hP : va_P D vwCl [(a_a, .inl (T.1, (a_n, .inl (upd a_c x2.toNatClampNeg x1))))] H := hP
      have hD : va_D A [(a_a, .inl (T.1, (a_n, .inl (upd a_c x2.toNatClampNeg x1))))] := hD
      obtain ⟨v14, e_14, hf⟩ := nm_some hf
      refine lv_iinc (v := v14) (lv' := [(2, .int v14), (0, .ref a_a), (1, .int x1), (3, .int x3)]) hx hb dJ7_fill_53178_14 hl (k := 2) rfl (by rw [e_14]; rfl) (by decide) rfl (fun ls hl => ?_)
      refine lv_goto (tgt := 5) hx hb dJ7_fill_53178_17 (by decide) ?_
      exact ih _ _ _ hf _ _ hP hD hS _ (lv_sub hl [1, 2, 0, 3] rfl)
set_option maxHeartbeats 4000000 in
set_option maxRecDepth 100000 in
theorem w_J7_fill_53178_b0 {p : Program} {l : Launch} {e : Env} {s : State} {m : MethodId} {args : Array Value} {below : List Frame} {meth : Method} {c : Code} {D : va_G} {T : TY} {a_a : Nat} {a_n : Nat} {x1 : Int32} {res : (Nat → Int32)} {A : Nat → Prop} (C : CX p s m args meth c cJ7_fill_53178 4 RJ7 wsJ7_fill_53178 none D T) (hA : ∀ q, s.heap.size ≤ q → A q) : ∀ a_c : Nat → Int32, f_J7_fill_53178 a_n x1 a_c = some res → ∀ (H : Heap) (locs : List Loc), va_P D vwCl [(a_a, .inl (T.1, (a_n, .inl a_c)))] H → va_D A [(a_a, .inl (T.1, (a_n, .inl a_c)))] → va_S A s.heap H locs → ∀ ls : Array Slot, lv_has ls 4 [(0, .ref a_a), (1, .int x1)] → W p l e rmJ7_fill_53178 s m args below meth c H locs 0 0 (MQ below (Qm none D (fun W9 => W9 = [(a_a, .inl (T.1, (a_n, .inl res)))]) A) args s 0 0 A) (F0 m 0 ls []) := by
  obtain ⟨hx, hb, hml, hown, hts, hr, hlocks, hK, hN⟩ := id C
  intro a_c hf H locs hP hD hS ls hl
  unfold f_J7_fill_53178 at hf
  refine lv_iconst (v := (0 : Int32)) hx hb dJ7_fill_53178_0 (by decide) ?_
  refine lv_istore_n (lv' := [(2, .int (0 : Int32)), (0, .ref a_a), (1, .int x1)]) hx hb dJ7_fill_53178_1 rfl hl (by decide) rfl (fun ls hl => ?_)
  refine lv_aload_n hx hb dJ7_fill_53178_2 rfl (lv_at hl 1 rfl) ?_
  refine va_alen (D := D) (v := Int32.ofNat a_n) (ty := .int) hx hb hK hP 0 0 rfl rfl rfl dJ7_fill_53178_3 ?_
  obtain ⟨v4, e_4, hf⟩ := nm_some hf
  refine lv_nmi e_4 ?_
  refine lv_istore_n (lv' := [(3, .int v4), (2, .int (0 : Int32)), (0, .ref a_a), (1, .int x1)]) hx hb dJ7_fill_53178_4 rfl hl (by decide) rfl (fun ls hl => ?_)
  exact w_J7_fill_53178_b5 C hA _ _ _ _ hf _ _ hP hD hS _ (lv_sub hl [2, 3, 1, 0] rfl)
theorem c_J7_fill_53178 (l : Launch) (D : va_G) (T : TY) (a_a : Nat) (a_c : Nat → Int32) (a_n : Nat) (x1 : Int32) (res : (Nat → Int32)) (hf : f_J7_fill_53178 a_n x1 a_c = some res) (sz : Nat) : Met l yJ7_fill_53178 wsJ7_fill_53178 rmJ7_fill_53178 (va_Pc [.ref a_a, .int x1] (PM D T [(a_a, .inl (T.1, (a_n, .inl a_c)))] sz)) (Qm none D (fun W9 => W9 = [(a_a, .inl (T.1, (a_n, .inl res)))]) (va_A [(a_a, .inl (T.1, (a_n, .inl a_c)))] sz)) 0 0 (va_A [(a_a, .inl (T.1, (a_n, .inl a_c)))] sz) :=
  metM_of (by decide +kernel) rfl (Nat.le_of_ble_eq_true rfl) (fun p e s m args below meth c C hnm A hA hP hD ls hl => w_J7_fill_53178_b0 C hA _ hf _ _ hP hD va_S.rf ls hl)
def rmX1_goesOn : Room := { frames := 0, cells := 0, slots := 0, locals := 0 }
theorem hdV_X1_goesOn : yX1_goesOn.cls = RX1 ∧ yX1_goesOn.cls ≠ "java/lang/invoke/MethodHandle" ∧ yX1_goesOn.cls ≠ "java/lang/invoke/VarHandle" ∧ (parseMethodDescriptor yX1_goesOn.desc).map (fun d => d.parameters.length) = some 1 := by decide +kernel
theorem iw_X1_goesOn_X1 : ∀ w ∈ wsX10, w ∈ wsX1_goesOn := by decide +kernel
theorem mw_X1_goesOn_0 : Cond.fieldLink RX1 18 "RibbonPosts$Drawing" "tos" "[I" ∈ wsX1_goesOn := by decide +kernel
theorem mw_X1_goesOn_1 : Cond.fieldLink RX1 15 "RibbonPosts$Drawing" "froms" "[I" ∈ wsX1_goesOn := by decide +kernel
set_option maxHeartbeats 4000000 in
set_option maxRecDepth 100000 in
theorem w_X1_goesOn_b0 {p : Program} {l : Launch} {e : Env} {s : State} {m : MethodId} {args : Array Value} {below : List Frame} {meth : Method} {c : Code} {D : va_G} {T : TY} {d_a d_places_a d_froms_a d_tos_a d_widths_a : Nat} {d_places : Nat → Int32} {d_froms : Nat → Int32} {d_tos : Nat → Int32} {d_widths : Nat → Int32} {d_ribbons : Int32} {d_trimmed : Int32} {x1 : Int32} {res : Int32} (C : CX p s m args meth c cX1_goesOn 2 RX1 wsX1_goesOn (some .boolean) D T) (hP : va_P D vwCl [(d_a, .inr (1, [.ref d_places_a, .ref d_froms_a, .ref d_tos_a, .ref d_widths_a, .int d_ribbons, .int d_trimmed])), (d_places_a, .inl (T.1, (16, .inl d_places))), (d_froms_a, .inl (T.1, (20, .inl d_froms))), (d_tos_a, .inl (T.1, (20, .inl d_tos))), (d_widths_a, .inl (T.1, (20, .inl d_widths)))] s.heap) : f_X1_goesOn d_froms d_tos x1 = some res → ∀ ls : Array Slot, lv_has ls 2 [(0, .ref d_a), (1, .int x1)] → W p l e rmX1_goesOn s m args below meth c s.heap [] 0 0 (MQ below (Qp (some (.int res))) args s 0 0 (fun _ => False)) (F0 m 0 ls []) := by
  obtain ⟨hx, hb, hml, hown, hts, hr, hlocks, hK, hN⟩ := id C
  intro  hf ls hl
  unfold f_X1_goesOn at hf
  refine lv_iload_n hx hb dX1_goesOn_0 rfl (lv_at hl 1 rfl) ?_
  refine lv_if_lt (tgt := 33) hx hb dX1_goesOn_1 (by decide) (fun c_1 => ?_) (fun c_1 => ?_)
  · have hf := it_pos c_1 hf
    refine lv_iconst (v := (0 : Int32)) hx hb dX1_goesOn_33 (by decide) ?_
    obtain rfl := Option.some.inj hf
    exact W.zret hx hb hr (by decide) (fun t ht hW => ⟨rfl, ht⟩) (fun q hq => absurd hq List.not_mem_nil) dX1_goesOn_34 hlocks
  · have hf := it_neg c_1 hf
    refine lv_iload_n hx hb dX1_goesOn_4 rfl (lv_at hl 1 rfl) ?_
    refine lv_bipush (v := (20 : Int32)) hx hb dX1_goesOn_5 (by decide) ?_
    refine lv_icmp_ge (tgt := 33) hx hb dX1_goesOn_7 (by decide) (fun c_7 => ?_) (fun c_7 => ?_)
    · have hf := it_pos c_7 hf
      refine lv_iconst (v := (0 : Int32)) hx hb dX1_goesOn_33 (by decide) ?_
      obtain rfl := Option.some.inj hf
      exact W.zret hx hb hr (by decide) (fun t ht hW => ⟨rfl, ht⟩) (fun q hq => absurd hq List.not_mem_nil) dX1_goesOn_34 hlocks
    · have hf := it_neg c_7 hf
      refine lv_aload_n hx hb dX1_goesOn_10 rfl (lv_at hl 0 rfl) ?_
      refine va_get (D := D) (ci := 1) (v := .ref d_tos_a) (C := RX1) (T := TX1) (N := 6) hx hb hts iw_X1_goesOn_X1 hown hK hP 0 rfl rfl 2 (by decide) (hts (.fieldLink RX1 18 "RibbonPosts$Drawing" "tos" "[I") mw_X1_goesOn_0) (fun _ h9 => h9) rfl dX1_goesOn_11 ?_
      refine lv_iload_n hx hb dX1_goesOn_14 rfl (lv_at hl 1 rfl) ?_
      obtain ⟨g_15, hf⟩ := gd_some hf
      refine va_iald (D := D) hx hb hK hP 3 0 rfl rfl (gd_in g_15) dX1_goesOn_15 ?_
      refine lv_iconst (v := (4 : Int32)) hx hb dX1_goesOn_16 (by decide) ?_
      refine lv_idiv hx hb dX1_goesOn_17 (by decide) ?_
      refine lv_aload_n hx hb dX1_goesOn_18 rfl (lv_at hl 0 rfl) ?_
      refine va_get (D := D) (ci := 1) (v := .ref d_froms_a) (C := RX1) (T := TX1) (N := 6) hx hb hts iw_X1_goesOn_X1 hown hK hP 0 rfl rfl 1 (by decide) (hts (.fieldLink RX1 15 "RibbonPosts$Drawing" "froms" "[I") mw_X1_goesOn_1) (fun _ h9 => h9) rfl dX1_goesOn_19 ?_
      refine lv_iload_n hx hb dX1_goesOn_22 rfl (lv_at hl 1 rfl) ?_
      obtain ⟨g_23, hf⟩ := gd_some hf
      refine va_iald (D := D) hx hb hK hP 2 0 rfl rfl (gd_in g_23) dX1_goesOn_23 ?_
      refine lv_iconst (v := (4 : Int32)) hx hb dX1_goesOn_24 (by decide) ?_
      refine lv_idiv hx hb dX1_goesOn_25 (by decide) ?_
      refine lv_icmp_le (tgt := 33) hx hb dX1_goesOn_26 (by decide) (fun c_26 => ?_) (fun c_26 => ?_)
      · have hf := it_pos c_26 hf
        refine lv_iconst (v := (0 : Int32)) hx hb dX1_goesOn_33 (by decide) ?_
        obtain rfl := Option.some.inj hf
        exact W.zret hx hb hr (by decide) (fun t ht hW => ⟨rfl, ht⟩) (fun q hq => absurd hq List.not_mem_nil) dX1_goesOn_34 hlocks
      · have hf := it_neg c_26 hf
        refine lv_iconst (v := (1 : Int32)) hx hb dX1_goesOn_29 (by decide) ?_
        refine lv_goto (tgt := 34) hx hb dX1_goesOn_30 (by decide) ?_
        obtain rfl := Option.some.inj hf
        exact W.zret hx hb hr (by decide) (fun t ht hW => ⟨rfl, ht⟩) (fun q hq => absurd hq List.not_mem_nil) dX1_goesOn_34 hlocks
theorem c_X1_goesOn (l : Launch) (D : va_G) (T : TY) (d_a d_places_a d_froms_a d_tos_a d_widths_a : Nat) (d_places : Nat → Int32) (d_froms : Nat → Int32) (d_tos : Nat → Int32) (d_widths : Nat → Int32) (d_ribbons : Int32) (d_trimmed : Int32) (x1 : Int32) (res : Int32) (hf : f_X1_goesOn d_froms d_tos x1 = some res) : Met l yX1_goesOn wsX1_goesOn rmX1_goesOn (va_Pc [.ref d_a, .int x1] (PB D T [(d_a, .inr (1, [.ref d_places_a, .ref d_froms_a, .ref d_tos_a, .ref d_widths_a, .int d_ribbons, .int d_trimmed])), (d_places_a, .inl (T.1, (16, .inl d_places))), (d_froms_a, .inl (T.1, (20, .inl d_froms))), (d_tos_a, .inl (T.1, (20, .inl d_tos))), (d_widths_a, .inl (T.1, (20, .inl d_widths)))])) (Qp (some (.int res))) 0 0 (fun _ => False) :=
  metP_of (by decide +kernel) rfl (Nat.le_of_ble_eq_true rfl) (fun p e s m args below meth c C hP ls hl => w_X1_goesOn_b0 C hP hf ls hl)
def rmX1_postAt : Room := { frames := 1, cells := 0, slots := 0, locals := 21 }
theorem hdV_X1_postAt : yX1_postAt.cls = RX1 ∧ yX1_postAt.cls ≠ "java/lang/invoke/MethodHandle" ∧ yX1_postAt.cls ≠ "java/lang/invoke/VarHandle" ∧ (parseMethodDescriptor yX1_postAt.desc).map (fun d => d.parameters.length) = some 2 := by decide +kernel
set_option maxHeartbeats 4000000 in
set_option maxRecDepth 100000 in
theorem w_X1_postAt_b7 {p : Program} {l : Launch} {e : Env} {s : State} {m : MethodId} {args : Array Value} {below : List Frame} {meth : Method} {c : Code} {D : va_G} {T : TY} {d_a d_places_a d_froms_a d_tos_a d_widths_a : Nat} {d_places : Nat → Int32} {d_froms : Nat → Int32} {d_tos : Nat → Int32} {d_widths : Nat → Int32} {d_ribbons : Int32} {d_trimmed : Int32} {x1 : Int32} {x2 : Int32} {res : Int32} (C : CX p s m args meth c cX1_postAt 5 RX1 wsX1_postAt (some .int) D T) (hP : va_P D vwCl [(d_a, .inr (1, [.ref d_places_a, .ref d_froms_a, .ref d_tos_a, .ref d_widths_a, .int d_ribbons, .int d_trimmed])), (d_places_a, .inl (T.1, (16, .inl d_places))), (d_froms_a, .inl (T.1, (20, .inl d_froms))), (d_tos_a, .inl (T.1, (20, .inl d_tos))), (d_widths_a, .inl (T.1, (20, .inl d_widths)))] s.heap) : ∀ F : Nat, ∀ x3 : Int32, ∀ x4 : Int32, f_X1_postAt_b7 d_places x1 x2 F x3 x4 = some res → ∀ ls : Array Slot, lv_has ls 5 [(0, .ref d_a), (2, .int x2), (3, .int x3), (4, .int x4)] → W p l e rmX1_postAt s m args below meth c s.heap [] 0 0 (MQ below (Qp (some (.int res))) args s 0 0 (fun _ => False)) (F0 m 7 ls []) := by
  obtain ⟨hx, hb, hml, hown, hts, hr, hlocks, hK, hN⟩ := id C
  intro F
  induction F with
  | zero => intro _ _ hf; cases hf
  | succ F ih =>
    intro x3 x4 hf ls hl
    unfold f_X1_postAt_b7 at hf
    refine lv_iload hx hb dX1_postAt_7 (lv_at hl 3 rfl) ?_
    refine lv_iload_n hx hb dX1_postAt_9 rfl (lv_at hl 2 rfl) ?_
    refine lv_iconst (v := (4 : Int32)) hx hb dX1_postAt_10 (by decide) ?_
    refine lv_iadd hx hb dX1_postAt_11 ?_
    refine lv_icmp_ge (tgt := 34) hx hb dX1_postAt_12 (by decide) (fun c_12 => ?_) (fun c_12 => ?_)
    · have hf := it_pos c_12 hf
      refine lv_iconst (v := (-1 : Int32)) hx hb dX1_postAt_34 (by decide) ?_
      obtain rfl := Option.some.inj hf
      exact W.iret hx hb hr (fun t ht hW => ⟨rfl, ht⟩) (fun q hq => absurd hq List.not_mem_nil) dX1_postAt_35 hlocks
    · have hf := it_neg c_12 hf
      refine lv_aload_n hx hb dX1_postAt_15 rfl (lv_at hl 0 rfl) ?_
      refine lv_iload hx hb dX1_postAt_16 (lv_at hl 3 rfl) ?_
      obtain ⟨q18, e_18, hf⟩ := bd_some hf
      refine callPi (va_runV (As := [.int x4]) (rest := []) ⟨hx, hb, hml, hown, hts⟩ (c_X1_placeOf l D T d_a d_places_a d_froms_a d_tos_a d_widths_a d_places d_froms d_tos d_widths d_ribbons d_trimmed x4 q18 e_18) (cwV 1 hts gX1_postAt_X1_placeOf rfl rfl rfl hdV_X1_placeOf ⟨Nat.le_of_ble_eq_true rfl, Nat.le_of_ble_eq_true rfl⟩) (preBV hP hK hN rfl 0 rfl) rfl rfl hl.1 rfl (lv_room (Nat.le_of_ble_eq_true rfl)) dX1_postAt_18 ⟨Nat.le_of_ble_eq_true rfl, Nat.le_of_ble_eq_true rfl⟩) ?_
      refine lv_iload_n hx hb dX1_postAt_21 rfl (lv_at hl 1 rfl) ?_
      refine lv_icmp_ne (tgt := 28) hx hb dX1_postAt_22 (by decide) (fun c_22 => ?_) (fun c_22 => ?_)
      · have hf := it_neg c_22 hf
        obtain ⟨v28, e_28, hf⟩ := nm_some hf
        refine lv_iinc (v := v28) (lv' := [(4, .int v28), (0, .ref d_a), (2, .int x2), (3, .int x3)]) hx hb dX1_postAt_28 hl (k := 3) rfl (by rw [e_28]; rfl) (by decide) rfl (fun ls hl => ?_)
        refine lv_goto (tgt := 7) hx hb dX1_postAt_31 (by decide) ?_
        exact ih _ _ hf _ (lv_sub hl [1, 2, 3, 0] rfl)
      · have hf := it_pos c_22 hf
        refine lv_iload hx hb dX1_postAt_25 (lv_at hl 3 rfl) ?_
        obtain rfl := Option.some.inj hf
        exact W.iret hx hb hr (fun t ht hW => ⟨rfl, ht⟩) (fun q hq => absurd hq List.not_mem_nil) dX1_postAt_27 hlocks
set_option maxHeartbeats 4000000 in
set_option maxRecDepth 100000 in
theorem w_X1_postAt_b0 {p : Program} {l : Launch} {e : Env} {s : State} {m : MethodId} {args : Array Value} {below : List Frame} {meth : Method} {c : Code} {D : va_G} {T : TY} {d_a d_places_a d_froms_a d_tos_a d_widths_a : Nat} {d_places : Nat → Int32} {d_froms : Nat → Int32} {d_tos : Nat → Int32} {d_widths : Nat → Int32} {d_ribbons : Int32} {d_trimmed : Int32} {x1 : Int32} {x2 : Int32} {res : Int32} (C : CX p s m args meth c cX1_postAt 5 RX1 wsX1_postAt (some .int) D T) (hP : va_P D vwCl [(d_a, .inr (1, [.ref d_places_a, .ref d_froms_a, .ref d_tos_a, .ref d_widths_a, .int d_ribbons, .int d_trimmed])), (d_places_a, .inl (T.1, (16, .inl d_places))), (d_froms_a, .inl (T.1, (20, .inl d_froms))), (d_tos_a, .inl (T.1, (20, .inl d_tos))), (d_widths_a, .inl (T.1, (20, .inl d_widths)))] s.heap) : f_X1_postAt d_places x1 x2 = some res → ∀ ls : Array Slot, lv_has ls 5 [(0, .ref d_a), (1, .int x1), (2, .int x2)] → W p l e rmX1_postAt s m args below meth c s.heap [] 0 0 (MQ below (Qp (some (.int res))) args s 0 0 (fun _ => False)) (F0 m 0 ls []) := by
  obtain ⟨hx, hb, hml, hown, hts, hr, hlocks, hK, hN⟩ := id C
  intro  hf ls hl
  unfold f_X1_postAt at hf
  refine lv_iload_n hx hb dX1_postAt_0 rfl (lv_at hl 1 rfl) ?_
  refine lv_iconst (v := (4 : Int32)) hx hb dX1_postAt_1 (by decide) ?_
  refine lv_imul hx hb dX1_postAt_2 ?_
  obtain ⟨v3, e_3, hf⟩ := nm_some hf
  refine lv_nmi e_3 ?_
  refine lv_istore_n (lv' := [(3, .int v3), (0, .ref d_a), (1, .int x1), (2, .int x2)]) hx hb dX1_postAt_3 rfl hl (by decide) rfl (fun ls hl => ?_)
  refine lv_iload_n hx hb dX1_postAt_4 rfl (lv_at hl 0 rfl) ?_
  refine lv_istore (lv' := [(4, .int v3), (3, .int v3), (0, .ref d_a), (1, .int x1), (2, .int x2)]) hx hb dX1_postAt_5 hl (by decide) rfl (fun ls hl => ?_)
  exact w_X1_postAt_b7 C hP _ _ _ hf _ (lv_sub hl [2, 4, 1, 0] rfl)
theorem c_X1_postAt (l : Launch) (D : va_G) (T : TY) (d_a d_places_a d_froms_a d_tos_a d_widths_a : Nat) (d_places : Nat → Int32) (d_froms : Nat → Int32) (d_tos : Nat → Int32) (d_widths : Nat → Int32) (d_ribbons : Int32) (d_trimmed : Int32) (x1 : Int32) (x2 : Int32) (res : Int32) (hf : f_X1_postAt d_places x1 x2 = some res) : Met l yX1_postAt wsX1_postAt rmX1_postAt (va_Pc [.ref d_a, .int x1, .int x2] (PB D T [(d_a, .inr (1, [.ref d_places_a, .ref d_froms_a, .ref d_tos_a, .ref d_widths_a, .int d_ribbons, .int d_trimmed])), (d_places_a, .inl (T.1, (16, .inl d_places))), (d_froms_a, .inl (T.1, (20, .inl d_froms))), (d_tos_a, .inl (T.1, (20, .inl d_tos))), (d_widths_a, .inl (T.1, (20, .inl d_widths)))])) (Qp (some (.int res))) 0 0 (fun _ => False) :=
  metP_of (by decide +kernel) rfl (Nat.le_of_ble_eq_true rfl) (fun p e s m args below meth c C hP ls hl => w_X1_postAt_b0 C hP hf ls hl)
def rmX1_comesIn : Room := { frames := 1, cells := 0, slots := 0, locals := 21 }
theorem hdV_X1_comesIn : yX1_comesIn.cls = RX1 ∧ yX1_comesIn.cls ≠ "java/lang/invoke/MethodHandle" ∧ yX1_comesIn.cls ≠ "java/lang/invoke/VarHandle" ∧ (parseMethodDescriptor yX1_comesIn.desc).map (fun d => d.parameters.length) = some 1 := by decide +kernel
theorem iw_X1_comesIn_X1 : ∀ w ∈ wsX10, w ∈ wsX1_comesIn := by decide +kernel
theorem mw_X1_comesIn_0 : Cond.fieldLink RX1 30 "RibbonPosts$Drawing" "ribbons" "I" ∈ wsX1_comesIn := by decide +kernel
set_option maxHeartbeats 4000000 in
set_option maxRecDepth 100000 in
theorem w_X1_comesIn_b37 {p : Program} {l : Launch} {e : Env} {s : State} {m : MethodId} {args : Array Value} {below : List Frame} {meth : Method} {c : Code} {D : va_G} {T : TY} {d_a d_places_a d_froms_a d_tos_a d_widths_a : Nat} {d_places : Nat → Int32} {d_froms : Nat → Int32} {d_tos : Nat → Int32} {d_widths : Nat → Int32} {d_ribbons : Int32} {d_trimmed : Int32} {x1 : Int32} {res : Int32} {K4 : Int32 → Int32 → Option (Int32)} (C : CX p s m args meth c cX1_comesIn 4 RX1 wsX1_comesIn (some .int) D T) (hP : va_P D vwCl [(d_a, .inr (1, [.ref d_places_a, .ref d_froms_a, .ref d_tos_a, .ref d_widths_a, .int d_ribbons, .int d_trimmed])), (d_places_a, .inl (T.1, (16, .inl d_places))), (d_froms_a, .inl (T.1, (20, .inl d_froms))), (d_tos_a, .inl (T.1, (20, .inl d_tos))), (d_widths_a, .inl (T.1, (20, .inl d_widths)))] s.heap) (hK4 : ∀ x2 : Int32, ∀ x3 : Int32, K4 x2 x3 = some res → ∀ ls : Array Slot, lv_has ls 4 [(0, .ref d_a), (1, .int x1), (2, .int x2), (3, .int x3)] → W p l e rmX1_comesIn s m args below meth c s.heap [] 0 0 (MQ below (Qp (some (.int res))) args s 0 0 (fun _ => False)) (F0 m 4 ls [])) : ∀ x2 : Int32, ∀ x3 : Int32, f_X1_comesIn_b37 d_froms d_tos d_widths d_ribbons x1 K4 x2 x3 = some res → ∀ ls : Array Slot, lv_has ls 4 [(0, .ref d_a), (1, .int x1), (2, .int x2), (3, .int x3)] → W p l e rmX1_comesIn s m args below meth c s.heap [] 0 0 (MQ below (Qp (some (.int res))) args s 0 0 (fun _ => False)) (F0 m 37 ls []) := by
  obtain ⟨hx, hb, hml, hown, hts, hr, hlocks, hK, hN⟩ := id C
  intro x2 x3 hf ls hl
  unfold f_X1_comesIn_b37 at hf
  obtain ⟨v37, e_37, hf⟩ := nm_some hf
  refine lv_iinc (v := v37) (lv' := [(3, .int v37), (0, .ref d_a), (1, .int x1), (2, .int x2)]) hx hb dX1_comesIn_37 hl (k := 3) rfl (by rw [e_37]; rfl) (by decide) rfl (fun ls hl => ?_)
  refine lv_goto (tgt := 4) hx hb dX1_comesIn_40 (by decide) ?_
  exact hK4 _ _ hf _ (lv_sub hl [1, 2, 3, 0] rfl)
set_option maxHeartbeats 4000000 in
set_option maxRecDepth 100000 in
theorem w_X1_comesIn_b4 {p : Program} {l : Launch} {e : Env} {s : State} {m : MethodId} {args : Array Value} {below : List Frame} {meth : Method} {c : Code} {D : va_G} {T : TY} {d_a d_places_a d_froms_a d_tos_a d_widths_a : Nat} {d_places : Nat → Int32} {d_froms : Nat → Int32} {d_tos : Nat → Int32} {d_widths : Nat → Int32} {d_ribbons : Int32} {d_trimmed : Int32} {x1 : Int32} {res : Int32} (C : CX p s m args meth c cX1_comesIn 4 RX1 wsX1_comesIn (some .int) D T) (hP : va_P D vwCl [(d_a, .inr (1, [.ref d_places_a, .ref d_froms_a, .ref d_tos_a, .ref d_widths_a, .int d_ribbons, .int d_trimmed])), (d_places_a, .inl (T.1, (16, .inl d_places))), (d_froms_a, .inl (T.1, (20, .inl d_froms))), (d_tos_a, .inl (T.1, (20, .inl d_tos))), (d_widths_a, .inl (T.1, (20, .inl d_widths)))] s.heap) : ∀ F : Nat, ∀ x2 : Int32, ∀ x3 : Int32, f_X1_comesIn_b4 d_froms d_tos d_widths d_ribbons x1 F x2 x3 = some res → ∀ ls : Array Slot, lv_has ls 4 [(0, .ref d_a), (1, .int x1), (2, .int x2), (3, .int x3)] → W p l e rmX1_comesIn s m args below meth c s.heap [] 0 0 (MQ below (Qp (some (.int res))) args s 0 0 (fun _ => False)) (F0 m 4 ls []) := by
  obtain ⟨hx, hb, hml, hown, hts, hr, hlocks, hK, hN⟩ := id C
  intro F
  induction F with
  | zero => intro _ _ hf; cases hf
  | succ F ih =>
    intro x2 x3 hf ls hl
    unfold f_X1_comesIn_b4 at hf
    refine lv_iload_n hx hb dX1_comesIn_4 rfl (lv_at hl 3 rfl) ?_
    refine lv_aload_n hx hb dX1_comesIn_5 rfl (lv_at hl 0 rfl) ?_
    refine va_get (D := D) (ci := 1) (v := .int d_ribbons) (C := RX1) (T := TX1) (N := 6) hx hb hts iw_X1_comesIn_X1 hown hK hP 0 rfl rfl 4 (by decide) (hts (.fieldLink RX1 30 "RibbonPosts$Drawing" "ribbons" "I") mw_X1_comesIn_0) (fun _ h9 => h9) rfl dX1_comesIn_6 ?_
    refine lv_icmp_ge (tgt := 43) hx hb dX1_comesIn_9 (by decide) (fun c_9 => ?_) (fun c_9 => ?_)
    · have hf := it_pos c_9 hf
      refine lv_iload_n hx hb dX1_comesIn_43 rfl (lv_at hl 2 rfl) ?_
      obtain rfl := Option.some.inj hf
      exact W.iret hx hb hr (fun t ht hW => ⟨rfl, ht⟩) (fun q hq => absurd hq List.not_mem_nil) dX1_comesIn_44 hlocks
    · have hf := it_neg c_9 hf
      refine lv_aload_n hx hb dX1_comesIn_12 rfl (lv_at hl 0 rfl) ?_
      refine lv_iload_n hx hb dX1_comesIn_13 rfl (lv_at hl 3 rfl) ?_
      obtain ⟨q14, e_14, hf⟩ := bd_some hf
      refine callPi (va_runV (As := [.int x3]) (rest := []) ⟨hx, hb, hml, hown, hts⟩ (c_X1_toOf l D T d_a d_places_a d_froms_a d_tos_a d_widths_a d_places d_froms d_tos d_widths d_ribbons d_trimmed x3 q14 e_14) (cwV 1 hts gX1_comesIn_X1_toOf rfl rfl rfl hdV_X1_toOf ⟨Nat.le_of_ble_eq_true rfl, Nat.le_of_ble_eq_true rfl⟩) (preBV hP hK hN rfl 0 rfl) rfl rfl hl.1 rfl (lv_room (Nat.le_of_ble_eq_true rfl)) dX1_comesIn_14 ⟨Nat.le_of_ble_eq_true rfl, Nat.le_of_ble_eq_true rfl⟩) ?_
      refine lv_iload_n hx hb dX1_comesIn_17 rfl (lv_at hl 1 rfl) ?_
      refine lv_icmp_ne (tgt := 37) hx hb dX1_comesIn_18 (by decide) (fun c_18 => ?_) (fun c_18 => ?_)
      · have hf := it_neg c_18 hf
        exact w_X1_comesIn_b37 C hP (fun v0 v1 hf ls hl => ih v0 v1 hf ls hl) _ _ hf _ (lv_sub hl [0, 1, 2, 3] rfl)
      · have hf := it_pos c_18 hf
        refine lv_aload_n hx hb dX1_comesIn_21 rfl (lv_at hl 0 rfl) ?_
        refine lv_iload_n hx hb dX1_comesIn_22 rfl (lv_at hl 3 rfl) ?_
        obtain ⟨q23, e_23, hf⟩ := bd_some hf
        refine callPi (va_runV (As := [.int x3]) (rest := []) ⟨hx, hb, hml, hown, hts⟩ (c_X1_goesOn l D T d_a d_places_a d_froms_a d_tos_a d_widths_a d_places d_froms d_tos d_widths d_ribbons d_trimmed x3 q23 e_23) (cwV 1 hts gX1_comesIn_X1_goesOn rfl rfl rfl hdV_X1_goesOn ⟨Nat.le_of_ble_eq_true rfl, Nat.le_of_ble_eq_true rfl⟩) (preBV hP hK hN rfl 0 rfl) rfl rfl hl.1 rfl (lv_room (Nat.le_of_ble_eq_true rfl)) dX1_comesIn_23 ⟨Nat.le_of_ble_eq_true rfl, Nat.le_of_ble_eq_true rfl⟩) ?_
        refine lv_if_eq (tgt := 37) hx hb dX1_comesIn_26 (by decide) (fun c_26 => ?_) (fun c_26 => ?_)
        · have hf := it_pos c_26 hf
          exact w_X1_comesIn_b37 C hP (fun v0 v1 hf ls hl => ih v0 v1 hf ls hl) _ _ hf _ (lv_sub hl [0, 1, 2, 3] rfl)
        · have hf := it_neg c_26 hf
          refine lv_iload_n hx hb dX1_comesIn_29 rfl (lv_at hl 2 rfl) ?_
          refine lv_aload_n hx hb dX1_comesIn_30 rfl (lv_at hl 0 rfl) ?_
          refine lv_iload_n hx hb dX1_comesIn_31 rfl (lv_at hl 3 rfl) ?_
          obtain ⟨q32, e_32, hf⟩ := bd_some hf
          refine callPi (va_runV (As := [.int x3]) (rest := [.int x2]) ⟨hx, hb, hml, hown, hts⟩ (c_X1_widthOf l D T d_a d_places_a d_froms_a d_tos_a d_widths_a d_places d_froms d_tos d_widths d_ribbons d_trimmed x3 q32 e_32) (cwV 1 hts gX1_comesIn_X1_widthOf rfl rfl rfl hdV_X1_widthOf ⟨Nat.le_of_ble_eq_true rfl, Nat.le_of_ble_eq_true rfl⟩) (preBV hP hK hN rfl 0 rfl) rfl rfl hl.1 rfl (lv_room (Nat.le_of_ble_eq_true rfl)) dX1_comesIn_32 ⟨Nat.le_of_ble_eq_true rfl, Nat.le_of_ble_eq_true rfl⟩) ?_
          refine lv_iadd hx hb dX1_comesIn_35 ?_
          obtain ⟨v36, e_36, hf⟩ := nm_some hf
          refine lv_nmi e_36 ?_
          refine lv_istore_n (lv' := [(2, .int v36), (0, .ref d_a), (1, .int x1), (3, .int x3)]) hx hb dX1_comesIn_36 rfl hl (by decide) rfl (fun ls hl => ?_)
          exact w_X1_comesIn_b37 C hP (fun v0 v1 hf ls hl => ih v0 v1 hf ls hl) _ _ hf _ (lv_sub hl [1, 2, 0, 3] rfl)
set_option maxHeartbeats 4000000 in
set_option maxRecDepth 100000 in
theorem w_X1_comesIn_b0 {p : Program} {l : Launch} {e : Env} {s : State} {m : MethodId} {args : Array Value} {below : List Frame} {meth : Method} {c : Code} {D : va_G} {T : TY} {d_a d_places_a d_froms_a d_tos_a d_widths_a : Nat} {d_places : Nat → Int32} {d_froms : Nat → Int32} {d_tos : Nat → Int32} {d_widths : Nat → Int32} {d_ribbons : Int32} {d_trimmed : Int32} {x1 : Int32} {res : Int32} (C : CX p s m args meth c cX1_comesIn 4 RX1 wsX1_comesIn (some .int) D T) (hP : va_P D vwCl [(d_a, .inr (1, [.ref d_places_a, .ref d_froms_a, .ref d_tos_a, .ref d_widths_a, .int d_ribbons, .int d_trimmed])), (d_places_a, .inl (T.1, (16, .inl d_places))), (d_froms_a, .inl (T.1, (20, .inl d_froms))), (d_tos_a, .inl (T.1, (20, .inl d_tos))), (d_widths_a, .inl (T.1, (20, .inl d_widths)))] s.heap) : f_X1_comesIn d_froms d_tos d_widths d_ribbons x1 = some res → ∀ ls : Array Slot, lv_has ls 4 [(0, .ref d_a), (1, .int x1)] → W p l e rmX1_comesIn s m args below meth c s.heap [] 0 0 (MQ below (Qp (some (.int res))) args s 0 0 (fun _ => False)) (F0 m 0 ls []) := by
  obtain ⟨hx, hb, hml, hown, hts, hr, hlocks, hK, hN⟩ := id C
  intro  hf ls hl
  unfold f_X1_comesIn at hf
  refine lv_iconst (v := (0 : Int32)) hx hb dX1_comesIn_0 (by decide) ?_
  refine lv_istore_n (lv' := [(2, .int (0 : Int32)), (0, .ref d_a), (1, .int x1)]) hx hb dX1_comesIn_1 rfl hl (by decide) rfl (fun ls hl => ?_)
  refine lv_iconst (v := (0 : Int32)) hx hb dX1_comesIn_2 (by decide) ?_
  refine lv_istore_n (lv' := [(3, .int (0 : Int32)), (2, .int (0 : Int32)), (0, .ref d_a), (1, .int x1)]) hx hb dX1_comesIn_3 rfl hl (by decide) rfl (fun ls hl => ?_)
  exact w_X1_comesIn_b4 C hP _ _ _ hf _ (lv_sub hl [2, 3, 1, 0] rfl)
theorem c_X1_comesIn (l : Launch) (D : va_G) (T : TY) (d_a d_places_a d_froms_a d_tos_a d_widths_a : Nat) (d_places : Nat → Int32) (d_froms : Nat → Int32) (d_tos : Nat → Int32) (d_widths : Nat → Int32) (d_ribbons : Int32) (d_trimmed : Int32) (x1 : Int32) (res : Int32) (hf : f_X1_comesIn d_froms d_tos d_widths d_ribbons x1 = some res) : Met l yX1_comesIn wsX1_comesIn rmX1_comesIn (va_Pc [.ref d_a, .int x1] (PB D T [(d_a, .inr (1, [.ref d_places_a, .ref d_froms_a, .ref d_tos_a, .ref d_widths_a, .int d_ribbons, .int d_trimmed])), (d_places_a, .inl (T.1, (16, .inl d_places))), (d_froms_a, .inl (T.1, (20, .inl d_froms))), (d_tos_a, .inl (T.1, (20, .inl d_tos))), (d_widths_a, .inl (T.1, (20, .inl d_widths)))])) (Qp (some (.int res))) 0 0 (fun _ => False) :=
  metP_of (by decide +kernel) rfl (Nat.le_of_ble_eq_true rfl) (fun p e s m args below meth c C hP ls hl => w_X1_comesIn_b0 C hP hf ls hl)
def rmX1_leaves : Room := { frames := 1, cells := 0, slots := 0, locals := 21 }
theorem hdV_X1_leaves : yX1_leaves.cls = RX1 ∧ yX1_leaves.cls ≠ "java/lang/invoke/MethodHandle" ∧ yX1_leaves.cls ≠ "java/lang/invoke/VarHandle" ∧ (parseMethodDescriptor yX1_leaves.desc).map (fun d => d.parameters.length) = some 1 := by decide +kernel
theorem iw_X1_leaves_X1 : ∀ w ∈ wsX10, w ∈ wsX1_leaves := by decide +kernel
theorem mw_X1_leaves_0 : Cond.fieldLink RX1 30 "RibbonPosts$Drawing" "ribbons" "I" ∈ wsX1_leaves := by decide +kernel
set_option maxHeartbeats 4000000 in
set_option maxRecDepth 100000 in
theorem w_X1_leaves_b37 {p : Program} {l : Launch} {e : Env} {s : State} {m : MethodId} {args : Array Value} {below : List Frame} {meth : Method} {c : Code} {D : va_G} {T : TY} {d_a d_places_a d_froms_a d_tos_a d_widths_a : Nat} {d_places : Nat → Int32} {d_froms : Nat → Int32} {d_tos : Nat → Int32} {d_widths : Nat → Int32} {d_ribbons : Int32} {d_trimmed : Int32} {x1 : Int32} {res : Int32} {K4 : Int32 → Int32 → Option (Int32)} (C : CX p s m args meth c cX1_leaves 4 RX1 wsX1_leaves (some .int) D T) (hP : va_P D vwCl [(d_a, .inr (1, [.ref d_places_a, .ref d_froms_a, .ref d_tos_a, .ref d_widths_a, .int d_ribbons, .int d_trimmed])), (d_places_a, .inl (T.1, (16, .inl d_places))), (d_froms_a, .inl (T.1, (20, .inl d_froms))), (d_tos_a, .inl (T.1, (20, .inl d_tos))), (d_widths_a, .inl (T.1, (20, .inl d_widths)))] s.heap) (hK4 : ∀ x2 : Int32, ∀ x3 : Int32, K4 x2 x3 = some res → ∀ ls : Array Slot, lv_has ls 4 [(0, .ref d_a), (1, .int x1), (2, .int x2), (3, .int x3)] → W p l e rmX1_leaves s m args below meth c s.heap [] 0 0 (MQ below (Qp (some (.int res))) args s 0 0 (fun _ => False)) (F0 m 4 ls [])) : ∀ x2 : Int32, ∀ x3 : Int32, f_X1_leaves_b37 d_froms d_tos d_widths d_ribbons x1 K4 x2 x3 = some res → ∀ ls : Array Slot, lv_has ls 4 [(0, .ref d_a), (1, .int x1), (2, .int x2), (3, .int x3)] → W p l e rmX1_leaves s m args below meth c s.heap [] 0 0 (MQ below (Qp (some (.int res))) args s 0 0 (fun _ => False)) (F0 m 37 ls []) := by
  obtain ⟨hx, hb, hml, hown, hts, hr, hlocks, hK, hN⟩ := id C
  intro x2 x3 hf ls hl
  unfold f_X1_leaves_b37 at hf
  obtain ⟨v37, e_37, hf⟩ := nm_some hf
  refine lv_iinc (v := v37) (lv' := [(3, .int v37), (0, .ref d_a), (1, .int x1), (2, .int x2)]) hx hb dX1_leaves_37 hl (k := 3) rfl (by rw [e_37]; rfl) (by decide) rfl (fun ls hl => ?_)
  refine lv_goto (tgt := 4) hx hb dX1_leaves_40 (by decide) ?_
  exact hK4 _ _ hf _ (lv_sub hl [1, 2, 3, 0] rfl)
set_option maxHeartbeats 4000000 in
set_option maxRecDepth 100000 in
theorem w_X1_leaves_b4 {p : Program} {l : Launch} {e : Env} {s : State} {m : MethodId} {args : Array Value} {below : List Frame} {meth : Method} {c : Code} {D : va_G} {T : TY} {d_a d_places_a d_froms_a d_tos_a d_widths_a : Nat} {d_places : Nat → Int32} {d_froms : Nat → Int32} {d_tos : Nat → Int32} {d_widths : Nat → Int32} {d_ribbons : Int32} {d_trimmed : Int32} {x1 : Int32} {res : Int32} (C : CX p s m args meth c cX1_leaves 4 RX1 wsX1_leaves (some .int) D T) (hP : va_P D vwCl [(d_a, .inr (1, [.ref d_places_a, .ref d_froms_a, .ref d_tos_a, .ref d_widths_a, .int d_ribbons, .int d_trimmed])), (d_places_a, .inl (T.1, (16, .inl d_places))), (d_froms_a, .inl (T.1, (20, .inl d_froms))), (d_tos_a, .inl (T.1, (20, .inl d_tos))), (d_widths_a, .inl (T.1, (20, .inl d_widths)))] s.heap) : ∀ F : Nat, ∀ x2 : Int32, ∀ x3 : Int32, f_X1_leaves_b4 d_froms d_tos d_widths d_ribbons x1 F x2 x3 = some res → ∀ ls : Array Slot, lv_has ls 4 [(0, .ref d_a), (1, .int x1), (2, .int x2), (3, .int x3)] → W p l e rmX1_leaves s m args below meth c s.heap [] 0 0 (MQ below (Qp (some (.int res))) args s 0 0 (fun _ => False)) (F0 m 4 ls []) := by
  obtain ⟨hx, hb, hml, hown, hts, hr, hlocks, hK, hN⟩ := id C
  intro F
  induction F with
  | zero => intro _ _ hf; cases hf
  | succ F ih =>
    intro x2 x3 hf ls hl
    unfold f_X1_leaves_b4 at hf
    refine lv_iload_n hx hb dX1_leaves_4 rfl (lv_at hl 3 rfl) ?_
    refine lv_aload_n hx hb dX1_leaves_5 rfl (lv_at hl 0 rfl) ?_
    refine va_get (D := D) (ci := 1) (v := .int d_ribbons) (C := RX1) (T := TX1) (N := 6) hx hb hts iw_X1_leaves_X1 hown hK hP 0 rfl rfl 4 (by decide) (hts (.fieldLink RX1 30 "RibbonPosts$Drawing" "ribbons" "I") mw_X1_leaves_0) (fun _ h9 => h9) rfl dX1_leaves_6 ?_
    refine lv_icmp_ge (tgt := 43) hx hb dX1_leaves_9 (by decide) (fun c_9 => ?_) (fun c_9 => ?_)
    · have hf := it_pos c_9 hf
      refine lv_iload_n hx hb dX1_leaves_43 rfl (lv_at hl 2 rfl) ?_
      obtain rfl := Option.some.inj hf
      exact W.iret hx hb hr (fun t ht hW => ⟨rfl, ht⟩) (fun q hq => absurd hq List.not_mem_nil) dX1_leaves_44 hlocks
    · have hf := it_neg c_9 hf
      refine lv_aload_n hx hb dX1_leaves_12 rfl (lv_at hl 0 rfl) ?_
      refine lv_iload_n hx hb dX1_leaves_13 rfl (lv_at hl 3 rfl) ?_
      obtain ⟨q14, e_14, hf⟩ := bd_some hf
      refine callPi (va_runV (As := [.int x3]) (rest := []) ⟨hx, hb, hml, hown, hts⟩ (c_X1_fromOf l D T d_a d_places_a d_froms_a d_tos_a d_widths_a d_places d_froms d_tos d_widths d_ribbons d_trimmed x3 q14 e_14) (cwV 1 hts gX1_leaves_X1_fromOf rfl rfl rfl hdV_X1_fromOf ⟨Nat.le_of_ble_eq_true rfl, Nat.le_of_ble_eq_true rfl⟩) (preBV hP hK hN rfl 0 rfl) rfl rfl hl.1 rfl (lv_room (Nat.le_of_ble_eq_true rfl)) dX1_leaves_14 ⟨Nat.le_of_ble_eq_true rfl, Nat.le_of_ble_eq_true rfl⟩) ?_
      refine lv_iload_n hx hb dX1_leaves_17 rfl (lv_at hl 1 rfl) ?_
      refine lv_icmp_ne (tgt := 37) hx hb dX1_leaves_18 (by decide) (fun c_18 => ?_) (fun c_18 => ?_)
      · have hf := it_neg c_18 hf
        exact w_X1_leaves_b37 C hP (fun v0 v1 hf ls hl => ih v0 v1 hf ls hl) _ _ hf _ (lv_sub hl [0, 1, 2, 3] rfl)
      · have hf := it_pos c_18 hf
        refine lv_aload_n hx hb dX1_leaves_21 rfl (lv_at hl 0 rfl) ?_
        refine lv_iload_n hx hb dX1_leaves_22 rfl (lv_at hl 3 rfl) ?_
        obtain ⟨q23, e_23, hf⟩ := bd_some hf
        refine callPi (va_runV (As := [.int x3]) (rest := []) ⟨hx, hb, hml, hown, hts⟩ (c_X1_goesOn l D T d_a d_places_a d_froms_a d_tos_a d_widths_a d_places d_froms d_tos d_widths d_ribbons d_trimmed x3 q23 e_23) (cwV 1 hts gX1_leaves_X1_goesOn rfl rfl rfl hdV_X1_goesOn ⟨Nat.le_of_ble_eq_true rfl, Nat.le_of_ble_eq_true rfl⟩) (preBV hP hK hN rfl 0 rfl) rfl rfl hl.1 rfl (lv_room (Nat.le_of_ble_eq_true rfl)) dX1_leaves_23 ⟨Nat.le_of_ble_eq_true rfl, Nat.le_of_ble_eq_true rfl⟩) ?_
        refine lv_if_eq (tgt := 37) hx hb dX1_leaves_26 (by decide) (fun c_26 => ?_) (fun c_26 => ?_)
        · have hf := it_pos c_26 hf
          exact w_X1_leaves_b37 C hP (fun v0 v1 hf ls hl => ih v0 v1 hf ls hl) _ _ hf _ (lv_sub hl [0, 1, 2, 3] rfl)
        · have hf := it_neg c_26 hf
          refine lv_iload_n hx hb dX1_leaves_29 rfl (lv_at hl 2 rfl) ?_
          refine lv_aload_n hx hb dX1_leaves_30 rfl (lv_at hl 0 rfl) ?_
          refine lv_iload_n hx hb dX1_leaves_31 rfl (lv_at hl 3 rfl) ?_
          obtain ⟨q32, e_32, hf⟩ := bd_some hf
          refine callPi (va_runV (As := [.int x3]) (rest := [.int x2]) ⟨hx, hb, hml, hown, hts⟩ (c_X1_widthOf l D T d_a d_places_a d_froms_a d_tos_a d_widths_a d_places d_froms d_tos d_widths d_ribbons d_trimmed x3 q32 e_32) (cwV 1 hts gX1_leaves_X1_widthOf rfl rfl rfl hdV_X1_widthOf ⟨Nat.le_of_ble_eq_true rfl, Nat.le_of_ble_eq_true rfl⟩) (preBV hP hK hN rfl 0 rfl) rfl rfl hl.1 rfl (lv_room (Nat.le_of_ble_eq_true rfl)) dX1_leaves_32 ⟨Nat.le_of_ble_eq_true rfl, Nat.le_of_ble_eq_true rfl⟩) ?_
          refine lv_iadd hx hb dX1_leaves_35 ?_
          obtain ⟨v36, e_36, hf⟩ := nm_some hf
          refine lv_nmi e_36 ?_
          refine lv_istore_n (lv' := [(2, .int v36), (0, .ref d_a), (1, .int x1), (3, .int x3)]) hx hb dX1_leaves_36 rfl hl (by decide) rfl (fun ls hl => ?_)
          exact w_X1_leaves_b37 C hP (fun v0 v1 hf ls hl => ih v0 v1 hf ls hl) _ _ hf _ (lv_sub hl [1, 2, 0, 3] rfl)
set_option maxHeartbeats 4000000 in
set_option maxRecDepth 100000 in
theorem w_X1_leaves_b0 {p : Program} {l : Launch} {e : Env} {s : State} {m : MethodId} {args : Array Value} {below : List Frame} {meth : Method} {c : Code} {D : va_G} {T : TY} {d_a d_places_a d_froms_a d_tos_a d_widths_a : Nat} {d_places : Nat → Int32} {d_froms : Nat → Int32} {d_tos : Nat → Int32} {d_widths : Nat → Int32} {d_ribbons : Int32} {d_trimmed : Int32} {x1 : Int32} {res : Int32} (C : CX p s m args meth c cX1_leaves 4 RX1 wsX1_leaves (some .int) D T) (hP : va_P D vwCl [(d_a, .inr (1, [.ref d_places_a, .ref d_froms_a, .ref d_tos_a, .ref d_widths_a, .int d_ribbons, .int d_trimmed])), (d_places_a, .inl (T.1, (16, .inl d_places))), (d_froms_a, .inl (T.1, (20, .inl d_froms))), (d_tos_a, .inl (T.1, (20, .inl d_tos))), (d_widths_a, .inl (T.1, (20, .inl d_widths)))] s.heap) : f_X1_leaves d_froms d_tos d_widths d_ribbons x1 = some res → ∀ ls : Array Slot, lv_has ls 4 [(0, .ref d_a), (1, .int x1)] → W p l e rmX1_leaves s m args below meth c s.heap [] 0 0 (MQ below (Qp (some (.int res))) args s 0 0 (fun _ => False)) (F0 m 0 ls []) := by
  obtain ⟨hx, hb, hml, hown, hts, hr, hlocks, hK, hN⟩ := id C
  intro  hf ls hl
  unfold f_X1_leaves at hf
  refine lv_iconst (v := (0 : Int32)) hx hb dX1_leaves_0 (by decide) ?_
  refine lv_istore_n (lv' := [(2, .int (0 : Int32)), (0, .ref d_a), (1, .int x1)]) hx hb dX1_leaves_1 rfl hl (by decide) rfl (fun ls hl => ?_)
  refine lv_iconst (v := (0 : Int32)) hx hb dX1_leaves_2 (by decide) ?_
  refine lv_istore_n (lv' := [(3, .int (0 : Int32)), (2, .int (0 : Int32)), (0, .ref d_a), (1, .int x1)]) hx hb dX1_leaves_3 rfl hl (by decide) rfl (fun ls hl => ?_)
  exact w_X1_leaves_b4 C hP _ _ _ hf _ (lv_sub hl [2, 3, 1, 0] rfl)
theorem c_X1_leaves (l : Launch) (D : va_G) (T : TY) (d_a d_places_a d_froms_a d_tos_a d_widths_a : Nat) (d_places : Nat → Int32) (d_froms : Nat → Int32) (d_tos : Nat → Int32) (d_widths : Nat → Int32) (d_ribbons : Int32) (d_trimmed : Int32) (x1 : Int32) (res : Int32) (hf : f_X1_leaves d_froms d_tos d_widths d_ribbons x1 = some res) : Met l yX1_leaves wsX1_leaves rmX1_leaves (va_Pc [.ref d_a, .int x1] (PB D T [(d_a, .inr (1, [.ref d_places_a, .ref d_froms_a, .ref d_tos_a, .ref d_widths_a, .int d_ribbons, .int d_trimmed])), (d_places_a, .inl (T.1, (16, .inl d_places))), (d_froms_a, .inl (T.1, (20, .inl d_froms))), (d_tos_a, .inl (T.1, (20, .inl d_tos))), (d_widths_a, .inl (T.1, (20, .inl d_widths)))])) (Qp (some (.int res))) 0 0 (fun _ => False) :=
  metP_of (by decide +kernel) rfl (Nat.le_of_ble_eq_true rfl) (fun p e s m args below meth c C hP ls hl => w_X1_leaves_b0 C hP hf ls hl)
def rmX1_surplusOf : Room := { frames := 2, cells := 0, slots := 0, locals := 44 }
theorem hdV_X1_surplusOf : yX1_surplusOf.cls = RX1 ∧ yX1_surplusOf.cls ≠ "java/lang/invoke/MethodHandle" ∧ yX1_surplusOf.cls ≠ "java/lang/invoke/VarHandle" ∧ (parseMethodDescriptor yX1_surplusOf.desc).map (fun d => d.parameters.length) = some 1 := by decide +kernel
set_option maxHeartbeats 4000000 in
set_option maxRecDepth 100000 in
theorem w_X1_surplusOf_b0 {p : Program} {l : Launch} {e : Env} {s : State} {m : MethodId} {args : Array Value} {below : List Frame} {meth : Method} {c : Code} {D : va_G} {T : TY} {d_a d_places_a d_froms_a d_tos_a d_widths_a : Nat} {d_places : Nat → Int32} {d_froms : Nat → Int32} {d_tos : Nat → Int32} {d_widths : Nat → Int32} {d_ribbons : Int32} {d_trimmed : Int32} {x1 : Int32} {res : Int32} (C : CX p s m args meth c cX1_surplusOf 2 RX1 wsX1_surplusOf (some .int) D T) (hP : va_P D vwCl [(d_a, .inr (1, [.ref d_places_a, .ref d_froms_a, .ref d_tos_a, .ref d_widths_a, .int d_ribbons, .int d_trimmed])), (d_places_a, .inl (T.1, (16, .inl d_places))), (d_froms_a, .inl (T.1, (20, .inl d_froms))), (d_tos_a, .inl (T.1, (20, .inl d_tos))), (d_widths_a, .inl (T.1, (20, .inl d_widths)))] s.heap) : f_X1_surplusOf d_froms d_tos d_widths d_ribbons x1 = some res → ∀ ls : Array Slot, lv_has ls 2 [(0, .ref d_a), (1, .int x1)] → W p l e rmX1_surplusOf s m args below meth c s.heap [] 0 0 (MQ below (Qp (some (.int res))) args s 0 0 (fun _ => False)) (F0 m 0 ls []) := by
  obtain ⟨hx, hb, hml, hown, hts, hr, hlocks, hK, hN⟩ := id C
  intro  hf ls hl
  unfold f_X1_surplusOf at hf
  refine lv_aload_n hx hb dX1_surplusOf_0 rfl (lv_at hl 0 rfl) ?_
  refine lv_iload_n hx hb dX1_surplusOf_1 rfl (lv_at hl 1 rfl) ?_
  obtain ⟨q2, e_2, hf⟩ := bd_some hf
  refine callPi (va_runV (As := [.int x1]) (rest := []) ⟨hx, hb, hml, hown, hts⟩ (c_X1_comesIn l D T d_a d_places_a d_froms_a d_tos_a d_widths_a d_places d_froms d_tos d_widths d_ribbons d_trimmed x1 q2 e_2) (cwV 1 hts gX1_surplusOf_X1_comesIn rfl rfl rfl hdV_X1_comesIn ⟨Nat.le_of_ble_eq_true rfl, Nat.le_of_ble_eq_true rfl⟩) (preBV hP hK hN rfl 0 rfl) rfl rfl hl.1 rfl (lv_room (Nat.le_of_ble_eq_true rfl)) dX1_surplusOf_2 ⟨Nat.le_of_ble_eq_true rfl, Nat.le_of_ble_eq_true rfl⟩) ?_
  refine lv_aload_n hx hb dX1_surplusOf_5 rfl (lv_at hl 0 rfl) ?_
  refine lv_iload_n hx hb dX1_surplusOf_6 rfl (lv_at hl 1 rfl) ?_
  obtain ⟨q7, e_7, hf⟩ := bd_some hf
  refine callPi (va_runV (As := [.int x1]) (rest := [.int q2]) ⟨hx, hb, hml, hown, hts⟩ (c_X1_leaves l D T d_a d_places_a d_froms_a d_tos_a d_widths_a d_places d_froms d_tos d_widths d_ribbons d_trimmed x1 q7 e_7) (cwV 1 hts gX1_surplusOf_X1_leaves rfl rfl rfl hdV_X1_leaves ⟨Nat.le_of_ble_eq_true rfl, Nat.le_of_ble_eq_true rfl⟩) (preBV hP hK hN rfl 0 rfl) rfl rfl hl.1 rfl (lv_room (Nat.le_of_ble_eq_true rfl)) dX1_surplusOf_7 ⟨Nat.le_of_ble_eq_true rfl, Nat.le_of_ble_eq_true rfl⟩) ?_
  refine lv_isub hx hb dX1_surplusOf_10 ?_
  obtain rfl := Option.some.inj hf
  exact W.iret hx hb hr (fun t ht hW => ⟨rfl, ht⟩) (fun q hq => absurd hq List.not_mem_nil) dX1_surplusOf_11 hlocks
theorem c_X1_surplusOf (l : Launch) (D : va_G) (T : TY) (d_a d_places_a d_froms_a d_tos_a d_widths_a : Nat) (d_places : Nat → Int32) (d_froms : Nat → Int32) (d_tos : Nat → Int32) (d_widths : Nat → Int32) (d_ribbons : Int32) (d_trimmed : Int32) (x1 : Int32) (res : Int32) (hf : f_X1_surplusOf d_froms d_tos d_widths d_ribbons x1 = some res) : Met l yX1_surplusOf wsX1_surplusOf rmX1_surplusOf (va_Pc [.ref d_a, .int x1] (PB D T [(d_a, .inr (1, [.ref d_places_a, .ref d_froms_a, .ref d_tos_a, .ref d_widths_a, .int d_ribbons, .int d_trimmed])), (d_places_a, .inl (T.1, (16, .inl d_places))), (d_froms_a, .inl (T.1, (20, .inl d_froms))), (d_tos_a, .inl (T.1, (20, .inl d_tos))), (d_widths_a, .inl (T.1, (20, .inl d_widths)))])) (Qp (some (.int res))) 0 0 (fun _ => False) :=
  metP_of (by decide +kernel) rfl (Nat.le_of_ble_eq_true rfl) (fun p e s m args below meth c C hP ls hl => w_X1_surplusOf_b0 C hP hf ls hl)
def rmX1_widestAt : Room := { frames := 1, cells := 0, slots := 0, locals := 21 }
theorem hdV_X1_widestAt : yX1_widestAt.cls = RX1 ∧ yX1_widestAt.cls ≠ "java/lang/invoke/MethodHandle" ∧ yX1_widestAt.cls ≠ "java/lang/invoke/VarHandle" ∧ (parseMethodDescriptor yX1_widestAt.desc).map (fun d => d.parameters.length) = some 2 := by decide +kernel
theorem iw_X1_widestAt_X1 : ∀ w ∈ wsX10, w ∈ wsX1_widestAt := by decide +kernel
theorem mw_X1_widestAt_0 : Cond.fieldLink RX1 30 "RibbonPosts$Drawing" "ribbons" "I" ∈ wsX1_widestAt := by decide +kernel
set_option maxHeartbeats 4000000 in
set_option maxRecDepth 100000 in
theorem w_X1_widestAt_b84 {p : Program} {l : Launch} {e : Env} {s : State} {m : MethodId} {args : Array Value} {below : List Frame} {meth : Method} {c : Code} {D : va_G} {T : TY} {d_a d_places_a d_froms_a d_tos_a d_widths_a : Nat} {d_places : Nat → Int32} {d_froms : Nat → Int32} {d_tos : Nat → Int32} {d_widths : Nat → Int32} {d_ribbons : Int32} {d_trimmed : Int32} {x1 : Int32} {x2 : Int32} {res : Int32} {K5 : Int32 → Int32 → Option (Int32)} (C : CX p s m args meth c cX1_widestAt 7 RX1 wsX1_widestAt (some .int) D T) (hP : va_P D vwCl [(d_a, .inr (1, [.ref d_places_a, .ref d_froms_a, .ref d_tos_a, .ref d_widths_a, .int d_ribbons, .int d_trimmed])), (d_places_a, .inl (T.1, (16, .inl d_places))), (d_froms_a, .inl (T.1, (20, .inl d_froms))), (d_tos_a, .inl (T.1, (20, .inl d_tos))), (d_widths_a, .inl (T.1, (20, .inl d_widths)))] s.heap) (hK5 : ∀ x3 : Int32, ∀ x4 : Int32, K5 x3 x4 = some res → ∀ ls : Array Slot, lv_has ls 7 [(0, .ref d_a), (1, .int x1), (2, .int x2), (3, .int x3), (4, .int x4)] → W p l e rmX1_widestAt s m args below meth c s.heap [] 0 0 (MQ below (Qp (some (.int res))) args s 0 0 (fun _ => False)) (F0 m 5 ls [])) : ∀ x3 : Int32, ∀ x4 : Int32, f_X1_widestAt_b84 d_froms d_tos d_widths d_ribbons x1 x2 K5 x3 x4 = some res → ∀ ls : Array Slot, lv_has ls 7 [(0, .ref d_a), (1, .int x1), (2, .int x2), (3, .int x3), (4, .int x4)] → W p l e rmX1_widestAt s m args below meth c s.heap [] 0 0 (MQ below (Qp (some (.int res))) args s 0 0 (fun _ => False)) (F0 m 84 ls []) := by
  obtain ⟨hx, hb, hml, hown, hts, hr, hlocks, hK, hN⟩ := id C
  intro x3 x4 hf ls hl
  unfold f_X1_widestAt_b84 at hf
  obtain ⟨v84, e_84, hf⟩ := nm_some hf
  refine lv_iinc (v := v84) (lv' := [(4, .int v84), (0, .ref d_a), (1, .int x1), (2, .int x2), (3, .int x3)]) hx hb dX1_widestAt_84 hl (k := 4) rfl (by rw [e_84]; rfl) (by decide) rfl (fun ls hl => ?_)
  refine lv_goto (tgt := 5) hx hb dX1_widestAt_87 (by decide) ?_
  exact hK5 _ _ hf _ (lv_sub hl [1, 2, 3, 4, 0] rfl)
set_option maxHeartbeats 4000000 in
set_option maxRecDepth 100000 in
theorem w_X1_widestAt_b59 {p : Program} {l : Launch} {e : Env} {s : State} {m : MethodId} {args : Array Value} {below : List Frame} {meth : Method} {c : Code} {D : va_G} {T : TY} {d_a d_places_a d_froms_a d_tos_a d_widths_a : Nat} {d_places : Nat → Int32} {d_froms : Nat → Int32} {d_tos : Nat → Int32} {d_widths : Nat → Int32} {d_ribbons : Int32} {d_trimmed : Int32} {x1 : Int32} {x2 : Int32} {res : Int32} {K5 : Int32 → Int32 → Option (Int32)} (C : CX p s m args meth c cX1_widestAt 7 RX1 wsX1_widestAt (some .int) D T) (hP : va_P D vwCl [(d_a, .inr (1, [.ref d_places_a, .ref d_froms_a, .ref d_tos_a, .ref d_widths_a, .int d_ribbons, .int d_trimmed])), (d_places_a, .inl (T.1, (16, .inl d_places))), (d_froms_a, .inl (T.1, (20, .inl d_froms))), (d_tos_a, .inl (T.1, (20, .inl d_tos))), (d_widths_a, .inl (T.1, (20, .inl d_widths)))] s.heap) (hK5 : ∀ x3 : Int32, ∀ x4 : Int32, K5 x3 x4 = some res → ∀ ls : Array Slot, lv_has ls 7 [(0, .ref d_a), (1, .int x1), (2, .int x2), (3, .int x3), (4, .int x4)] → W p l e rmX1_widestAt s m args below meth c s.heap [] 0 0 (MQ below (Qp (some (.int res))) args s 0 0 (fun _ => False)) (F0 m 5 ls [])) : ∀ s0 : Int32, ∀ x3 : Int32, ∀ x4 : Int32, ∀ x5 : Int32, f_X1_widestAt_b59 d_froms d_tos d_widths d_ribbons x1 x2 K5 s0 x3 x4 x5 = some res → ∀ ls : Array Slot, lv_has ls 7 [(0, .ref d_a), (1, .int x1), (2, .int x2), (3, .int x3), (4, .int x4), (5, .int x5)] → W p l e rmX1_widestAt s m args below meth c s.heap [] 0 0 (MQ below (Qp (some (.int res))) args s 0 0 (fun _ => False)) (F0 m 59 ls [.int s0]) := by
  obtain ⟨hx, hb, hml, hown, hts, hr, hlocks, hK, hN⟩ := id C
  intro s0 x3 x4 x5 hf ls hl
  unfold f_X1_widestAt_b59 at hf
  refine lv_istore (lv' := [(6, .int s0), (0, .ref d_a), (1, .int x1), (2, .int x2), (3, .int x3), (4, .int x4), (5, .int x5)]) hx hb dX1_widestAt_59 hl (by decide) rfl (fun ls hl => ?_)
  refine lv_iload hx hb dX1_widestAt_61 (lv_at hl 6 rfl) ?_
  refine lv_iload_n hx hb dX1_widestAt_63 rfl (lv_at hl 2 rfl) ?_
  refine lv_icmp_ne (tgt := 84) hx hb dX1_widestAt_64 (by decide) (fun c_64 => ?_) (fun c_64 => ?_)
  · have hf := it_neg c_64 hf
    exact w_X1_widestAt_b84 C hP hK5 _ _ hf _ (lv_sub hl [1, 2, 3, 4, 5] rfl)
  · have hf := it_pos c_64 hf
    refine lv_iload hx hb dX1_widestAt_67 (lv_at hl 0 rfl) ?_
    refine lv_if_eq (tgt := 84) hx hb dX1_widestAt_69 (by decide) (fun c_69 => ?_) (fun c_69 => ?_)
    · have hf := it_pos c_69 hf
      exact w_X1_widestAt_b84 C hP hK5 _ _ hf _ (lv_sub hl [1, 2, 3, 4, 5] rfl)
    · have hf := it_neg c_69 hf
      refine lv_aload_n hx hb dX1_widestAt_72 rfl (lv_at hl 1 rfl) ?_
      refine lv_iload hx hb dX1_widestAt_73 (lv_at hl 5 rfl) ?_
      obtain ⟨q75, e_75, hf⟩ := bd_some hf
      refine callPi (va_runV (As := [.int x4]) (rest := []) ⟨hx, hb, hml, hown, hts⟩ (c_X1_goesOn l D T d_a d_places_a d_froms_a d_tos_a d_widths_a d_places d_froms d_tos d_widths d_ribbons d_trimmed x4 q75 e_75) (cwV 1 hts gX1_widestAt_X1_goesOn rfl rfl rfl hdV_X1_goesOn ⟨Nat.le_of_ble_eq_true rfl, Nat.le_of_ble_eq_true rfl⟩) (preBV hP hK hN rfl 0 rfl) rfl rfl hl.1 rfl (lv_room (Nat.le_of_ble_eq_true rfl)) dX1_widestAt_75 ⟨Nat.le_of_ble_eq_true rfl, Nat.le_of_ble_eq_true rfl⟩) ?_
      refine lv_if_eq (tgt := 84) hx hb dX1_widestAt_78 (by decide) (fun c_78 => ?_) (fun c_78 => ?_)
      · have hf := it_pos c_78 hf
        exact w_X1_widestAt_b84 C hP hK5 _ _ hf _ (lv_sub hl [1, 2, 3, 4, 5] rfl)
      · have hf := it_neg c_78 hf
        refine lv_iload hx hb dX1_widestAt_81 (lv_at hl 5 rfl) ?_
        refine lv_istore_n (lv' := [(3, .int x4), (6, .int s0), (0, .ref d_a), (1, .int x1), (2, .int x2), (4, .int x4), (5, .int x5)]) hx hb dX1_widestAt_83 rfl hl (by decide) rfl (fun ls hl => ?_)
        exact w_X1_widestAt_b84 C hP hK5 _ _ hf _ (lv_sub hl [2, 3, 4, 0, 5] rfl)
set_option maxHeartbeats 4000000 in
set_option maxRecDepth 100000 in
theorem w_X1_widestAt_b54 {p : Program} {l : Launch} {e : Env} {s : State} {m : MethodId} {args : Array Value} {below : List Frame} {meth : Method} {c : Code} {D : va_G} {T : TY} {d_a d_places_a d_froms_a d_tos_a d_widths_a : Nat} {d_places : Nat → Int32} {d_froms : Nat → Int32} {d_tos : Nat → Int32} {d_widths : Nat → Int32} {d_ribbons : Int32} {d_trimmed : Int32} {x1 : Int32} {x2 : Int32} {res : Int32} {K5 : Int32 → Int32 → Option (Int32)} (C : CX p s m args meth c cX1_widestAt 7 RX1 wsX1_widestAt (some .int) D T) (hP : va_P D vwCl [(d_a, .inr (1, [.ref d_places_a, .ref d_froms_a, .ref d_tos_a, .ref d_widths_a, .int d_ribbons, .int d_trimmed])), (d_places_a, .inl (T.1, (16, .inl d_places))), (d_froms_a, .inl (T.1, (20, .inl d_froms))), (d_tos_a, .inl (T.1, (20, .inl d_tos))), (d_widths_a, .inl (T.1, (20, .inl d_widths)))] s.heap) (hK5 : ∀ x3 : Int32, ∀ x4 : Int32, K5 x3 x4 = some res → ∀ ls : Array Slot, lv_has ls 7 [(0, .ref d_a), (1, .int x1), (2, .int x2), (3, .int x3), (4, .int x4)] → W p l e rmX1_widestAt s m args below meth c s.heap [] 0 0 (MQ below (Qp (some (.int res))) args s 0 0 (fun _ => False)) (F0 m 5 ls [])) : ∀ x3 : Int32, ∀ x4 : Int32, ∀ x5 : Int32, f_X1_widestAt_b54 d_froms d_tos d_widths d_ribbons x1 x2 K5 x3 x4 x5 = some res → ∀ ls : Array Slot, lv_has ls 7 [(0, .ref d_a), (1, .int x1), (2, .int x2), (3, .int x3), (4, .int x4), (5, .int x5)] → W p l e rmX1_widestAt s m args below meth c s.heap [] 0 0 (MQ below (Qp (some (.int res))) args s 0 0 (fun _ => False)) (F0 m 54 ls []) := by
  obtain ⟨hx, hb, hml, hown, hts, hr, hlocks, hK, hN⟩ := id C
  intro x3 x4 x5 hf ls hl
  unfold f_X1_widestAt_b54 at hf
  refine lv_iconst (v := (1 : Int32)) hx hb dX1_widestAt_54 (by decide) ?_
  refine lv_goto (tgt := 59) hx hb dX1_widestAt_55 (by decide) ?_
  exact w_X1_widestAt_b59 C hP hK5 _ _ _ _ hf _ (lv_sub hl [0, 1, 2, 3, 4, 5] rfl)
set_option maxHeartbeats 4000000 in
set_option maxRecDepth 100000 in
theorem w_X1_widestAt_b33 {p : Program} {l : Launch} {e : Env} {s : State} {m : MethodId} {args : Array Value} {below : List Frame} {meth : Method} {c : Code} {D : va_G} {T : TY} {d_a d_places_a d_froms_a d_tos_a d_widths_a : Nat} {d_places : Nat → Int32} {d_froms : Nat → Int32} {d_tos : Nat → Int32} {d_widths : Nat → Int32} {d_ribbons : Int32} {d_trimmed : Int32} {x1 : Int32} {x2 : Int32} {res : Int32} {K5 : Int32 → Int32 → Option (Int32)} (C : CX p s m args meth c cX1_widestAt 7 RX1 wsX1_widestAt (some .int) D T) (hP : va_P D vwCl [(d_a, .inr (1, [.ref d_places_a, .ref d_froms_a, .ref d_tos_a, .ref d_widths_a, .int d_ribbons, .int d_trimmed])), (d_places_a, .inl (T.1, (16, .inl d_places))), (d_froms_a, .inl (T.1, (20, .inl d_froms))), (d_tos_a, .inl (T.1, (20, .inl d_tos))), (d_widths_a, .inl (T.1, (20, .inl d_widths)))] s.heap) (hK5 : ∀ x3 : Int32, ∀ x4 : Int32, K5 x3 x4 = some res → ∀ ls : Array Slot, lv_has ls 7 [(0, .ref d_a), (1, .int x1), (2, .int x2), (3, .int x3), (4, .int x4)] → W p l e rmX1_widestAt s m args below meth c s.heap [] 0 0 (MQ below (Qp (some (.int res))) args s 0 0 (fun _ => False)) (F0 m 5 ls [])) : ∀ s0 : Int32, ∀ x3 : Int32, ∀ x4 : Int32, f_X1_widestAt_b33 d_froms d_tos d_widths d_ribbons x1 x2 K5 s0 x3 x4 = some res → ∀ ls : Array Slot, lv_has ls 7 [(0, .ref d_a), (1, .int x1), (2, .int x2), (3, .int x3), (4, .int x4)] → W p l e rmX1_widestAt s m args below meth c s.heap [] 0 0 (MQ below (Qp (some (.int res))) args s 0 0 (fun _ => False)) (F0 m 33 ls [.int s0]) := by
  obtain ⟨hx, hb, hml, hown, hts, hr, hlocks, hK, hN⟩ := id C
  intro s0 x3 x4 hf ls hl
  unfold f_X1_widestAt_b33 at hf
  refine lv_istore (lv' := [(5, .int s0), (0, .ref d_a), (1, .int x1), (2, .int x2), (3, .int x3), (4, .int x4)]) hx hb dX1_widestAt_33 hl (by decide) rfl (fun ls hl => ?_)
  refine lv_iload_n hx hb dX1_widestAt_35 rfl (lv_at hl 4 rfl) ?_
  refine lv_iconst (v := (-1 : Int32)) hx hb dX1_widestAt_36 (by decide) ?_
  refine lv_icmp_eq (tgt := 54) hx hb dX1_widestAt_37 (by decide) (fun c_37 => ?_) (fun c_37 => ?_)
  · have hf := it_pos c_37 hf
    exact w_X1_widestAt_b54 C hP hK5 _ _ _ hf _ (lv_sub hl [1, 2, 3, 4, 5, 0] rfl)
  · have hf := it_neg c_37 hf
    refine lv_aload_n hx hb dX1_widestAt_40 rfl (lv_at hl 1 rfl) ?_
    refine lv_iload hx hb dX1_widestAt_41 (lv_at hl 5 rfl) ?_
    obtain ⟨q43, e_43, hf⟩ := bd_some hf
    refine callPi (va_runV (As := [.int x4]) (rest := []) ⟨hx, hb, hml, hown, hts⟩ (c_X1_widthOf l D T d_a d_places_a d_froms_a d_tos_a d_widths_a d_places d_froms d_tos d_widths d_ribbons d_trimmed x4 q43 e_43) (cwV 1 hts gX1_widestAt_X1_widthOf rfl rfl rfl hdV_X1_widthOf ⟨Nat.le_of_ble_eq_true rfl, Nat.le_of_ble_eq_true rfl⟩) (preBV hP hK hN rfl 0 rfl) rfl rfl hl.1 rfl (lv_room (Nat.le_of_ble_eq_true rfl)) dX1_widestAt_43 ⟨Nat.le_of_ble_eq_true rfl, Nat.le_of_ble_eq_true rfl⟩) ?_
    refine lv_aload_n hx hb dX1_widestAt_46 rfl (lv_at hl 1 rfl) ?_
    refine lv_iload_n hx hb dX1_widestAt_47 rfl (lv_at hl 4 rfl) ?_
    obtain ⟨q48, e_48, hf⟩ := bd_some hf
    refine callPi (va_runV (As := [.int x3]) (rest := [.int q43]) ⟨hx, hb, hml, hown, hts⟩ (c_X1_widthOf l D T d_a d_places_a d_froms_a d_tos_a d_widths_a d_places d_froms d_tos d_widths d_ribbons d_trimmed x3 q48 e_48) (cwV 1 hts gX1_widestAt_X1_widthOf rfl rfl rfl hdV_X1_widthOf ⟨Nat.le_of_ble_eq_true rfl, Nat.le_of_ble_eq_true rfl⟩) (preBV hP hK hN rfl 0 rfl) rfl rfl hl.1 rfl (lv_room (Nat.le_of_ble_eq_true rfl)) dX1_widestAt_48 ⟨Nat.le_of_ble_eq_true rfl, Nat.le_of_ble_eq_true rfl⟩) ?_
    refine lv_icmp_le (tgt := 58) hx hb dX1_widestAt_51 (by decide) (fun c_51 => ?_) (fun c_51 => ?_)
    · have hf := it_pos c_51 hf
      refine lv_iconst (v := (0 : Int32)) hx hb dX1_widestAt_58 (by decide) ?_
      exact w_X1_widestAt_b59 C hP hK5 _ _ _ _ hf _ (lv_sub hl [1, 2, 3, 4, 5, 0] rfl)
    · have hf := it_neg c_51 hf
      exact w_X1_widestAt_b54 C hP hK5 _ _ _ hf _ (lv_sub hl [1, 2, 3, 4, 5, 0] rfl)
set_option maxHeartbeats 4000000 in
set_option maxRecDepth 100000 in
theorem w_X1_widestAt_b5 {p : Program} {l : Launch} {e : Env} {s : State} {m : MethodId} {args : Array Value} {below : List Frame} {meth : Method} {c : Code} {D : va_G} {T : TY} {d_a d_places_a d_froms_a d_tos_a d_widths_a : Nat} {d_places : Nat → Int32} {d_froms : Nat → Int32} {d_tos : Nat → Int32} {d_widths : Nat → Int32} {d_ribbons : Int32} {d_trimmed : Int32} {x1 : Int32} {x2 : Int32} {res : Int32} (C : CX p s m args meth c cX1_widestAt 7 RX1 wsX1_widestAt (some .int) D T) (hP : va_P D vwCl [(d_a, .inr (1, [.ref d_places_a, .ref d_froms_a, .ref d_tos_a, .ref d_widths_a, .int d_ribbons, .int d_trimmed])), (d_places_a, .inl (T.1, (16, .inl d_places))), (d_froms_a, .inl (T.1, (20, .inl d_froms))), (d_tos_a, .inl (T.1, (20, .inl d_tos))), (d_widths_a, .inl (T.1, (20, .inl d_widths)))] s.heap) : ∀ F : Nat, ∀ x3 : Int32, ∀ x4 : Int32, f_X1_widestAt_b5 d_froms d_tos d_widths d_ribbons x1 x2 F x3 x4 = some res → ∀ ls : Array Slot, lv_has ls 7 [(0, .ref d_a), (1, .int x1), (2, .int x2), (3, .int x3), (4, .int x4)] → W p l e rmX1_widestAt s m args below meth c s.heap [] 0 0 (MQ below (Qp (some (.int res))) args s 0 0 (fun _ => False)) (F0 m 5 ls []) := by
  obtain ⟨hx, hb, hml, hown, hts, hr, hlocks, hK, hN⟩ := id C
  intro F
  induction F with
  | zero => intro _ _ hf; cases hf
  | succ F ih =>
    intro x3 x4 hf ls hl
    unfold f_X1_widestAt_b5 at hf
    refine lv_iload hx hb dX1_widestAt_5 (lv_at hl 4 rfl) ?_
    refine lv_aload_n hx hb dX1_widestAt_7 rfl (lv_at hl 0 rfl) ?_
    refine va_get (D := D) (ci := 1) (v := .int d_ribbons) (C := RX1) (T := TX1) (N := 6) hx hb hts iw_X1_widestAt_X1 hown hK hP 0 rfl rfl 4 (by decide) (hts (.fieldLink RX1 30 "RibbonPosts$Drawing" "ribbons" "I") mw_X1_widestAt_0) (fun _ h9 => h9) rfl dX1_widestAt_8 ?_
    refine lv_icmp_ge (tgt := 90) hx hb dX1_widestAt_11 (by decide) (fun c_11 => ?_) (fun c_11 => ?_)
    · have hf := it_pos c_11 hf
      refine lv_iload_n hx hb dX1_widestAt_90 rfl (lv_at hl 3 rfl) ?_
      obtain rfl := Option.some.inj hf
      exact W.iret hx hb hr (fun t ht hW => ⟨rfl, ht⟩) (fun q hq => absurd hq List.not_mem_nil) dX1_widestAt_91 hlocks
    · have hf := it_neg c_11 hf
      refine lv_iload_n hx hb dX1_widestAt_14 rfl (lv_at hl 2 rfl) ?_
      refine lv_if_eq (tgt := 27) hx hb dX1_widestAt_15 (by decide) (fun c_15 => ?_) (fun c_15 => ?_)
      · have hf := it_pos c_15 hf
        refine lv_aload_n hx hb dX1_widestAt_27 rfl (lv_at hl 0 rfl) ?_
        refine lv_iload hx hb dX1_widestAt_28 (lv_at hl 4 rfl) ?_
        obtain ⟨q30, e_30, hf⟩ := bd_some hf
        refine callPi (va_runV (As := [.int x4]) (rest := []) ⟨hx, hb, hml, hown, hts⟩ (c_X1_fromOf l D T d_a d_places_a d_froms_a d_tos_a d_widths_a d_places d_froms d_tos d_widths d_ribbons d_trimmed x4 q30 e_30) (cwV 1 hts gX1_widestAt_X1_fromOf rfl rfl rfl hdV_X1_fromOf ⟨Nat.le_of_ble_eq_true rfl, Nat.le_of_ble_eq_true rfl⟩) (preBV hP hK hN rfl 0 rfl) rfl rfl hl.1 rfl (lv_room (Nat.le_of_ble_eq_true rfl)) dX1_widestAt_30 ⟨Nat.le_of_ble_eq_true rfl, Nat.le_of_ble_eq_true rfl⟩) ?_
        exact w_X1_widestAt_b33 C hP (fun v0 v1 hf ls hl => ih v0 v1 hf ls hl) _ _ _ hf _ (lv_sub hl [0, 1, 2, 3, 4] rfl)
      · have hf := it_neg c_15 hf
        refine lv_aload_n hx hb dX1_widestAt_18 rfl (lv_at hl 0 rfl) ?_
        refine lv_iload hx hb dX1_widestAt_19 (lv_at hl 4 rfl) ?_
        obtain ⟨q21, e_21, hf⟩ := bd_some hf
        refine callPi (va_runV (As := [.int x4]) (rest := []) ⟨hx, hb, hml, hown, hts⟩ (c_X1_toOf l D T d_a d_places_a d_froms_a d_tos_a d_widths_a d_places d_froms d_tos d_widths d_ribbons d_trimmed x4 q21 e_21) (cwV 1 hts gX1_widestAt_X1_toOf rfl rfl rfl hdV_X1_toOf ⟨Nat.le_of_ble_eq_true rfl, Nat.le_of_ble_eq_true rfl⟩) (preBV hP hK hN rfl 0 rfl) rfl rfl hl.1 rfl (lv_room (Nat.le_of_ble_eq_true rfl)) dX1_widestAt_21 ⟨Nat.le_of_ble_eq_true rfl, Nat.le_of_ble_eq_true rfl⟩) ?_
        refine lv_goto (tgt := 33) hx hb dX1_widestAt_24 (by decide) ?_
        exact w_X1_widestAt_b33 C hP (fun v0 v1 hf ls hl => ih v0 v1 hf ls hl) _ _ _ hf _ (lv_sub hl [0, 1, 2, 3, 4] rfl)
set_option maxHeartbeats 4000000 in
set_option maxRecDepth 100000 in
theorem w_X1_widestAt_b0 {p : Program} {l : Launch} {e : Env} {s : State} {m : MethodId} {args : Array Value} {below : List Frame} {meth : Method} {c : Code} {D : va_G} {T : TY} {d_a d_places_a d_froms_a d_tos_a d_widths_a : Nat} {d_places : Nat → Int32} {d_froms : Nat → Int32} {d_tos : Nat → Int32} {d_widths : Nat → Int32} {d_ribbons : Int32} {d_trimmed : Int32} {x1 : Int32} {x2 : Int32} {res : Int32} (C : CX p s m args meth c cX1_widestAt 7 RX1 wsX1_widestAt (some .int) D T) (hP : va_P D vwCl [(d_a, .inr (1, [.ref d_places_a, .ref d_froms_a, .ref d_tos_a, .ref d_widths_a, .int d_ribbons, .int d_trimmed])), (d_places_a, .inl (T.1, (16, .inl d_places))), (d_froms_a, .inl (T.1, (20, .inl d_froms))), (d_tos_a, .inl (T.1, (20, .inl d_tos))), (d_widths_a, .inl (T.1, (20, .inl d_widths)))] s.heap) : f_X1_widestAt d_froms d_tos d_widths d_ribbons x1 x2 = some res → ∀ ls : Array Slot, lv_has ls 7 [(0, .ref d_a), (1, .int x1), (2, .int x2)] → W p l e rmX1_widestAt s m args below meth c s.heap [] 0 0 (MQ below (Qp (some (.int res))) args s 0 0 (fun _ => False)) (F0 m 0 ls []) := by
  obtain ⟨hx, hb, hml, hown, hts, hr, hlocks, hK, hN⟩ := id C
  intro  hf ls hl
  unfold f_X1_widestAt at hf
  refine lv_iconst (v := (-1 : Int32)) hx hb dX1_widestAt_0 (by decide) ?_
  refine lv_istore_n (lv' := [(3, .int (-1 : Int32)), (0, .ref d_a), (1, .int x1), (2, .int x2)]) hx hb dX1_widestAt_1 rfl hl (by decide) rfl (fun ls hl => ?_)
  refine lv_iconst (v := (0 : Int32)) hx hb dX1_widestAt_2 (by decide) ?_
  refine lv_istore (lv' := [(4, .int (0 : Int32)), (3, .int (-1 : Int32)), (0, .ref d_a), (1, .int x1), (2, .int x2)]) hx hb dX1_widestAt_3 hl (by decide) rfl (fun ls hl => ?_)
  exact w_X1_widestAt_b5 C hP _ _ _ hf _ (lv_sub hl [2, 3, 4, 1, 0] rfl)
theorem c_X1_widestAt (l : Launch) (D : va_G) (T : TY) (d_a d_places_a d_froms_a d_tos_a d_widths_a : Nat) (d_places : Nat → Int32) (d_froms : Nat → Int32) (d_tos : Nat → Int32) (d_widths : Nat → Int32) (d_ribbons : Int32) (d_trimmed : Int32) (x1 : Int32) (x2 : Int32) (res : Int32) (hf : f_X1_widestAt d_froms d_tos d_widths d_ribbons x1 x2 = some res) : Met l yX1_widestAt wsX1_widestAt rmX1_widestAt (va_Pc [.ref d_a, .int x1, .int x2] (PB D T [(d_a, .inr (1, [.ref d_places_a, .ref d_froms_a, .ref d_tos_a, .ref d_widths_a, .int d_ribbons, .int d_trimmed])), (d_places_a, .inl (T.1, (16, .inl d_places))), (d_froms_a, .inl (T.1, (20, .inl d_froms))), (d_tos_a, .inl (T.1, (20, .inl d_tos))), (d_widths_a, .inl (T.1, (20, .inl d_widths)))])) (Qp (some (.int res))) 0 0 (fun _ => False) :=
  metP_of (by decide +kernel) rfl (Nat.le_of_ble_eq_true rfl) (fun p e s m args below meth c C hP ls hl => w_X1_widestAt_b0 C hP hf ls hl)
def rmX1_trimPost : Room := { frames := 3, cells := 0, slots := 0, locals := 65 }
theorem hdV_X1_trimPost : yX1_trimPost.cls = RX1 ∧ yX1_trimPost.cls ≠ "java/lang/invoke/MethodHandle" ∧ yX1_trimPost.cls ≠ "java/lang/invoke/VarHandle" ∧ (parseMethodDescriptor yX1_trimPost.desc).map (fun d => d.parameters.length) = some 1 := by decide +kernel
theorem iw_X1_trimPost_X1 : ∀ w ∈ wsX10, w ∈ wsX1_trimPost := by decide +kernel
theorem mw_X1_trimPost_0 : Cond.methodLink RX1 93 Lib.Math.abs.name ∈ wsX1_trimPost := by decide +kernel
theorem mw_X1_trimPost_1 : Cond.static Lib.Math.abs.name ∈ wsX1_trimPost := by decide +kernel
theorem mw_X1_trimPost_2 : Cond.initialized "java/lang/Math" ∈ wsX1_trimPost := by decide +kernel
theorem mw_X1_trimPost_3 : Cond.code Lib.Math.abs.name Lib.Math.abs.code 1 (some .int) ∈ wsX1_trimPost := by decide +kernel
theorem mw_X1_trimPost_4 : Cond.fieldLink RX1 34 "RibbonPosts$Drawing" "trimmed" "I" ∈ wsX1_trimPost := by decide +kernel
set_option maxHeartbeats 4000000 in
set_option maxRecDepth 100000 in
theorem w_X1_trimPost_b31 {p : Program} {l : Launch} {e : Env} {s : State} {m : MethodId} {args : Array Value} {below : List Frame} {meth : Method} {c : Code} {D : va_G} {T : TY} {d_a d_places_a d_froms_a d_tos_a d_widths_a : Nat} {d_places : Nat → Int32} {d_froms : Nat → Int32} {d_tos : Nat → Int32} {d_ribbons : Int32} {x1 : Int32} {res : Int32 × (Nat → Int32) × Int32} {K14 : Int32 → Int32 → Int32 → (Nat → Int32) → Int32 → Option (Int32 × (Nat → Int32) × Int32)} {A : Nat → Prop} (C : CX p s m args meth c cX1_trimPost 6 RX1 wsX1_trimPost (some .int) D T) (hA : ∀ q, s.heap.size ≤ q → A q) (hK14 : ∀ x2 : Int32, ∀ x3 : Int32, ∀ x4 : Int32, ∀ d_widths : Nat → Int32, ∀ d_trimmed : Int32, K14 x2 x3 x4 d_widths d_trimmed = some res → ∀ (H : Heap) (locs : List Loc), va_P D vwCl [(d_a, .inr (1, [.ref d_places_a, .ref d_froms_a, .ref d_tos_a, .ref d_widths_a, .int d_ribbons, .int d_trimmed])), (d_places_a, .inl (T.1, (16, .inl d_places))), (d_froms_a, .inl (T.1, (20, .inl d_froms))), (d_tos_a, .inl (T.1, (20, .inl d_tos))), (d_widths_a, .inl (T.1, (20, .inl d_widths)))] H → va_D A [(d_a, .inr (1, [.ref d_places_a, .ref d_froms_a, .ref d_tos_a, .ref d_widths_a, .int d_ribbons, .int d_trimmed])), (d_places_a, .inl (T.1, (16, .inl d_places))), (d_froms_a, .inl (T.1, (20, .inl d_froms))), (d_tos_a, .inl (T.1, (20, .inl d_tos))), (d_widths_a, .inl (T.1, (20, .inl d_widths)))] → va_S A s.heap H locs → ∀ ls : Array Slot, lv_has ls 6 [(0, .ref d_a), (1, .int x1), (2, .int x2), (3, .int x3), (4, .int x4)] → W p l e rmX1_trimPost s m args below meth c H locs 0 0 (MQ below (Qm (some (.int res.1)) D (fun W9 => W9 = [(d_a, .inr (1, [.ref d_places_a, .ref d_froms_a, .ref d_tos_a, .ref d_widths_a, .int d_ribbons, .int res.2.2])), (d_places_a, .inl (T.1, (16, .inl d_places))), (d_froms_a, .inl (T.1, (20, .inl d_froms))), (d_tos_a, .inl (T.1, (20, .inl d_tos))), (d_widths_a, .inl (T.1, (20, .inl res.2.1)))]) A) args s 0 0 A) (F0 m 14 ls [])) : ∀ s0 : Int32, ∀ s1 : Int32, ∀ x2 : Int32, ∀ x3 : Int32, ∀ x4 : Int32, ∀ d_widths : Nat → Int32, ∀ d_trimmed : Int32, f_X1_trimPost_b31 d_froms d_tos d_ribbons x1 K14 s0 s1 x2 x3 x4 d_widths d_trimmed = some res → ∀ (H : Heap) (locs : List Loc), va_P D vwCl [(d_a, .inr (1, [.ref d_places_a, .ref d_froms_a, .ref d_tos_a, .ref d_widths_a, .int d_ribbons, .int d_trimmed])), (d_places_a, .inl (T.1, (16, .inl d_places))), (d_froms_a, .inl (T.1, (20, .inl d_froms))), (d_tos_a, .inl (T.1, (20, .inl d_tos))), (d_widths_a, .inl (T.1, (20, .inl d_widths)))] H → va_D A [(d_a, .inr (1, [.ref d_places_a, .ref d_froms_a, .ref d_tos_a, .ref d_widths_a, .int d_ribbons, .int d_trimmed])), (d_places_a, .inl (T.1, (16, .inl d_places))), (d_froms_a, .inl (T.1, (20, .inl d_froms))), (d_tos_a, .inl (T.1, (20, .inl d_tos))), (d_widths_a, .inl (T.1, (20, .inl d_widths)))] → va_S A s.heap H locs → ∀ ls : Array Slot, lv_has ls 6 [(0, .ref d_a), (1, .int x1), (2, .int x2), (3, .int x3), (4, .int x4)] → W p l e rmX1_trimPost s m args below meth c H locs 0 0 (MQ below (Qm (some (.int res.1)) D (fun W9 => W9 = [(d_a, .inr (1, [.ref d_places_a, .ref d_froms_a, .ref d_tos_a, .ref d_widths_a, .int d_ribbons, .int res.2.2])), (d_places_a, .inl (T.1, (16, .inl d_places))), (d_froms_a, .inl (T.1, (20, .inl d_froms))), (d_tos_a, .inl (T.1, (20, .inl d_tos))), (d_widths_a, .inl (T.1, (20, .inl res.2.1)))]) A) args s 0 0 A) (F0 m 31 ls [.int s0, .int s1, .ref d_a]) := by
  obtain ⟨hx, hb, hml, hown, hts, hr, hlocks, hK, hN⟩ := id C
  intro s0 s1 x2 x3 x4 d_widths d_trimmed hf H locs hP hD hS ls hl
  unfold f_X1_trimPost_b31 at hf
  obtain ⟨q31, e_31, hf⟩ := bd_some hf
  refine callPi (va_runV (As := [.int s1, .int s0]) (rest := []) ⟨hx, hb, hml, hown, hts⟩ (c_X1_widestAt l D T d_a d_places_a d_froms_a d_tos_a d_widths_a d_places d_froms d_tos d_widths d_ribbons d_trimmed s1 s0 q31 e_31) (cwV 2 hts gX1_trimPost_X1_widestAt rfl rfl rfl hdV_X1_widestAt ⟨Nat.le_of_ble_eq_true rfl, Nat.le_of_ble_eq_true rfl⟩) (preBV hP hK hN rfl 0 rfl) rfl rfl hl.1 rfl (lv_room (Nat.le_of_ble_eq_true rfl)) dX1_trimPost_31 ⟨Nat.le_of_ble_eq_true rfl, Nat.le_of_ble_eq_true rfl⟩) ?_
  refine lv_istore (lv' := [(5, .int q31), (0, .ref d_a), (1, .int x1), (2, .int x2), (3, .int x3), (4, .int x4)]) hx hb dX1_trimPost_34 hl (by decide) rfl (fun ls hl => ?_)
  refine lv_aload_n hx hb dX1_trimPost_36 rfl (lv_at hl 1 rfl) ?_
  refine lv_iload hx hb dX1_trimPost_37 (lv_at hl 0 rfl) ?_
  refine lv_aload_n hx hb dX1_trimPost_39 rfl (lv_at hl 1 rfl) ?_
  refine lv_iload hx hb dX1_trimPost_40 (lv_at hl 0 rfl) ?_
  obtain ⟨q42, e_42, hf⟩ := bd_some hf
  refine callPi (va_runV (As := [.int q31]) (rest := [.int q31, .ref d_a]) ⟨hx, hb, hml, hown, hts⟩ (c_X1_widthOf l D T d_a d_places_a d_froms_a d_tos_a d_widths_a d_places d_froms d_tos d_widths d_ribbons d_trimmed q31 q42 e_42) (cwV 1 hts gX1_trimPost_X1_widthOf rfl rfl rfl hdV_X1_widthOf ⟨Nat.le_of_ble_eq_true rfl, Nat.le_of_ble_eq_true rfl⟩) (preBV hP hK hN rfl 0 rfl) rfl rfl hl.1 rfl (lv_room (Nat.le_of_ble_eq_true rfl)) dX1_trimPost_42 ⟨Nat.le_of_ble_eq_true rfl, Nat.le_of_ble_eq_true rfl⟩) ?_
  refine lv_iconst (v := (1 : Int32)) hx hb dX1_trimPost_45 (by decide) ?_
  refine lv_isub hx hb dX1_trimPost_46 ?_
  obtain ⟨q47, e_47, hf⟩ := bd_some hf
  refine callMv (wr := []) (ws' := [(d_a, .inr (1, [.ref d_places_a, .ref d_froms_a, .ref d_tos_a, .ref d_widths_a, .int d_ribbons, .int d_trimmed])), (d_places_a, .inl (T.1, (16, .inl d_places))), (d_froms_a, .inl (T.1, (20, .inl d_froms))), (d_tos_a, .inl (T.1, (20, .inl d_tos))), (d_widths_a, .inl (T.1, (20, .inl q47)))]) (va_runV (As := [.int q31, .int (q42 - (1 : Int32))]) (rest := []) ⟨hx, hb, hml, hown, hts⟩ (c_X1_setWidth l D T d_a d_places_a d_froms_a d_tos_a d_widths_a d_places d_froms d_tos d_widths d_ribbons d_trimmed q31 (q42 - (1 : Int32)) q47 e_47 H.size) (cwV 2 hts gX1_trimPost_X1_setWidth rfl rfl rfl hdV_X1_setWidth ⟨Nat.le_of_ble_eq_true rfl, Nat.le_of_ble_eq_true rfl⟩) (preMV hP hD hK hN rfl 0 rfl) rfl rfl hl.1 rfl (lv_room (Nat.le_of_ble_eq_true rfl)) dX1_trimPost_47 ⟨Nat.le_of_ble_eq_true rfl, Nat.le_of_ble_eq_true rfl⟩) hP hD hS hA [0, 1, 2, 3, 4] [] [0, 1, 2, 3, 4] rfl rfl rfl rfl rfl rfl (fun H locs hP hD hS => ?_)
  obtain ⟨v50, e_50, hf⟩ := nm_some hf
  refine lv_iinc (v := v50) (lv' := [(4, .int v50), (5, .int q31), (0, .ref d_a), (1, .int x1), (2, .int x2), (3, .int x3)]) hx hb dX1_trimPost_50 hl (k := 5) rfl (by rw [e_50]; rfl) (by decide) rfl (fun ls hl => ?_)
  refine lv_goto (tgt := 14) hx hb dX1_trimPost_53 (by decide) ?_
  exact hK14 _ _ _ _ _ hf _ _ hP hD hS _ (lv_sub hl [2, 3, 4, 5, 0] rfl)
set_option maxHeartbeats 4000000 in
set_option maxRecDepth 100000 in
theorem w_X1_trimPost_b14 {p : Program} {l : Launch} {e : Env} {s : State} {m : MethodId} {args : Array Value} {below : List Frame} {meth : Method} {c : Code} {D : va_G} {T : TY} {d_a d_places_a d_froms_a d_tos_a d_widths_a : Nat} {d_places : Nat → Int32} {d_froms : Nat → Int32} {d_tos : Nat → Int32} {d_ribbons : Int32} {x1 : Int32} {res : Int32 × (Nat → Int32) × Int32} {A : Nat → Prop} (C : CX p s m args meth c cX1_trimPost 6 RX1 wsX1_trimPost (some .int) D T) (hA : ∀ q, s.heap.size ≤ q → A q) : ∀ F : Nat, ∀ x2 : Int32, ∀ x3 : Int32, ∀ x4 : Int32, ∀ d_widths : Nat → Int32, ∀ d_trimmed : Int32, f_X1_trimPost_b14 d_froms d_tos d_ribbons x1 F x2 x3 x4 d_widths d_trimmed = some res → ∀ (H : Heap) (locs : List Loc), va_P D vwCl [(d_a, .inr (1, [.ref d_places_a, .ref d_froms_a, .ref d_tos_a, .ref d_widths_a, .int d_ribbons, .int d_trimmed])), (d_places_a, .inl (T.1, (16, .inl d_places))), (d_froms_a, .inl (T.1, (20, .inl d_froms))), (d_tos_a, .inl (T.1, (20, .inl d_tos))), (d_widths_a, .inl (T.1, (20, .inl d_widths)))] H → va_D A [(d_a, .inr (1, [.ref d_places_a, .ref d_froms_a, .ref d_tos_a, .ref d_widths_a, .int d_ribbons, .int d_trimmed])), (d_places_a, .inl (T.1, (16, .inl d_places))), (d_froms_a, .inl (T.1, (20, .inl d_froms))), (d_tos_a, .inl (T.1, (20, .inl d_tos))), (d_widths_a, .inl (T.1, (20, .inl d_widths)))] → va_S A s.heap H locs → ∀ ls : Array Slot, lv_has ls 6 [(0, .ref d_a), (1, .int x1), (2, .int x2), (3, .int x3), (4, .int x4)] → W p l e rmX1_trimPost s m args below meth c H locs 0 0 (MQ below (Qm (some (.int res.1)) D (fun W9 => W9 = [(d_a, .inr (1, [.ref d_places_a, .ref d_froms_a, .ref d_tos_a, .ref d_widths_a, .int d_ribbons, .int res.2.2])), (d_places_a, .inl (T.1, (16, .inl d_places))), (d_froms_a, .inl (T.1, (20, .inl d_froms))), (d_tos_a, .inl (T.1, (20, .inl d_tos))), (d_widths_a, .inl (T.1, (20, .inl res.2.1)))]) A) args s 0 0 A) (F0 m 14 ls []) := by
  obtain ⟨hx, hb, hml, hown, hts, hr, hlocks, hK, hN⟩ := id C
  intro F
  induction F with
  | zero => intro _ _ _ _ _ hf; cases hf
  | succ F ih =>
    intro x2 x3 x4 d_widths d_trimmed hf H locs hP hD hS ls hl
    unfold f_X1_trimPost_b14 at hf
    refine lv_iload hx hb dX1_trimPost_14 (lv_at hl 4 rfl) ?_
    refine lv_iload_n hx hb dX1_trimPost_16 rfl (lv_at hl 3 rfl) ?_
    refine lv_icmp_ge (tgt := 56) hx hb dX1_trimPost_17 (by decide) (fun c_17 => ?_) (fun c_17 => ?_)
    · have hf := it_pos c_17 hf
      refine lv_aload_n hx hb dX1_trimPost_56 rfl (lv_at hl 0 rfl) ?_
      refine lv_dup hx hb dX1_trimPost_57 rfl ?_
      refine va_get (D := D) (ci := 1) (v := .int d_trimmed) (C := RX1) (T := TX1) (N := 6) hx hb hts iw_X1_trimPost_X1 hown hK hP 0 rfl rfl 5 (by decide) (hts (.fieldLink RX1 34 "RibbonPosts$Drawing" "trimmed" "I") mw_X1_trimPost_4) (fun _ h9 => h9) rfl dX1_trimPost_58 ?_
      refine lv_iload_n hx hb dX1_trimPost_61 rfl (lv_at hl 3 rfl) ?_
      refine lv_iadd hx hb dX1_trimPost_62 ?_
      obtain ⟨v63, e_63, hf⟩ := nm_some hf
      refine lv_nmi e_63 ?_
      refine va_put (D := D) (ci := 1) (v := .int v63) (ty := .int) (C := RX1) (T := TX1) (N := 6) hx hb hts iw_X1_trimPost_X1 tyX1 tyX1_ok nmX1 hown hK hP hD hS 0 rfl rfl 5 (by decide) (hts (.fieldLink RX1 34 "RibbonPosts$Drawing" "trimmed" "I") mw_X1_trimPost_4) (fun _ h9 => h9) rfl (by decide +kernel) rfl rfl (Nat.le_of_ble_eq_true rfl) dX1_trimPost_63 (fun H locs hP hD hS => ?_)
      have hP : va_P D vwCl [(d_a, .inr (1, [.ref d_places_a, .ref d_froms_a, .ref d_tos_a, .ref d_widths_a, .int d_ribbons, .int v63])), (d_places_a, .inl (T.1, (16, .inl d_places))), (d_froms_a, .inl (T.1, (20, .inl d_froms))), (d_tos_a, .inl (T.1, (20, .inl d_tos))), (d_widths_a, .inl (T.1, (20, .inl d_widths)))] H := hP
      have hD : va_D A [(d_a, .inr (1, [.ref d_places_a, .ref d_froms_a, .ref d_tos_a, .ref d_widths_a, .int d_ribbons, .int v63])), (d_places_a, .inl (T.1, (16, .inl d_places))), (d_froms_a, .inl (T.1, (20, .inl d_froms))), (d_tos_a, .inl (T.1, (20, .inl d_tos))), (d_widths_a, .inl (T.1, (20, .inl d_widths)))] := hD
      refine lv_iload_n hx hb dX1_trimPost_66 rfl (lv_at hl 3 rfl) ?_
      obtain rfl := Option.some.inj hf
      exact W.iret hx hb hr (fun t ht hW => ⟨rfl, ⟨_, rfl, by rw [ht]; exact hP, hD⟩, hS.F ht⟩) hS.2.2 dX1_trimPost_67 hlocks
    · have hf := it_neg c_17 hf
      refine lv_aload_n hx hb dX1_trimPost_20 rfl (lv_at hl 0 rfl) ?_
      refine lv_iload_n hx hb dX1_trimPost_21 rfl (lv_at hl 1 rfl) ?_
      refine lv_iload_n hx hb dX1_trimPost_22 rfl (lv_at hl 2 rfl) ?_
      refine lv_if_le (tgt := 30) hx hb dX1_trimPost_23 (by decide) (fun c_23 => ?_) (fun c_23 => ?_)
      · have hf := it_pos c_23 hf
        refine lv_iconst (v := (0 : Int32)) hx hb dX1_trimPost_30 (by decide) ?_
        exact w_X1_trimPost_b31 C hA (fun v0 v1 v2 v3 v4 hf H1 l1 p1 d1 s1 ls hl => ih v0 v1 v2 v3 v4 hf H1 l1 p1 d1 s1 ls hl) _ _ _ _ _ _ _ hf _ _ hP hD hS _ (lv_sub hl [0, 1, 2, 3, 4] rfl)
      · have hf := it_neg c_23 hf
        refine lv_iconst (v := (1 : Int32)) hx hb dX1_trimPost_26 (by decide) ?_
        refine lv_goto (tgt := 31) hx hb dX1_trimPost_27 (by decide) ?_
        exact w_X1_trimPost_b31 C hA (fun v0 v1 v2 v3 v4 hf H1 l1 p1 d1 s1 ls hl => ih v0 v1 v2 v3 v4 hf H1 l1 p1 d1 s1 ls hl) _ _ _ _ _ _ _ hf _ _ hP hD hS _ (lv_sub hl [0, 1, 2, 3, 4] rfl)
set_option maxHeartbeats 4000000 in
set_option maxRecDepth 100000 in
theorem w_X1_trimPost_b0 {p : Program} {l : Launch} {e : Env} {s : State} {m : MethodId} {args : Array Value} {below : List Frame} {meth : Method} {c : Code} {D : va_G} {T : TY} {d_a d_places_a d_froms_a d_tos_a d_widths_a : Nat} {d_places : Nat → Int32} {d_froms : Nat → Int32} {d_tos : Nat → Int32} {d_ribbons : Int32} {x1 : Int32} {res : Int32 × (Nat → Int32) × Int32} {A : Nat → Prop} (C : CX p s m args meth c cX1_trimPost 6 RX1 wsX1_trimPost (some .int) D T) (hA : ∀ q, s.heap.size ≤ q → A q) : ∀ d_widths : Nat → Int32, ∀ d_trimmed : Int32, f_X1_trimPost d_froms d_tos d_ribbons x1 d_widths d_trimmed = some res → ∀ (H : Heap) (locs : List Loc), va_P D vwCl [(d_a, .inr (1, [.ref d_places_a, .ref d_froms_a, .ref d_tos_a, .ref d_widths_a, .int d_ribbons, .int d_trimmed])), (d_places_a, .inl (T.1, (16, .inl d_places))), (d_froms_a, .inl (T.1, (20, .inl d_froms))), (d_tos_a, .inl (T.1, (20, .inl d_tos))), (d_widths_a, .inl (T.1, (20, .inl d_widths)))] H → va_D A [(d_a, .inr (1, [.ref d_places_a, .ref d_froms_a, .ref d_tos_a, .ref d_widths_a, .int d_ribbons, .int d_trimmed])), (d_places_a, .inl (T.1, (16, .inl d_places))), (d_froms_a, .inl (T.1, (20, .inl d_froms))), (d_tos_a, .inl (T.1, (20, .inl d_tos))), (d_widths_a, .inl (T.1, (20, .inl d_widths)))] → va_S A s.heap H locs → ∀ ls : Array Slot, lv_has ls 6 [(0, .ref d_a), (1, .int x1)] → W p l e rmX1_trimPost s m args below meth c H locs 0 0 (MQ below (Qm (some (.int res.1)) D (fun W9 => W9 = [(d_a, .inr (1, [.ref d_places_a, .ref d_froms_a, .ref d_tos_a, .ref d_widths_a, .int d_ribbons, .int res.2.2])), (d_places_a, .inl (T.1, (16, .inl d_places))), (d_froms_a, .inl (T.1, (20, .inl d_froms))), (d_tos_a, .inl (T.1, (20, .inl d_tos))), (d_widths_a, .inl (T.1, (20, .inl res.2.1)))]) A) args s 0 0 A) (F0 m 0 ls []) := by
  obtain ⟨hx, hb, hml, hown, hts, hr, hlocks, hK, hN⟩ := id C
  intro d_widths d_trimmed hf H locs hP hD hS ls hl
  unfold f_X1_trimPost at hf
  refine lv_aload_n hx hb dX1_trimPost_0 rfl (lv_at hl 0 rfl) ?_
  refine lv_iload_n hx hb dX1_trimPost_1 rfl (lv_at hl 1 rfl) ?_
  obtain ⟨q2, e_2, hf⟩ := bd_some hf
  refine callPi (va_runV (As := [.int x1]) (rest := []) ⟨hx, hb, hml, hown, hts⟩ (c_X1_surplusOf l D T d_a d_places_a d_froms_a d_tos_a d_widths_a d_places d_froms d_tos d_widths d_ribbons d_trimmed x1 q2 e_2) (cwV 1 hts gX1_trimPost_X1_surplusOf rfl rfl rfl hdV_X1_surplusOf ⟨Nat.le_of_ble_eq_true rfl, Nat.le_of_ble_eq_true rfl⟩) (preBV hP hK hN rfl 0 rfl) rfl rfl hl.1 rfl (lv_room (Nat.le_of_ble_eq_true rfl)) dX1_trimPost_2 ⟨Nat.le_of_ble_eq_true rfl, Nat.le_of_ble_eq_true rfl⟩) ?_
  refine lv_istore_n (lv' := [(2, .int q2), (0, .ref d_a), (1, .int x1)]) hx hb dX1_trimPost_5 rfl hl (by decide) rfl (fun ls hl => ?_)
  refine lv_iload_n hx hb dX1_trimPost_6 rfl (lv_at hl 0 rfl) ?_
  refine va_mabs hx hb (by rw [hml]; exact hl.1.symm) hown (hts (.methodLink RX1 93 Lib.Math.abs.name) mw_X1_trimPost_0) (hts (.static Lib.Math.abs.name) mw_X1_trimPost_1) (hts (.initialized "java/lang/Math") mw_X1_trimPost_2) (hts (.code Lib.Math.abs.name Lib.Math.abs.code 1 (some .int)) mw_X1_trimPost_3) (Nat.le_of_ble_eq_true rfl) (Nat.le_of_ble_eq_true rfl) (Nat.le_of_ble_eq_true rfl) (Nat.le_of_ble_eq_true rfl) dX1_trimPost_7 ?_
  obtain ⟨v10, e_10, hf⟩ := nm_some hf
  refine lv_nmi e_10 ?_
  refine lv_istore_n (lv' := [(3, .int v10), (2, .int q2), (0, .ref d_a), (1, .int x1)]) hx hb dX1_trimPost_10 rfl hl (by decide) rfl (fun ls hl => ?_)
  refine lv_iconst (v := (0 : Int32)) hx hb dX1_trimPost_11 (by decide) ?_
  refine lv_istore (lv' := [(4, .int (0 : Int32)), (3, .int v10), (2, .int q2), (0, .ref d_a), (1, .int x1)]) hx hb dX1_trimPost_12 hl (by decide) rfl (fun ls hl => ?_)
  exact w_X1_trimPost_b14 C hA _ _ _ _ _ _ hf _ _ hP hD hS _ (lv_sub hl [3, 4, 2, 1, 0] rfl)
theorem c_X1_trimPost (l : Launch) (D : va_G) (T : TY) (d_a d_places_a d_froms_a d_tos_a d_widths_a : Nat) (d_places : Nat → Int32) (d_froms : Nat → Int32) (d_tos : Nat → Int32) (d_widths : Nat → Int32) (d_ribbons : Int32) (d_trimmed : Int32) (x1 : Int32) (res : Int32 × (Nat → Int32) × Int32) (hf : f_X1_trimPost d_froms d_tos d_ribbons x1 d_widths d_trimmed = some res) (sz : Nat) : Met l yX1_trimPost wsX1_trimPost rmX1_trimPost (va_Pc [.ref d_a, .int x1] (PM D T [(d_a, .inr (1, [.ref d_places_a, .ref d_froms_a, .ref d_tos_a, .ref d_widths_a, .int d_ribbons, .int d_trimmed])), (d_places_a, .inl (T.1, (16, .inl d_places))), (d_froms_a, .inl (T.1, (20, .inl d_froms))), (d_tos_a, .inl (T.1, (20, .inl d_tos))), (d_widths_a, .inl (T.1, (20, .inl d_widths)))] sz)) (Qm (some (.int res.1)) D (fun W9 => W9 = [(d_a, .inr (1, [.ref d_places_a, .ref d_froms_a, .ref d_tos_a, .ref d_widths_a, .int d_ribbons, .int res.2.2])), (d_places_a, .inl (T.1, (16, .inl d_places))), (d_froms_a, .inl (T.1, (20, .inl d_froms))), (d_tos_a, .inl (T.1, (20, .inl d_tos))), (d_widths_a, .inl (T.1, (20, .inl res.2.1)))]) (va_A [(d_a, .inr (1, [.ref d_places_a, .ref d_froms_a, .ref d_tos_a, .ref d_widths_a, .int d_ribbons, .int d_trimmed])), (d_places_a, .inl (T.1, (16, .inl d_places))), (d_froms_a, .inl (T.1, (20, .inl d_froms))), (d_tos_a, .inl (T.1, (20, .inl d_tos))), (d_widths_a, .inl (T.1, (20, .inl d_widths)))] sz)) 0 0 (va_A [(d_a, .inr (1, [.ref d_places_a, .ref d_froms_a, .ref d_tos_a, .ref d_widths_a, .int d_ribbons, .int d_trimmed])), (d_places_a, .inl (T.1, (16, .inl d_places))), (d_froms_a, .inl (T.1, (20, .inl d_froms))), (d_tos_a, .inl (T.1, (20, .inl d_tos))), (d_widths_a, .inl (T.1, (20, .inl d_widths)))] sz) :=
  metM_of (by decide +kernel) rfl (Nat.le_of_ble_eq_true rfl) (fun p e s m args below meth c C hnm A hA hP hD ls hl => w_X1_trimPost_b0 C hA _ _ hf _ _ hP hD va_S.rf ls hl)
def rmX1_trimAll : Room := { frames := 4, cells := 0, slots := 0, locals := 90 }
theorem hdV_X1_trimAll : yX1_trimAll.cls = RX1 ∧ yX1_trimAll.cls ≠ "java/lang/invoke/MethodHandle" ∧ yX1_trimAll.cls ≠ "java/lang/invoke/VarHandle" ∧ (parseMethodDescriptor yX1_trimAll.desc).map (fun d => d.parameters.length) = some 0 := by decide +kernel
theorem mw_X1_trimAll_0 : Cond.constant RX1 103 (1000000) ∈ wsX1_trimAll := by decide +kernel
set_option maxHeartbeats 4000000 in
set_option maxRecDepth 100000 in
theorem w_X1_trimAll_b15 {p : Program} {l : Launch} {e : Env} {s : State} {m : MethodId} {args : Array Value} {below : List Frame} {meth : Method} {c : Code} {D : va_G} {T : TY} {d_a d_places_a d_froms_a d_tos_a d_widths_a : Nat} {d_places : Nat → Int32} {d_froms : Nat → Int32} {d_tos : Nat → Int32} {d_ribbons : Int32} {res : Int32 × (Nat → Int32) × Int32} {K4 : Int32 → Int32 → (Nat → Int32) → Int32 → Option (Int32 × (Nat → Int32) × Int32)} {A : Nat → Prop} (C : CX p s m args meth c cX1_trimAll 5 RX1 wsX1_trimAll (some .int) D T) (hA : ∀ q, s.heap.size ≤ q → A q) (hK4 : ∀ x1 : Int32, ∀ x2 : Int32, ∀ d_widths : Nat → Int32, ∀ d_trimmed : Int32, K4 x1 x2 d_widths d_trimmed = some res → ∀ (H : Heap) (locs : List Loc), va_P D vwCl [(d_a, .inr (1, [.ref d_places_a, .ref d_froms_a, .ref d_tos_a, .ref d_widths_a, .int d_ribbons, .int d_trimmed])), (d_places_a, .inl (T.1, (16, .inl d_places))), (d_froms_a, .inl (T.1, (20, .inl d_froms))), (d_tos_a, .inl (T.1, (20, .inl d_tos))), (d_widths_a, .inl (T.1, (20, .inl d_widths)))] H → va_D A [(d_a, .inr (1, [.ref d_places_a, .ref d_froms_a, .ref d_tos_a, .ref d_widths_a, .int d_ribbons, .int d_trimmed])), (d_places_a, .inl (T.1, (16, .inl d_places))), (d_froms_a, .inl (T.1, (20, .inl d_froms))), (d_tos_a, .inl (T.1, (20, .inl d_tos))), (d_widths_a, .inl (T.1, (20, .inl d_widths)))] → va_S A s.heap H locs → ∀ ls : Array Slot, lv_has ls 5 [(0, .ref d_a), (1, .int x1), (2, .int x2)] → W p l e rmX1_trimAll s m args below meth c H locs 0 0 (MQ below (Qm (some (.int res.1)) D (fun W9 => W9 = [(d_a, .inr (1, [.ref d_places_a, .ref d_froms_a, .ref d_tos_a, .ref d_widths_a, .int d_ribbons, .int res.2.2])), (d_places_a, .inl (T.1, (16, .inl d_places))), (d_froms_a, .inl (T.1, (20, .inl d_froms))), (d_tos_a, .inl (T.1, (20, .inl d_tos))), (d_widths_a, .inl (T.1, (20, .inl res.2.1)))]) A) args s 0 0 A) (F0 m 4 ls [])) : ∀ F : Nat, ∀ x1 : Int32, ∀ x2 : Int32, ∀ x3 : Int32, ∀ x4 : Int32, ∀ d_widths : Nat → Int32, ∀ d_trimmed : Int32, f_X1_trimAll_b15 d_froms d_tos d_ribbons K4 F x1 x2 x3 x4 d_widths d_trimmed = some res → ∀ (H : Heap) (locs : List Loc), va_P D vwCl [(d_a, .inr (1, [.ref d_places_a, .ref d_froms_a, .ref d_tos_a, .ref d_widths_a, .int d_ribbons, .int d_trimmed])), (d_places_a, .inl (T.1, (16, .inl d_places))), (d_froms_a, .inl (T.1, (20, .inl d_froms))), (d_tos_a, .inl (T.1, (20, .inl d_tos))), (d_widths_a, .inl (T.1, (20, .inl d_widths)))] H → va_D A [(d_a, .inr (1, [.ref d_places_a, .ref d_froms_a, .ref d_tos_a, .ref d_widths_a, .int d_ribbons, .int d_trimmed])), (d_places_a, .inl (T.1, (16, .inl d_places))), (d_froms_a, .inl (T.1, (20, .inl d_froms))), (d_tos_a, .inl (T.1, (20, .inl d_tos))), (d_widths_a, .inl (T.1, (20, .inl d_widths)))] → va_S A s.heap H locs → ∀ ls : Array Slot, lv_has ls 5 [(0, .ref d_a), (1, .int x1), (2, .int x2), (3, .int x3), (4, .int x4)] → W p l e rmX1_trimAll s m args below meth c H locs 0 0 (MQ below (Qm (some (.int res.1)) D (fun W9 => W9 = [(d_a, .inr (1, [.ref d_places_a, .ref d_froms_a, .ref d_tos_a, .ref d_widths_a, .int d_ribbons, .int res.2.2])), (d_places_a, .inl (T.1, (16, .inl d_places))), (d_froms_a, .inl (T.1, (20, .inl d_froms))), (d_tos_a, .inl (T.1, (20, .inl d_tos))), (d_widths_a, .inl (T.1, (20, .inl res.2.1)))]) A) args s 0 0 A) (F0 m 15 ls []) := by
  obtain ⟨hx, hb, hml, hown, hts, hr, hlocks, hK, hN⟩ := id C
  intro F
  induction F with
  | zero => intro _ _ _ _ _ _ hf; cases hf
  | succ F ih =>
    intro x1 x2 x3 x4 d_widths d_trimmed hf H locs hP hD hS ls hl
    unfold f_X1_trimAll_b15 at hf
    refine lv_iload hx hb dX1_trimAll_15 (lv_at hl 4 rfl) ?_
    refine lv_bipush (v := (12 : Int32)) hx hb dX1_trimAll_17 (by decide) ?_
    refine lv_icmp_ge (tgt := 37) hx hb dX1_trimAll_19 (by decide) (fun c_19 => ?_) (fun c_19 => ?_)
    · have hf := it_pos c_19 hf
      refine lv_iload_n hx hb dX1_trimAll_37 rfl (lv_at hl 1 rfl) ?_
      refine lv_iload_n hx hb dX1_trimAll_38 rfl (lv_at hl 3 rfl) ?_
      refine lv_icmp_ne (tgt := 45) hx hb dX1_trimAll_39 (by decide) (fun c_39 => ?_) (fun c_39 => ?_)
      · have hf := it_neg c_39 hf
        obtain ⟨v45, e_45, hf⟩ := nm_some hf
        refine lv_iinc (v := v45) (lv' := [(2, .int v45), (0, .ref d_a), (1, .int x1), (3, .int x3), (4, .int x4)]) hx hb dX1_trimAll_45 hl (k := 2) rfl (by rw [e_45]; rfl) (by decide) rfl (fun ls hl => ?_)
        refine lv_goto (tgt := 4) hx hb dX1_trimAll_48 (by decide) ?_
        exact hK4 _ _ _ _ hf _ _ hP hD hS _ (lv_sub hl [1, 2, 0] rfl)
      · have hf := it_pos c_39 hf
        refine lv_goto (tgt := 51) hx hb dX1_trimAll_42 (by decide) ?_
        refine lv_iload_n hx hb dX1_trimAll_51 rfl (lv_at hl 1 rfl) ?_
        obtain rfl := Option.some.inj hf
        exact W.iret hx hb hr (fun t ht hW => ⟨rfl, ⟨_, rfl, by rw [ht]; exact hP, hD⟩, hS.F ht⟩) hS.2.2 dX1_trimAll_52 hlocks
    · have hf := it_neg c_19 hf
      refine lv_iload_n hx hb dX1_trimAll_22 rfl (lv_at hl 1 rfl) ?_
      refine lv_aload_n hx hb dX1_trimAll_23 rfl (lv_at hl 0 rfl) ?_
      refine lv_iload hx hb dX1_trimAll_24 (lv_at hl 4 rfl) ?_
      obtain ⟨q26, e_26, hf⟩ := bd_some hf
      refine callMi (wr := []) (ws' := [(d_a, .inr (1, [.ref d_places_a, .ref d_froms_a, .ref d_tos_a, .ref d_widths_a, .int d_ribbons, .int q26.2.2])), (d_places_a, .inl (T.1, (16, .inl d_places))), (d_froms_a, .inl (T.1, (20, .inl d_froms))), (d_tos_a, .inl (T.1, (20, .inl d_tos))), (d_widths_a, .inl (T.1, (20, .inl q26.2.1)))]) (va_runV (As := [.int x4]) (rest := [.int x1]) ⟨hx, hb, hml, hown, hts⟩ (c_X1_trimPost l D T d_a d_places_a d_froms_a d_tos_a d_widths_a d_places d_froms d_tos d_widths d_ribbons d_trimmed x4 q26 e_26 H.size) (cwV 1 hts gX1_trimAll_X1_trimPost rfl rfl rfl hdV_X1_trimPost ⟨Nat.le_of_ble_eq_true rfl, Nat.le_of_ble_eq_true rfl⟩) (preMV hP hD hK hN rfl 0 rfl) rfl rfl hl.1 rfl (lv_room (Nat.le_of_ble_eq_true rfl)) dX1_trimAll_26 ⟨Nat.le_of_ble_eq_true rfl, Nat.le_of_ble_eq_true rfl⟩) hP hD hS hA [0, 1, 2, 3, 4] [] [0, 1, 2, 3, 4] rfl rfl rfl rfl rfl rfl (fun H locs hP hD hS => ?_)
      refine lv_iadd hx hb dX1_trimAll_29 ?_
      obtain ⟨v30, e_30, hf⟩ := nm_some hf
      refine lv_nmi e_30 ?_
      refine lv_istore_n (lv' := [(1, .int v30), (0, .ref d_a), (2, .int x2), (3, .int x3), (4, .int x4)]) hx hb dX1_trimAll_30 rfl hl (by decide) rfl (fun ls hl => ?_)
      obtain ⟨v31, e_31, hf⟩ := nm_some hf
      refine lv_iinc (v := v31) (lv' := [(4, .int v31), (1, .int v30), (0, .ref d_a), (2, .int x2), (3, .int x3)]) hx hb dX1_trimAll_31 hl (k := 4) rfl (by rw [e_31]; rfl) (by decide) rfl (fun ls hl => ?_)
      refine lv_goto (tgt := 15) hx hb dX1_trimAll_34 (by decide) ?_
      exact ih _ _ _ _ _ _ hf _ _ hP hD hS _ (lv_sub hl [2, 1, 3, 4, 0] rfl)
set_option maxHeartbeats 4000000 in
set_option maxRecDepth 100000 in
theorem w_X1_trimAll_b4 {p : Program} {l : Launch} {e : Env} {s : State} {m : MethodId} {args : Array Value} {below : List Frame} {meth : Method} {c : Code} {D : va_G} {T : TY} {d_a d_places_a d_froms_a d_tos_a d_widths_a : Nat} {d_places : Nat → Int32} {d_froms : Nat → Int32} {d_tos : Nat → Int32} {d_ribbons : Int32} {res : Int32 × (Nat → Int32) × Int32} {A : Nat → Prop} (C : CX p s m args meth c cX1_trimAll 5 RX1 wsX1_trimAll (some .int) D T) (hA : ∀ q, s.heap.size ≤ q → A q) : ∀ F : Nat, ∀ x1 : Int32, ∀ x2 : Int32, ∀ d_widths : Nat → Int32, ∀ d_trimmed : Int32, f_X1_trimAll_b4 d_froms d_tos d_ribbons F x1 x2 d_widths d_trimmed = some res → ∀ (H : Heap) (locs : List Loc), va_P D vwCl [(d_a, .inr (1, [.ref d_places_a, .ref d_froms_a, .ref d_tos_a, .ref d_widths_a, .int d_ribbons, .int d_trimmed])), (d_places_a, .inl (T.1, (16, .inl d_places))), (d_froms_a, .inl (T.1, (20, .inl d_froms))), (d_tos_a, .inl (T.1, (20, .inl d_tos))), (d_widths_a, .inl (T.1, (20, .inl d_widths)))] H → va_D A [(d_a, .inr (1, [.ref d_places_a, .ref d_froms_a, .ref d_tos_a, .ref d_widths_a, .int d_ribbons, .int d_trimmed])), (d_places_a, .inl (T.1, (16, .inl d_places))), (d_froms_a, .inl (T.1, (20, .inl d_froms))), (d_tos_a, .inl (T.1, (20, .inl d_tos))), (d_widths_a, .inl (T.1, (20, .inl d_widths)))] → va_S A s.heap H locs → ∀ ls : Array Slot, lv_has ls 5 [(0, .ref d_a), (1, .int x1), (2, .int x2)] → W p l e rmX1_trimAll s m args below meth c H locs 0 0 (MQ below (Qm (some (.int res.1)) D (fun W9 => W9 = [(d_a, .inr (1, [.ref d_places_a, .ref d_froms_a, .ref d_tos_a, .ref d_widths_a, .int d_ribbons, .int res.2.2])), (d_places_a, .inl (T.1, (16, .inl d_places))), (d_froms_a, .inl (T.1, (20, .inl d_froms))), (d_tos_a, .inl (T.1, (20, .inl d_tos))), (d_widths_a, .inl (T.1, (20, .inl res.2.1)))]) A) args s 0 0 A) (F0 m 4 ls []) := by
  obtain ⟨hx, hb, hml, hown, hts, hr, hlocks, hK, hN⟩ := id C
  intro F
  induction F with
  | zero => intro _ _ _ _ hf; cases hf
  | succ F ih =>
    intro x1 x2 d_widths d_trimmed hf H locs hP hD hS ls hl
    unfold f_X1_trimAll_b4 at hf
    refine lv_iload_n hx hb dX1_trimAll_4 rfl (lv_at hl 2 rfl) ?_
    refine lv_ldc (v := (1000000 : Int32)) hx hb hown (hts (.constant RX1 103 (1000000)) mw_X1_trimAll_0) dX1_trimAll_5 ?_
    refine lv_icmp_ge (tgt := 51) hx hb dX1_trimAll_7 (by decide) (fun c_7 => ?_) (fun c_7 => ?_)
    · have hf := it_pos c_7 hf
      refine lv_iload_n hx hb dX1_trimAll_51 rfl (lv_at hl 1 rfl) ?_
      obtain rfl := Option.some.inj hf
      exact W.iret hx hb hr (fun t ht hW => ⟨rfl, ⟨_, rfl, by rw [ht]; exact hP, hD⟩, hS.F ht⟩) hS.2.2 dX1_trimAll_52 hlocks
    · have hf := it_neg c_7 hf
      refine lv_iload_n hx hb dX1_trimAll_10 rfl (lv_at hl 1 rfl) ?_
      refine lv_istore_n (lv' := [(3, .int x1), (0, .ref d_a), (1, .int x1), (2, .int x2)]) hx hb dX1_trimAll_11 rfl hl (by decide) rfl (fun ls hl => ?_)
      refine lv_iconst (v := (4 : Int32)) hx hb dX1_trimAll_12 (by decide) ?_
      refine lv_istore (lv' := [(4, .int (4 : Int32)), (3, .int x1), (0, .ref d_a), (1, .int x1), (2, .int x2)]) hx hb dX1_trimAll_13 hl (by decide) rfl (fun ls hl => ?_)
      exact w_X1_trimAll_b15 C hA (fun v0 v1 v2 v3 hf H1 l1 p1 d1 s1 ls hl => ih v0 v1 v2 v3 hf H1 l1 p1 d1 s1 ls hl) _ _ _ _ _ _ _ hf _ _ hP hD hS _ (lv_sub hl [2, 3, 4, 1, 0] rfl)
set_option maxHeartbeats 4000000 in
set_option maxRecDepth 100000 in
theorem w_X1_trimAll_b0 {p : Program} {l : Launch} {e : Env} {s : State} {m : MethodId} {args : Array Value} {below : List Frame} {meth : Method} {c : Code} {D : va_G} {T : TY} {d_a d_places_a d_froms_a d_tos_a d_widths_a : Nat} {d_places : Nat → Int32} {d_froms : Nat → Int32} {d_tos : Nat → Int32} {d_ribbons : Int32} {res : Int32 × (Nat → Int32) × Int32} {A : Nat → Prop} (C : CX p s m args meth c cX1_trimAll 5 RX1 wsX1_trimAll (some .int) D T) (hA : ∀ q, s.heap.size ≤ q → A q) : ∀ d_widths : Nat → Int32, ∀ d_trimmed : Int32, f_X1_trimAll d_froms d_tos d_ribbons d_widths d_trimmed = some res → ∀ (H : Heap) (locs : List Loc), va_P D vwCl [(d_a, .inr (1, [.ref d_places_a, .ref d_froms_a, .ref d_tos_a, .ref d_widths_a, .int d_ribbons, .int d_trimmed])), (d_places_a, .inl (T.1, (16, .inl d_places))), (d_froms_a, .inl (T.1, (20, .inl d_froms))), (d_tos_a, .inl (T.1, (20, .inl d_tos))), (d_widths_a, .inl (T.1, (20, .inl d_widths)))] H → va_D A [(d_a, .inr (1, [.ref d_places_a, .ref d_froms_a, .ref d_tos_a, .ref d_widths_a, .int d_ribbons, .int d_trimmed])), (d_places_a, .inl (T.1, (16, .inl d_places))), (d_froms_a, .inl (T.1, (20, .inl d_froms))), (d_tos_a, .inl (T.1, (20, .inl d_tos))), (d_widths_a, .inl (T.1, (20, .inl d_widths)))] → va_S A s.heap H locs → ∀ ls : Array Slot, lv_has ls 5 [(0, .ref d_a)] → W p l e rmX1_trimAll s m args below meth c H locs 0 0 (MQ below (Qm (some (.int res.1)) D (fun W9 => W9 = [(d_a, .inr (1, [.ref d_places_a, .ref d_froms_a, .ref d_tos_a, .ref d_widths_a, .int d_ribbons, .int res.2.2])), (d_places_a, .inl (T.1, (16, .inl d_places))), (d_froms_a, .inl (T.1, (20, .inl d_froms))), (d_tos_a, .inl (T.1, (20, .inl d_tos))), (d_widths_a, .inl (T.1, (20, .inl res.2.1)))]) A) args s 0 0 A) (F0 m 0 ls []) := by
  obtain ⟨hx, hb, hml, hown, hts, hr, hlocks, hK, hN⟩ := id C
  intro d_widths d_trimmed hf H locs hP hD hS ls hl
  unfold f_X1_trimAll at hf
  refine lv_iconst (v := (0 : Int32)) hx hb dX1_trimAll_0 (by decide) ?_
  refine lv_istore_n (lv' := [(1, .int (0 : Int32)), (0, .ref d_a)]) hx hb dX1_trimAll_1 rfl hl (by decide) rfl (fun ls hl => ?_)
  refine lv_iconst (v := (0 : Int32)) hx hb dX1_trimAll_2 (by decide) ?_
  refine lv_istore_n (lv' := [(2, .int (0 : Int32)), (1, .int (0 : Int32)), (0, .ref d_a)]) hx hb dX1_trimAll_3 rfl hl (by decide) rfl (fun ls hl => ?_)
  exact w_X1_trimAll_b4 C hA _ _ _ _ _ hf _ _ hP hD hS _ (lv_sub hl [2, 1, 0] rfl)
theorem c_X1_trimAll (l : Launch) (D : va_G) (T : TY) (d_a d_places_a d_froms_a d_tos_a d_widths_a : Nat) (d_places : Nat → Int32) (d_froms : Nat → Int32) (d_tos : Nat → Int32) (d_widths : Nat → Int32) (d_ribbons : Int32) (d_trimmed : Int32) (res : Int32 × (Nat → Int32) × Int32) (hf : f_X1_trimAll d_froms d_tos d_ribbons d_widths d_trimmed = some res) (sz : Nat) : Met l yX1_trimAll wsX1_trimAll rmX1_trimAll (va_Pc [.ref d_a] (PM D T [(d_a, .inr (1, [.ref d_places_a, .ref d_froms_a, .ref d_tos_a, .ref d_widths_a, .int d_ribbons, .int d_trimmed])), (d_places_a, .inl (T.1, (16, .inl d_places))), (d_froms_a, .inl (T.1, (20, .inl d_froms))), (d_tos_a, .inl (T.1, (20, .inl d_tos))), (d_widths_a, .inl (T.1, (20, .inl d_widths)))] sz)) (Qm (some (.int res.1)) D (fun W9 => W9 = [(d_a, .inr (1, [.ref d_places_a, .ref d_froms_a, .ref d_tos_a, .ref d_widths_a, .int d_ribbons, .int res.2.2])), (d_places_a, .inl (T.1, (16, .inl d_places))), (d_froms_a, .inl (T.1, (20, .inl d_froms))), (d_tos_a, .inl (T.1, (20, .inl d_tos))), (d_widths_a, .inl (T.1, (20, .inl res.2.1)))]) (va_A [(d_a, .inr (1, [.ref d_places_a, .ref d_froms_a, .ref d_tos_a, .ref d_widths_a, .int d_ribbons, .int d_trimmed])), (d_places_a, .inl (T.1, (16, .inl d_places))), (d_froms_a, .inl (T.1, (20, .inl d_froms))), (d_tos_a, .inl (T.1, (20, .inl d_tos))), (d_widths_a, .inl (T.1, (20, .inl d_widths)))] sz)) 0 0 (va_A [(d_a, .inr (1, [.ref d_places_a, .ref d_froms_a, .ref d_tos_a, .ref d_widths_a, .int d_ribbons, .int d_trimmed])), (d_places_a, .inl (T.1, (16, .inl d_places))), (d_froms_a, .inl (T.1, (20, .inl d_froms))), (d_tos_a, .inl (T.1, (20, .inl d_tos))), (d_widths_a, .inl (T.1, (20, .inl d_widths)))] sz) :=
  metM_of (by decide +kernel) rfl (Nat.le_of_ble_eq_true rfl) (fun p e s m args below meth c C hnm A hA hP hD ls hl => w_X1_trimAll_b0 C hA _ _ hf _ _ hP hD va_S.rf ls hl)
def rmX1_ribbonsTo : Room := { frames := 1, cells := 0, slots := 0, locals := 21 }
theorem hdV_X1_ribbonsTo : yX1_ribbonsTo.cls = RX1 ∧ yX1_ribbonsTo.cls ≠ "java/lang/invoke/MethodHandle" ∧ yX1_ribbonsTo.cls ≠ "java/lang/invoke/VarHandle" ∧ (parseMethodDescriptor yX1_ribbonsTo.desc).map (fun d => d.parameters.length) = some 1 := by decide +kernel
theorem iw_X1_ribbonsTo_X1 : ∀ w ∈ wsX10, w ∈ wsX1_ribbonsTo := by decide +kernel
theorem mw_X1_ribbonsTo_0 : Cond.fieldLink RX1 30 "RibbonPosts$Drawing" "ribbons" "I" ∈ wsX1_ribbonsTo := by decide +kernel
set_option maxHeartbeats 4000000 in
set_option maxRecDepth 100000 in
theorem w_X1_ribbonsTo_b32 {p : Program} {l : Launch} {e : Env} {s : State} {m : MethodId} {args : Array Value} {below : List Frame} {meth : Method} {c : Code} {D : va_G} {T : TY} {d_a d_places_a d_froms_a d_tos_a d_widths_a : Nat} {d_places : Nat → Int32} {d_froms : Nat → Int32} {d_tos : Nat → Int32} {d_widths : Nat → Int32} {d_ribbons : Int32} {d_trimmed : Int32} {x1 : Int32} {res : Int32} {K4 : Int32 → Int32 → Option (Int32)} (C : CX p s m args meth c cX1_ribbonsTo 4 RX1 wsX1_ribbonsTo (some .int) D T) (hP : va_P D vwCl [(d_a, .inr (1, [.ref d_places_a, .ref d_froms_a, .ref d_tos_a, .ref d_widths_a, .int d_ribbons, .int d_trimmed])), (d_places_a, .inl (T.1, (16, .inl d_places))), (d_froms_a, .inl (T.1, (20, .inl d_froms))), (d_tos_a, .inl (T.1, (20, .inl d_tos))), (d_widths_a, .inl (T.1, (20, .inl d_widths)))] s.heap) (hK4 : ∀ x2 : Int32, ∀ x3 : Int32, K4 x2 x3 = some res → ∀ ls : Array Slot, lv_has ls 4 [(0, .ref d_a), (1, .int x1), (2, .int x2), (3, .int x3)] → W p l e rmX1_ribbonsTo s m args below meth c s.heap [] 0 0 (MQ below (Qp (some (.int res))) args s 0 0 (fun _ => False)) (F0 m 4 ls [])) : ∀ x2 : Int32, ∀ x3 : Int32, f_X1_ribbonsTo_b32 d_froms d_tos d_ribbons x1 K4 x2 x3 = some res → ∀ ls : Array Slot, lv_has ls 4 [(0, .ref d_a), (1, .int x1), (2, .int x2), (3, .int x3)] → W p l e rmX1_ribbonsTo s m args below meth c s.heap [] 0 0 (MQ below (Qp (some (.int res))) args s 0 0 (fun _ => False)) (F0 m 32 ls []) := by
  obtain ⟨hx, hb, hml, hown, hts, hr, hlocks, hK, hN⟩ := id C
  intro x2 x3 hf ls hl
  unfold f_X1_ribbonsTo_b32 at hf
  obtain ⟨v32, e_32, hf⟩ := nm_some hf
  refine lv_iinc (v := v32) (lv' := [(3, .int v32), (0, .ref d_a), (1, .int x1), (2, .int x2)]) hx hb dX1_ribbonsTo_32 hl (k := 3) rfl (by rw [e_32]; rfl) (by decide) rfl (fun ls hl => ?_)
  refine lv_goto (tgt := 4) hx hb dX1_ribbonsTo_35 (by decide) ?_
  exact hK4 _ _ hf _ (lv_sub hl [1, 2, 3, 0] rfl)
set_option maxHeartbeats 4000000 in
set_option maxRecDepth 100000 in
theorem w_X1_ribbonsTo_b4 {p : Program} {l : Launch} {e : Env} {s : State} {m : MethodId} {args : Array Value} {below : List Frame} {meth : Method} {c : Code} {D : va_G} {T : TY} {d_a d_places_a d_froms_a d_tos_a d_widths_a : Nat} {d_places : Nat → Int32} {d_froms : Nat → Int32} {d_tos : Nat → Int32} {d_widths : Nat → Int32} {d_ribbons : Int32} {d_trimmed : Int32} {x1 : Int32} {res : Int32} (C : CX p s m args meth c cX1_ribbonsTo 4 RX1 wsX1_ribbonsTo (some .int) D T) (hP : va_P D vwCl [(d_a, .inr (1, [.ref d_places_a, .ref d_froms_a, .ref d_tos_a, .ref d_widths_a, .int d_ribbons, .int d_trimmed])), (d_places_a, .inl (T.1, (16, .inl d_places))), (d_froms_a, .inl (T.1, (20, .inl d_froms))), (d_tos_a, .inl (T.1, (20, .inl d_tos))), (d_widths_a, .inl (T.1, (20, .inl d_widths)))] s.heap) : ∀ F : Nat, ∀ x2 : Int32, ∀ x3 : Int32, f_X1_ribbonsTo_b4 d_froms d_tos d_ribbons x1 F x2 x3 = some res → ∀ ls : Array Slot, lv_has ls 4 [(0, .ref d_a), (1, .int x1), (2, .int x2), (3, .int x3)] → W p l e rmX1_ribbonsTo s m args below meth c s.heap [] 0 0 (MQ below (Qp (some (.int res))) args s 0 0 (fun _ => False)) (F0 m 4 ls []) := by
  obtain ⟨hx, hb, hml, hown, hts, hr, hlocks, hK, hN⟩ := id C
  intro F
  induction F with
  | zero => intro _ _ hf; cases hf
  | succ F ih =>
    intro x2 x3 hf ls hl
    unfold f_X1_ribbonsTo_b4 at hf
    refine lv_iload_n hx hb dX1_ribbonsTo_4 rfl (lv_at hl 3 rfl) ?_
    refine lv_aload_n hx hb dX1_ribbonsTo_5 rfl (lv_at hl 0 rfl) ?_
    refine va_get (D := D) (ci := 1) (v := .int d_ribbons) (C := RX1) (T := TX1) (N := 6) hx hb hts iw_X1_ribbonsTo_X1 hown hK hP 0 rfl rfl 4 (by decide) (hts (.fieldLink RX1 30 "RibbonPosts$Drawing" "ribbons" "I") mw_X1_ribbonsTo_0) (fun _ h9 => h9) rfl dX1_ribbonsTo_6 ?_
    refine lv_icmp_ge (tgt := 38) hx hb dX1_ribbonsTo_9 (by decide) (fun c_9 => ?_) (fun c_9 => ?_)
    · have hf := it_pos c_9 hf
      refine lv_iload_n hx hb dX1_ribbonsTo_38 rfl (lv_at hl 2 rfl) ?_
      obtain rfl := Option.some.inj hf
      exact W.iret hx hb hr (fun t ht hW => ⟨rfl, ht⟩) (fun q hq => absurd hq List.not_mem_nil) dX1_ribbonsTo_39 hlocks
    · have hf := it_neg c_9 hf
      refine lv_aload_n hx hb dX1_ribbonsTo_12 rfl (lv_at hl 0 rfl) ?_
      refine lv_iload_n hx hb dX1_ribbonsTo_13 rfl (lv_at hl 3 rfl) ?_
      obtain ⟨q14, e_14, hf⟩ := bd_some hf
      refine callPi (va_runV (As := [.int x3]) (rest := []) ⟨hx, hb, hml, hown, hts⟩ (c_X1_toOf l D T d_a d_places_a d_froms_a d_tos_a d_widths_a d_places d_froms d_tos d_widths d_ribbons d_trimmed x3 q14 e_14) (cwV 1 hts gX1_ribbonsTo_X1_toOf rfl rfl rfl hdV_X1_toOf ⟨Nat.le_of_ble_eq_true rfl, Nat.le_of_ble_eq_true rfl⟩) (preBV hP hK hN rfl 0 rfl) rfl rfl hl.1 rfl (lv_room (Nat.le_of_ble_eq_true rfl)) dX1_ribbonsTo_14 ⟨Nat.le_of_ble_eq_true rfl, Nat.le_of_ble_eq_true rfl⟩) ?_
      refine lv_iload_n hx hb dX1_ribbonsTo_17 rfl (lv_at hl 1 rfl) ?_
      refine lv_icmp_ne (tgt := 32) hx hb dX1_ribbonsTo_18 (by decide) (fun c_18 => ?_) (fun c_18 => ?_)
      · have hf := it_neg c_18 hf
        exact w_X1_ribbonsTo_b32 C hP (fun v0 v1 hf ls hl => ih v0 v1 hf ls hl) _ _ hf _ (lv_sub hl [0, 1, 2, 3] rfl)
      · have hf := it_pos c_18 hf
        refine lv_aload_n hx hb dX1_ribbonsTo_21 rfl (lv_at hl 0 rfl) ?_
        refine lv_iload_n hx hb dX1_ribbonsTo_22 rfl (lv_at hl 3 rfl) ?_
        obtain ⟨q23, e_23, hf⟩ := bd_some hf
        refine callPi (va_runV (As := [.int x3]) (rest := []) ⟨hx, hb, hml, hown, hts⟩ (c_X1_goesOn l D T d_a d_places_a d_froms_a d_tos_a d_widths_a d_places d_froms d_tos d_widths d_ribbons d_trimmed x3 q23 e_23) (cwV 1 hts gX1_ribbonsTo_X1_goesOn rfl rfl rfl hdV_X1_goesOn ⟨Nat.le_of_ble_eq_true rfl, Nat.le_of_ble_eq_true rfl⟩) (preBV hP hK hN rfl 0 rfl) rfl rfl hl.1 rfl (lv_room (Nat.le_of_ble_eq_true rfl)) dX1_ribbonsTo_23 ⟨Nat.le_of_ble_eq_true rfl, Nat.le_of_ble_eq_true rfl⟩) ?_
        refine lv_if_eq (tgt := 32) hx hb dX1_ribbonsTo_26 (by decide) (fun c_26 => ?_) (fun c_26 => ?_)
        · have hf := it_pos c_26 hf
          exact w_X1_ribbonsTo_b32 C hP (fun v0 v1 hf ls hl => ih v0 v1 hf ls hl) _ _ hf _ (lv_sub hl [0, 1, 2, 3] rfl)
        · have hf := it_neg c_26 hf
          obtain ⟨v29, e_29, hf⟩ := nm_some hf
          refine lv_iinc (v := v29) (lv' := [(2, .int v29), (0, .ref d_a), (1, .int x1), (3, .int x3)]) hx hb dX1_ribbonsTo_29 hl (k := 2) rfl (by rw [e_29]; rfl) (by decide) rfl (fun ls hl => ?_)
          exact w_X1_ribbonsTo_b32 C hP (fun v0 v1 hf ls hl => ih v0 v1 hf ls hl) _ _ hf _ (lv_sub hl [1, 2, 0, 3] rfl)
set_option maxHeartbeats 4000000 in
set_option maxRecDepth 100000 in
theorem w_X1_ribbonsTo_b0 {p : Program} {l : Launch} {e : Env} {s : State} {m : MethodId} {args : Array Value} {below : List Frame} {meth : Method} {c : Code} {D : va_G} {T : TY} {d_a d_places_a d_froms_a d_tos_a d_widths_a : Nat} {d_places : Nat → Int32} {d_froms : Nat → Int32} {d_tos : Nat → Int32} {d_widths : Nat → Int32} {d_ribbons : Int32} {d_trimmed : Int32} {x1 : Int32} {res : Int32} (C : CX p s m args meth c cX1_ribbonsTo 4 RX1 wsX1_ribbonsTo (some .int) D T) (hP : va_P D vwCl [(d_a, .inr (1, [.ref d_places_a, .ref d_froms_a, .ref d_tos_a, .ref d_widths_a, .int d_ribbons, .int d_trimmed])), (d_places_a, .inl (T.1, (16, .inl d_places))), (d_froms_a, .inl (T.1, (20, .inl d_froms))), (d_tos_a, .inl (T.1, (20, .inl d_tos))), (d_widths_a, .inl (T.1, (20, .inl d_widths)))] s.heap) : f_X1_ribbonsTo d_froms d_tos d_ribbons x1 = some res → ∀ ls : Array Slot, lv_has ls 4 [(0, .ref d_a), (1, .int x1)] → W p l e rmX1_ribbonsTo s m args below meth c s.heap [] 0 0 (MQ below (Qp (some (.int res))) args s 0 0 (fun _ => False)) (F0 m 0 ls []) := by
  obtain ⟨hx, hb, hml, hown, hts, hr, hlocks, hK, hN⟩ := id C
  intro  hf ls hl
  unfold f_X1_ribbonsTo at hf
  refine lv_iconst (v := (0 : Int32)) hx hb dX1_ribbonsTo_0 (by decide) ?_
  refine lv_istore_n (lv' := [(2, .int (0 : Int32)), (0, .ref d_a), (1, .int x1)]) hx hb dX1_ribbonsTo_1 rfl hl (by decide) rfl (fun ls hl => ?_)
  refine lv_iconst (v := (0 : Int32)) hx hb dX1_ribbonsTo_2 (by decide) ?_
  refine lv_istore_n (lv' := [(3, .int (0 : Int32)), (2, .int (0 : Int32)), (0, .ref d_a), (1, .int x1)]) hx hb dX1_ribbonsTo_3 rfl hl (by decide) rfl (fun ls hl => ?_)
  exact w_X1_ribbonsTo_b4 C hP _ _ _ hf _ (lv_sub hl [2, 3, 1, 0] rfl)
theorem c_X1_ribbonsTo (l : Launch) (D : va_G) (T : TY) (d_a d_places_a d_froms_a d_tos_a d_widths_a : Nat) (d_places : Nat → Int32) (d_froms : Nat → Int32) (d_tos : Nat → Int32) (d_widths : Nat → Int32) (d_ribbons : Int32) (d_trimmed : Int32) (x1 : Int32) (res : Int32) (hf : f_X1_ribbonsTo d_froms d_tos d_ribbons x1 = some res) : Met l yX1_ribbonsTo wsX1_ribbonsTo rmX1_ribbonsTo (va_Pc [.ref d_a, .int x1] (PB D T [(d_a, .inr (1, [.ref d_places_a, .ref d_froms_a, .ref d_tos_a, .ref d_widths_a, .int d_ribbons, .int d_trimmed])), (d_places_a, .inl (T.1, (16, .inl d_places))), (d_froms_a, .inl (T.1, (20, .inl d_froms))), (d_tos_a, .inl (T.1, (20, .inl d_tos))), (d_widths_a, .inl (T.1, (20, .inl d_widths)))])) (Qp (some (.int res))) 0 0 (fun _ => False) :=
  metP_of (by decide +kernel) rfl (Nat.le_of_ble_eq_true rfl) (fun p e s m args below meth c C hP ls hl => w_X1_ribbonsTo_b0 C hP hf ls hl)
def rmX1_ribbonsFrom : Room := { frames := 1, cells := 0, slots := 0, locals := 21 }
theorem hdV_X1_ribbonsFrom : yX1_ribbonsFrom.cls = RX1 ∧ yX1_ribbonsFrom.cls ≠ "java/lang/invoke/MethodHandle" ∧ yX1_ribbonsFrom.cls ≠ "java/lang/invoke/VarHandle" ∧ (parseMethodDescriptor yX1_ribbonsFrom.desc).map (fun d => d.parameters.length) = some 1 := by decide +kernel
theorem iw_X1_ribbonsFrom_X1 : ∀ w ∈ wsX10, w ∈ wsX1_ribbonsFrom := by decide +kernel
theorem mw_X1_ribbonsFrom_0 : Cond.fieldLink RX1 30 "RibbonPosts$Drawing" "ribbons" "I" ∈ wsX1_ribbonsFrom := by decide +kernel
set_option maxHeartbeats 4000000 in
set_option maxRecDepth 100000 in
theorem w_X1_ribbonsFrom_b32 {p : Program} {l : Launch} {e : Env} {s : State} {m : MethodId} {args : Array Value} {below : List Frame} {meth : Method} {c : Code} {D : va_G} {T : TY} {d_a d_places_a d_froms_a d_tos_a d_widths_a : Nat} {d_places : Nat → Int32} {d_froms : Nat → Int32} {d_tos : Nat → Int32} {d_widths : Nat → Int32} {d_ribbons : Int32} {d_trimmed : Int32} {x1 : Int32} {res : Int32} {K4 : Int32 → Int32 → Option (Int32)} (C : CX p s m args meth c cX1_ribbonsFrom 4 RX1 wsX1_ribbonsFrom (some .int) D T) (hP : va_P D vwCl [(d_a, .inr (1, [.ref d_places_a, .ref d_froms_a, .ref d_tos_a, .ref d_widths_a, .int d_ribbons, .int d_trimmed])), (d_places_a, .inl (T.1, (16, .inl d_places))), (d_froms_a, .inl (T.1, (20, .inl d_froms))), (d_tos_a, .inl (T.1, (20, .inl d_tos))), (d_widths_a, .inl (T.1, (20, .inl d_widths)))] s.heap) (hK4 : ∀ x2 : Int32, ∀ x3 : Int32, K4 x2 x3 = some res → ∀ ls : Array Slot, lv_has ls 4 [(0, .ref d_a), (1, .int x1), (2, .int x2), (3, .int x3)] → W p l e rmX1_ribbonsFrom s m args below meth c s.heap [] 0 0 (MQ below (Qp (some (.int res))) args s 0 0 (fun _ => False)) (F0 m 4 ls [])) : ∀ x2 : Int32, ∀ x3 : Int32, f_X1_ribbonsFrom_b32 d_froms d_tos d_ribbons x1 K4 x2 x3 = some res → ∀ ls : Array Slot, lv_has ls 4 [(0, .ref d_a), (1, .int x1), (2, .int x2), (3, .int x3)] → W p l e rmX1_ribbonsFrom s m args below meth c s.heap [] 0 0 (MQ below (Qp (some (.int res))) args s 0 0 (fun _ => False)) (F0 m 32 ls []) := by
  obtain ⟨hx, hb, hml, hown, hts, hr, hlocks, hK, hN⟩ := id C
  intro x2 x3 hf ls hl
  unfold f_X1_ribbonsFrom_b32 at hf
  obtain ⟨v32, e_32, hf⟩ := nm_some hf
  refine lv_iinc (v := v32) (lv' := [(3, .int v32), (0, .ref d_a), (1, .int x1), (2, .int x2)]) hx hb dX1_ribbonsFrom_32 hl (k := 3) rfl (by rw [e_32]; rfl) (by decide) rfl (fun ls hl => ?_)
  refine lv_goto (tgt := 4) hx hb dX1_ribbonsFrom_35 (by decide) ?_
  exact hK4 _ _ hf _ (lv_sub hl [1, 2, 3, 0] rfl)
set_option maxHeartbeats 4000000 in
set_option maxRecDepth 100000 in
theorem w_X1_ribbonsFrom_b4 {p : Program} {l : Launch} {e : Env} {s : State} {m : MethodId} {args : Array Value} {below : List Frame} {meth : Method} {c : Code} {D : va_G} {T : TY} {d_a d_places_a d_froms_a d_tos_a d_widths_a : Nat} {d_places : Nat → Int32} {d_froms : Nat → Int32} {d_tos : Nat → Int32} {d_widths : Nat → Int32} {d_ribbons : Int32} {d_trimmed : Int32} {x1 : Int32} {res : Int32} (C : CX p s m args meth c cX1_ribbonsFrom 4 RX1 wsX1_ribbonsFrom (some .int) D T) (hP : va_P D vwCl [(d_a, .inr (1, [.ref d_places_a, .ref d_froms_a, .ref d_tos_a, .ref d_widths_a, .int d_ribbons, .int d_trimmed])), (d_places_a, .inl (T.1, (16, .inl d_places))), (d_froms_a, .inl (T.1, (20, .inl d_froms))), (d_tos_a, .inl (T.1, (20, .inl d_tos))), (d_widths_a, .inl (T.1, (20, .inl d_widths)))] s.heap) : ∀ F : Nat, ∀ x2 : Int32, ∀ x3 : Int32, f_X1_ribbonsFrom_b4 d_froms d_tos d_ribbons x1 F x2 x3 = some res → ∀ ls : Array Slot, lv_has ls 4 [(0, .ref d_a), (1, .int x1), (2, .int x2), (3, .int x3)] → W p l e rmX1_ribbonsFrom s m args below meth c s.heap [] 0 0 (MQ below (Qp (some (.int res))) args s 0 0 (fun _ => False)) (F0 m 4 ls []) := by
  obtain ⟨hx, hb, hml, hown, hts, hr, hlocks, hK, hN⟩ := id C
  intro F
  induction F with
  | zero => intro _ _ hf; cases hf
  | succ F ih =>
    intro x2 x3 hf ls hl
    unfold f_X1_ribbonsFrom_b4 at hf
    refine lv_iload_n hx hb dX1_ribbonsFrom_4 rfl (lv_at hl 3 rfl) ?_
    refine lv_aload_n hx hb dX1_ribbonsFrom_5 rfl (lv_at hl 0 rfl) ?_
    refine va_get (D := D) (ci := 1) (v := .int d_ribbons) (C := RX1) (T := TX1) (N := 6) hx hb hts iw_X1_ribbonsFrom_X1 hown hK hP 0 rfl rfl 4 (by decide) (hts (.fieldLink RX1 30 "RibbonPosts$Drawing" "ribbons" "I") mw_X1_ribbonsFrom_0) (fun _ h9 => h9) rfl dX1_ribbonsFrom_6 ?_
    refine lv_icmp_ge (tgt := 38) hx hb dX1_ribbonsFrom_9 (by decide) (fun c_9 => ?_) (fun c_9 => ?_)
    · have hf := it_pos c_9 hf
      refine lv_iload_n hx hb dX1_ribbonsFrom_38 rfl (lv_at hl 2 rfl) ?_
      obtain rfl := Option.some.inj hf
      exact W.iret hx hb hr (fun t ht hW => ⟨rfl, ht⟩) (fun q hq => absurd hq List.not_mem_nil) dX1_ribbonsFrom_39 hlocks
    · have hf := it_neg c_9 hf
      refine lv_aload_n hx hb dX1_ribbonsFrom_12 rfl (lv_at hl 0 rfl) ?_
      refine lv_iload_n hx hb dX1_ribbonsFrom_13 rfl (lv_at hl 3 rfl) ?_
      obtain ⟨q14, e_14, hf⟩ := bd_some hf
      refine callPi (va_runV (As := [.int x3]) (rest := []) ⟨hx, hb, hml, hown, hts⟩ (c_X1_fromOf l D T d_a d_places_a d_froms_a d_tos_a d_widths_a d_places d_froms d_tos d_widths d_ribbons d_trimmed x3 q14 e_14) (cwV 1 hts gX1_ribbonsFrom_X1_fromOf rfl rfl rfl hdV_X1_fromOf ⟨Nat.le_of_ble_eq_true rfl, Nat.le_of_ble_eq_true rfl⟩) (preBV hP hK hN rfl 0 rfl) rfl rfl hl.1 rfl (lv_room (Nat.le_of_ble_eq_true rfl)) dX1_ribbonsFrom_14 ⟨Nat.le_of_ble_eq_true rfl, Nat.le_of_ble_eq_true rfl⟩) ?_
      refine lv_iload_n hx hb dX1_ribbonsFrom_17 rfl (lv_at hl 1 rfl) ?_
      refine lv_icmp_ne (tgt := 32) hx hb dX1_ribbonsFrom_18 (by decide) (fun c_18 => ?_) (fun c_18 => ?_)
      · have hf := it_neg c_18 hf
        exact w_X1_ribbonsFrom_b32 C hP (fun v0 v1 hf ls hl => ih v0 v1 hf ls hl) _ _ hf _ (lv_sub hl [0, 1, 2, 3] rfl)
      · have hf := it_pos c_18 hf
        refine lv_aload_n hx hb dX1_ribbonsFrom_21 rfl (lv_at hl 0 rfl) ?_
        refine lv_iload_n hx hb dX1_ribbonsFrom_22 rfl (lv_at hl 3 rfl) ?_
        obtain ⟨q23, e_23, hf⟩ := bd_some hf
        refine callPi (va_runV (As := [.int x3]) (rest := []) ⟨hx, hb, hml, hown, hts⟩ (c_X1_goesOn l D T d_a d_places_a d_froms_a d_tos_a d_widths_a d_places d_froms d_tos d_widths d_ribbons d_trimmed x3 q23 e_23) (cwV 1 hts gX1_ribbonsFrom_X1_goesOn rfl rfl rfl hdV_X1_goesOn ⟨Nat.le_of_ble_eq_true rfl, Nat.le_of_ble_eq_true rfl⟩) (preBV hP hK hN rfl 0 rfl) rfl rfl hl.1 rfl (lv_room (Nat.le_of_ble_eq_true rfl)) dX1_ribbonsFrom_23 ⟨Nat.le_of_ble_eq_true rfl, Nat.le_of_ble_eq_true rfl⟩) ?_
        refine lv_if_eq (tgt := 32) hx hb dX1_ribbonsFrom_26 (by decide) (fun c_26 => ?_) (fun c_26 => ?_)
        · have hf := it_pos c_26 hf
          exact w_X1_ribbonsFrom_b32 C hP (fun v0 v1 hf ls hl => ih v0 v1 hf ls hl) _ _ hf _ (lv_sub hl [0, 1, 2, 3] rfl)
        · have hf := it_neg c_26 hf
          obtain ⟨v29, e_29, hf⟩ := nm_some hf
          refine lv_iinc (v := v29) (lv' := [(2, .int v29), (0, .ref d_a), (1, .int x1), (3, .int x3)]) hx hb dX1_ribbonsFrom_29 hl (k := 2) rfl (by rw [e_29]; rfl) (by decide) rfl (fun ls hl => ?_)
          exact w_X1_ribbonsFrom_b32 C hP (fun v0 v1 hf ls hl => ih v0 v1 hf ls hl) _ _ hf _ (lv_sub hl [1, 2, 0, 3] rfl)
set_option maxHeartbeats 4000000 in
set_option maxRecDepth 100000 in
theorem w_X1_ribbonsFrom_b0 {p : Program} {l : Launch} {e : Env} {s : State} {m : MethodId} {args : Array Value} {below : List Frame} {meth : Method} {c : Code} {D : va_G} {T : TY} {d_a d_places_a d_froms_a d_tos_a d_widths_a : Nat} {d_places : Nat → Int32} {d_froms : Nat → Int32} {d_tos : Nat → Int32} {d_widths : Nat → Int32} {d_ribbons : Int32} {d_trimmed : Int32} {x1 : Int32} {res : Int32} (C : CX p s m args meth c cX1_ribbonsFrom 4 RX1 wsX1_ribbonsFrom (some .int) D T) (hP : va_P D vwCl [(d_a, .inr (1, [.ref d_places_a, .ref d_froms_a, .ref d_tos_a, .ref d_widths_a, .int d_ribbons, .int d_trimmed])), (d_places_a, .inl (T.1, (16, .inl d_places))), (d_froms_a, .inl (T.1, (20, .inl d_froms))), (d_tos_a, .inl (T.1, (20, .inl d_tos))), (d_widths_a, .inl (T.1, (20, .inl d_widths)))] s.heap) : f_X1_ribbonsFrom d_froms d_tos d_ribbons x1 = some res → ∀ ls : Array Slot, lv_has ls 4 [(0, .ref d_a), (1, .int x1)] → W p l e rmX1_ribbonsFrom s m args below meth c s.heap [] 0 0 (MQ below (Qp (some (.int res))) args s 0 0 (fun _ => False)) (F0 m 0 ls []) := by
  obtain ⟨hx, hb, hml, hown, hts, hr, hlocks, hK, hN⟩ := id C
  intro  hf ls hl
  unfold f_X1_ribbonsFrom at hf
  refine lv_iconst (v := (0 : Int32)) hx hb dX1_ribbonsFrom_0 (by decide) ?_
  refine lv_istore_n (lv' := [(2, .int (0 : Int32)), (0, .ref d_a), (1, .int x1)]) hx hb dX1_ribbonsFrom_1 rfl hl (by decide) rfl (fun ls hl => ?_)
  refine lv_iconst (v := (0 : Int32)) hx hb dX1_ribbonsFrom_2 (by decide) ?_
  refine lv_istore_n (lv' := [(3, .int (0 : Int32)), (2, .int (0 : Int32)), (0, .ref d_a), (1, .int x1)]) hx hb dX1_ribbonsFrom_3 rfl hl (by decide) rfl (fun ls hl => ?_)
  exact w_X1_ribbonsFrom_b4 C hP _ _ _ hf _ (lv_sub hl [2, 3, 1, 0] rfl)
theorem c_X1_ribbonsFrom (l : Launch) (D : va_G) (T : TY) (d_a d_places_a d_froms_a d_tos_a d_widths_a : Nat) (d_places : Nat → Int32) (d_froms : Nat → Int32) (d_tos : Nat → Int32) (d_widths : Nat → Int32) (d_ribbons : Int32) (d_trimmed : Int32) (x1 : Int32) (res : Int32) (hf : f_X1_ribbonsFrom d_froms d_tos d_ribbons x1 = some res) : Met l yX1_ribbonsFrom wsX1_ribbonsFrom rmX1_ribbonsFrom (va_Pc [.ref d_a, .int x1] (PB D T [(d_a, .inr (1, [.ref d_places_a, .ref d_froms_a, .ref d_tos_a, .ref d_widths_a, .int d_ribbons, .int d_trimmed])), (d_places_a, .inl (T.1, (16, .inl d_places))), (d_froms_a, .inl (T.1, (20, .inl d_froms))), (d_tos_a, .inl (T.1, (20, .inl d_tos))), (d_widths_a, .inl (T.1, (20, .inl d_widths)))])) (Qp (some (.int res))) 0 0 (fun _ => False) :=
  metP_of (by decide +kernel) rfl (Nat.le_of_ble_eq_true rfl) (fun p e s m args below meth c C hP ls hl => w_X1_ribbonsFrom_b0 C hP hf ls hl)
def rmX1_ribbonsBack : Room := { frames := 1, cells := 0, slots := 0, locals := 21 }
theorem hdV_X1_ribbonsBack : yX1_ribbonsBack.cls = RX1 ∧ yX1_ribbonsBack.cls ≠ "java/lang/invoke/MethodHandle" ∧ yX1_ribbonsBack.cls ≠ "java/lang/invoke/VarHandle" ∧ (parseMethodDescriptor yX1_ribbonsBack.desc).map (fun d => d.parameters.length) = some 1 := by decide +kernel
theorem iw_X1_ribbonsBack_X1 : ∀ w ∈ wsX10, w ∈ wsX1_ribbonsBack := by decide +kernel
theorem mw_X1_ribbonsBack_0 : Cond.fieldLink RX1 30 "RibbonPosts$Drawing" "ribbons" "I" ∈ wsX1_ribbonsBack := by decide +kernel
set_option maxHeartbeats 4000000 in
set_option maxRecDepth 100000 in
theorem w_X1_ribbonsBack_b53 {p : Program} {l : Launch} {e : Env} {s : State} {m : MethodId} {args : Array Value} {below : List Frame} {meth : Method} {c : Code} {D : va_G} {T : TY} {d_a d_places_a d_froms_a d_tos_a d_widths_a : Nat} {d_places : Nat → Int32} {d_froms : Nat → Int32} {d_tos : Nat → Int32} {d_widths : Nat → Int32} {d_ribbons : Int32} {d_trimmed : Int32} {x1 : Int32} {res : Int32} {K4 : Int32 → Int32 → Option (Int32)} (C : CX p s m args meth c cX1_ribbonsBack 5 RX1 wsX1_ribbonsBack (some .int) D T) (hP : va_P D vwCl [(d_a, .inr (1, [.ref d_places_a, .ref d_froms_a, .ref d_tos_a, .ref d_widths_a, .int d_ribbons, .int d_trimmed])), (d_places_a, .inl (T.1, (16, .inl d_places))), (d_froms_a, .inl (T.1, (20, .inl d_froms))), (d_tos_a, .inl (T.1, (20, .inl d_tos))), (d_widths_a, .inl (T.1, (20, .inl d_widths)))] s.heap) (hK4 : ∀ x2 : Int32, ∀ x3 : Int32, K4 x2 x3 = some res → ∀ ls : Array Slot, lv_has ls 5 [(0, .ref d_a), (1, .int x1), (2, .int x2), (3, .int x3)] → W p l e rmX1_ribbonsBack s m args below meth c s.heap [] 0 0 (MQ below (Qp (some (.int res))) args s 0 0 (fun _ => False)) (F0 m 4 ls [])) : ∀ x2 : Int32, ∀ x3 : Int32, f_X1_ribbonsBack_b53 d_froms d_tos d_ribbons x1 K4 x2 x3 = some res → ∀ ls : Array Slot, lv_has ls 5 [(0, .ref d_a), (1, .int x1), (2, .int x2), (3, .int x3)] → W p l e rmX1_ribbonsBack s m args below meth c s.heap [] 0 0 (MQ below (Qp (some (.int res))) args s 0 0 (fun _ => False)) (F0 m 53 ls []) := by
  obtain ⟨hx, hb, hml, hown, hts, hr, hlocks, hK, hN⟩ := id C
  intro x2 x3 hf ls hl
  unfold f_X1_ribbonsBack_b53 at hf
  obtain ⟨v53, e_53, hf⟩ := nm_some hf
  refine lv_iinc (v := v53) (lv' := [(3, .int v53), (0, .ref d_a), (1, .int x1), (2, .int x2)]) hx hb dX1_ribbonsBack_53 hl (k := 3) rfl (by rw [e_53]; rfl) (by decide) rfl (fun ls hl => ?_)
  refine lv_goto (tgt := 4) hx hb dX1_ribbonsBack_56 (by decide) ?_
  exact hK4 _ _ hf _ (lv_sub hl [1, 2, 3, 0] rfl)
set_option maxHeartbeats 4000000 in
set_option maxRecDepth 100000 in
theorem w_X1_ribbonsBack_b35 {p : Program} {l : Launch} {e : Env} {s : State} {m : MethodId} {args : Array Value} {below : List Frame} {meth : Method} {c : Code} {D : va_G} {T : TY} {d_a d_places_a d_froms_a d_tos_a d_widths_a : Nat} {d_places : Nat → Int32} {d_froms : Nat → Int32} {d_tos : Nat → Int32} {d_widths : Nat → Int32} {d_ribbons : Int32} {d_trimmed : Int32} {x1 : Int32} {res : Int32} {K4 : Int32 → Int32 → Option (Int32)} (C : CX p s m args meth c cX1_ribbonsBack 5 RX1 wsX1_ribbonsBack (some .int) D T) (hP : va_P D vwCl [(d_a, .inr (1, [.ref d_places_a, .ref d_froms_a, .ref d_tos_a, .ref d_widths_a, .int d_ribbons, .int d_trimmed])), (d_places_a, .inl (T.1, (16, .inl d_places))), (d_froms_a, .inl (T.1, (20, .inl d_froms))), (d_tos_a, .inl (T.1, (20, .inl d_tos))), (d_widths_a, .inl (T.1, (20, .inl d_widths)))] s.heap) (hK4 : ∀ x2 : Int32, ∀ x3 : Int32, K4 x2 x3 = some res → ∀ ls : Array Slot, lv_has ls 5 [(0, .ref d_a), (1, .int x1), (2, .int x2), (3, .int x3)] → W p l e rmX1_ribbonsBack s m args below meth c s.heap [] 0 0 (MQ below (Qp (some (.int res))) args s 0 0 (fun _ => False)) (F0 m 4 ls [])) : ∀ s0 : Int32, ∀ x2 : Int32, ∀ x3 : Int32, f_X1_ribbonsBack_b35 d_froms d_tos d_ribbons x1 K4 s0 x2 x3 = some res → ∀ ls : Array Slot, lv_has ls 5 [(0, .ref d_a), (1, .int x1), (2, .int x2), (3, .int x3)] → W p l e rmX1_ribbonsBack s m args below meth c s.heap [] 0 0 (MQ below (Qp (some (.int res))) args s 0 0 (fun _ => False)) (F0 m 35 ls [.int s0]) := by
  obtain ⟨hx, hb, hml, hown, hts, hr, hlocks, hK, hN⟩ := id C
  intro s0 x2 x3 hf ls hl
  unfold f_X1_ribbonsBack_b35 at hf
  refine lv_istore (lv' := [(4, .int s0), (0, .ref d_a), (1, .int x1), (2, .int x2), (3, .int x3)]) hx hb dX1_ribbonsBack_35 hl (by decide) rfl (fun ls hl => ?_)
  refine lv_iload hx hb dX1_ribbonsBack_37 (lv_at hl 0 rfl) ?_
  refine lv_if_eq (tgt := 53) hx hb dX1_ribbonsBack_39 (by decide) (fun c_39 => ?_) (fun c_39 => ?_)
  · have hf := it_pos c_39 hf
    exact w_X1_ribbonsBack_b53 C hP hK4 _ _ hf _ (lv_sub hl [1, 2, 3, 4] rfl)
  · have hf := it_neg c_39 hf
    refine lv_aload_n hx hb dX1_ribbonsBack_42 rfl (lv_at hl 1 rfl) ?_
    refine lv_iload_n hx hb dX1_ribbonsBack_43 rfl (lv_at hl 4 rfl) ?_
    obtain ⟨q44, e_44, hf⟩ := bd_some hf
    refine callPi (va_runV (As := [.int x3]) (rest := []) ⟨hx, hb, hml, hown, hts⟩ (c_X1_goesOn l D T d_a d_places_a d_froms_a d_tos_a d_widths_a d_places d_froms d_tos d_widths d_ribbons d_trimmed x3 q44 e_44) (cwV 1 hts gX1_ribbonsBack_X1_goesOn rfl rfl rfl hdV_X1_goesOn ⟨Nat.le_of_ble_eq_true rfl, Nat.le_of_ble_eq_true rfl⟩) (preBV hP hK hN rfl 0 rfl) rfl rfl hl.1 rfl (lv_room (Nat.le_of_ble_eq_true rfl)) dX1_ribbonsBack_44 ⟨Nat.le_of_ble_eq_true rfl, Nat.le_of_ble_eq_true rfl⟩) ?_
    refine lv_if_ne (tgt := 53) hx hb dX1_ribbonsBack_47 (by decide) (fun c_47 => ?_) (fun c_47 => ?_)
    · have hf := it_neg c_47 hf
      exact w_X1_ribbonsBack_b53 C hP hK4 _ _ hf _ (lv_sub hl [1, 2, 3, 4] rfl)
    · have hf := it_pos c_47 hf
      obtain ⟨v50, e_50, hf⟩ := nm_some hf
      refine lv_iinc (v := v50) (lv' := [(2, .int v50), (4, .int s0), (0, .ref d_a), (1, .int x1), (3, .int x3)]) hx hb dX1_ribbonsBack_50 hl (k := 3) rfl (by rw [e_50]; rfl) (by decide) rfl (fun ls hl => ?_)
      exact w_X1_ribbonsBack_b53 C hP hK4 _ _ hf _ (lv_sub hl [2, 3, 0, 4] rfl)
set_option maxHeartbeats 4000000 in
set_option maxRecDepth 100000 in
theorem w_X1_ribbonsBack_b30 {p : Program} {l : Launch} {e : Env} {s : State} {m : MethodId} {args : Array Value} {below : List Frame} {meth : Method} {c : Code} {D : va_G} {T : TY} {d_a d_places_a d_froms_a d_tos_a d_widths_a : Nat} {d_places : Nat → Int32} {d_froms : Nat → Int32} {d_tos : Nat → Int32} {d_widths : Nat → Int32} {d_ribbons : Int32} {d_trimmed : Int32} {x1 : Int32} {res : Int32} {K4 : Int32 → Int32 → Option (Int32)} (C : CX p s m args meth c cX1_ribbonsBack 5 RX1 wsX1_ribbonsBack (some .int) D T) (hP : va_P D vwCl [(d_a, .inr (1, [.ref d_places_a, .ref d_froms_a, .ref d_tos_a, .ref d_widths_a, .int d_ribbons, .int d_trimmed])), (d_places_a, .inl (T.1, (16, .inl d_places))), (d_froms_a, .inl (T.1, (20, .inl d_froms))), (d_tos_a, .inl (T.1, (20, .inl d_tos))), (d_widths_a, .inl (T.1, (20, .inl d_widths)))] s.heap) (hK4 : ∀ x2 : Int32, ∀ x3 : Int32, K4 x2 x3 = some res → ∀ ls : Array Slot, lv_has ls 5 [(0, .ref d_a), (1, .int x1), (2, .int x2), (3, .int x3)] → W p l e rmX1_ribbonsBack s m args below meth c s.heap [] 0 0 (MQ below (Qp (some (.int res))) args s 0 0 (fun _ => False)) (F0 m 4 ls [])) : ∀ x2 : Int32, ∀ x3 : Int32, f_X1_ribbonsBack_b30 d_froms d_tos d_ribbons x1 K4 x2 x3 = some res → ∀ ls : Array Slot, lv_has ls 5 [(0, .ref d_a), (1, .int x1), (2, .int x2), (3, .int x3)] → W p l e rmX1_ribbonsBack s m args below meth c s.heap [] 0 0 (MQ below (Qp (some (.int res))) args s 0 0 (fun _ => False)) (F0 m 30 ls []) := by
  obtain ⟨hx, hb, hml, hown, hts, hr, hlocks, hK, hN⟩ := id C
  intro x2 x3 hf ls hl
  unfold f_X1_ribbonsBack_b30 at hf
  refine lv_iconst (v := (1 : Int32)) hx hb dX1_ribbonsBack_30 (by decide) ?_
  refine lv_goto (tgt := 35) hx hb dX1_ribbonsBack_31 (by decide) ?_
  exact w_X1_ribbonsBack_b35 C hP hK4 _ _ _ hf _ (lv_sub hl [0, 1, 2, 3] rfl)
set_option maxHeartbeats 4000000 in
set_option maxRecDepth 100000 in
theorem w_X1_ribbonsBack_b4 {p : Program} {l : Launch} {e : Env} {s : State} {m : MethodId} {args : Array Value} {below : List Frame} {meth : Method} {c : Code} {D : va_G} {T : TY} {d_a d_places_a d_froms_a d_tos_a d_widths_a : Nat} {d_places : Nat → Int32} {d_froms : Nat → Int32} {d_tos : Nat → Int32} {d_widths : Nat → Int32} {d_ribbons : Int32} {d_trimmed : Int32} {x1 : Int32} {res : Int32} (C : CX p s m args meth c cX1_ribbonsBack 5 RX1 wsX1_ribbonsBack (some .int) D T) (hP : va_P D vwCl [(d_a, .inr (1, [.ref d_places_a, .ref d_froms_a, .ref d_tos_a, .ref d_widths_a, .int d_ribbons, .int d_trimmed])), (d_places_a, .inl (T.1, (16, .inl d_places))), (d_froms_a, .inl (T.1, (20, .inl d_froms))), (d_tos_a, .inl (T.1, (20, .inl d_tos))), (d_widths_a, .inl (T.1, (20, .inl d_widths)))] s.heap) : ∀ F : Nat, ∀ x2 : Int32, ∀ x3 : Int32, f_X1_ribbonsBack_b4 d_froms d_tos d_ribbons x1 F x2 x3 = some res → ∀ ls : Array Slot, lv_has ls 5 [(0, .ref d_a), (1, .int x1), (2, .int x2), (3, .int x3)] → W p l e rmX1_ribbonsBack s m args below meth c s.heap [] 0 0 (MQ below (Qp (some (.int res))) args s 0 0 (fun _ => False)) (F0 m 4 ls []) := by
  obtain ⟨hx, hb, hml, hown, hts, hr, hlocks, hK, hN⟩ := id C
  intro F
  induction F with
  | zero => intro _ _ hf; cases hf
  | succ F ih =>
    intro x2 x3 hf ls hl
    unfold f_X1_ribbonsBack_b4 at hf
    refine lv_iload_n hx hb dX1_ribbonsBack_4 rfl (lv_at hl 3 rfl) ?_
    refine lv_aload_n hx hb dX1_ribbonsBack_5 rfl (lv_at hl 0 rfl) ?_
    refine va_get (D := D) (ci := 1) (v := .int d_ribbons) (C := RX1) (T := TX1) (N := 6) hx hb hts iw_X1_ribbonsBack_X1 hown hK hP 0 rfl rfl 4 (by decide) (hts (.fieldLink RX1 30 "RibbonPosts$Drawing" "ribbons" "I") mw_X1_ribbonsBack_0) (fun _ h9 => h9) rfl dX1_ribbonsBack_6 ?_
    refine lv_icmp_ge (tgt := 59) hx hb dX1_ribbonsBack_9 (by decide) (fun c_9 => ?_) (fun c_9 => ?_)
    · have hf := it_pos c_9 hf
      refine lv_iload_n hx hb dX1_ribbonsBack_59 rfl (lv_at hl 2 rfl) ?_
      obtain rfl := Option.some.inj hf
      exact W.iret hx hb hr (fun t ht hW => ⟨rfl, ht⟩) (fun q hq => absurd hq List.not_mem_nil) dX1_ribbonsBack_60 hlocks
    · have hf := it_neg c_9 hf
      refine lv_aload_n hx hb dX1_ribbonsBack_12 rfl (lv_at hl 0 rfl) ?_
      refine lv_iload_n hx hb dX1_ribbonsBack_13 rfl (lv_at hl 3 rfl) ?_
      obtain ⟨q14, e_14, hf⟩ := bd_some hf
      refine callPi (va_runV (As := [.int x3]) (rest := []) ⟨hx, hb, hml, hown, hts⟩ (c_X1_fromOf l D T d_a d_places_a d_froms_a d_tos_a d_widths_a d_places d_froms d_tos d_widths d_ribbons d_trimmed x3 q14 e_14) (cwV 1 hts gX1_ribbonsBack_X1_fromOf rfl rfl rfl hdV_X1_fromOf ⟨Nat.le_of_ble_eq_true rfl, Nat.le_of_ble_eq_true rfl⟩) (preBV hP hK hN rfl 0 rfl) rfl rfl hl.1 rfl (lv_room (Nat.le_of_ble_eq_true rfl)) dX1_ribbonsBack_14 ⟨Nat.le_of_ble_eq_true rfl, Nat.le_of_ble_eq_true rfl⟩) ?_
      refine lv_iload_n hx hb dX1_ribbonsBack_17 rfl (lv_at hl 1 rfl) ?_
      refine lv_icmp_eq (tgt := 30) hx hb dX1_ribbonsBack_18 (by decide) (fun c_18 => ?_) (fun c_18 => ?_)
      · have hf := it_pos c_18 hf
        exact w_X1_ribbonsBack_b30 C hP (fun v0 v1 hf ls hl => ih v0 v1 hf ls hl) _ _ hf _ (lv_sub hl [0, 1, 2, 3] rfl)
      · have hf := it_neg c_18 hf
        refine lv_aload_n hx hb dX1_ribbonsBack_21 rfl (lv_at hl 0 rfl) ?_
        refine lv_iload_n hx hb dX1_ribbonsBack_22 rfl (lv_at hl 3 rfl) ?_
        obtain ⟨q23, e_23, hf⟩ := bd_some hf
        refine callPi (va_runV (As := [.int x3]) (rest := []) ⟨hx, hb, hml, hown, hts⟩ (c_X1_toOf l D T d_a d_places_a d_froms_a d_tos_a d_widths_a d_places d_froms d_tos d_widths d_ribbons d_trimmed x3 q23 e_23) (cwV 1 hts gX1_ribbonsBack_X1_toOf rfl rfl rfl hdV_X1_toOf ⟨Nat.le_of_ble_eq_true rfl, Nat.le_of_ble_eq_true rfl⟩) (preBV hP hK hN rfl 0 rfl) rfl rfl hl.1 rfl (lv_room (Nat.le_of_ble_eq_true rfl)) dX1_ribbonsBack_23 ⟨Nat.le_of_ble_eq_true rfl, Nat.le_of_ble_eq_true rfl⟩) ?_
        refine lv_iload_n hx hb dX1_ribbonsBack_26 rfl (lv_at hl 1 rfl) ?_
        refine lv_icmp_ne (tgt := 34) hx hb dX1_ribbonsBack_27 (by decide) (fun c_27 => ?_) (fun c_27 => ?_)
        · have hf := it_neg c_27 hf
          refine lv_iconst (v := (0 : Int32)) hx hb dX1_ribbonsBack_34 (by decide) ?_
          exact w_X1_ribbonsBack_b35 C hP (fun v0 v1 hf ls hl => ih v0 v1 hf ls hl) _ _ _ hf _ (lv_sub hl [0, 1, 2, 3] rfl)
        · have hf := it_pos c_27 hf
          exact w_X1_ribbonsBack_b30 C hP (fun v0 v1 hf ls hl => ih v0 v1 hf ls hl) _ _ hf _ (lv_sub hl [0, 1, 2, 3] rfl)
set_option maxHeartbeats 4000000 in
set_option maxRecDepth 100000 in
theorem w_X1_ribbonsBack_b0 {p : Program} {l : Launch} {e : Env} {s : State} {m : MethodId} {args : Array Value} {below : List Frame} {meth : Method} {c : Code} {D : va_G} {T : TY} {d_a d_places_a d_froms_a d_tos_a d_widths_a : Nat} {d_places : Nat → Int32} {d_froms : Nat → Int32} {d_tos : Nat → Int32} {d_widths : Nat → Int32} {d_ribbons : Int32} {d_trimmed : Int32} {x1 : Int32} {res : Int32} (C : CX p s m args meth c cX1_ribbonsBack 5 RX1 wsX1_ribbonsBack (some .int) D T) (hP : va_P D vwCl [(d_a, .inr (1, [.ref d_places_a, .ref d_froms_a, .ref d_tos_a, .ref d_widths_a, .int d_ribbons, .int d_trimmed])), (d_places_a, .inl (T.1, (16, .inl d_places))), (d_froms_a, .inl (T.1, (20, .inl d_froms))), (d_tos_a, .inl (T.1, (20, .inl d_tos))), (d_widths_a, .inl (T.1, (20, .inl d_widths)))] s.heap) : f_X1_ribbonsBack d_froms d_tos d_ribbons x1 = some res → ∀ ls : Array Slot, lv_has ls 5 [(0, .ref d_a), (1, .int x1)] → W p l e rmX1_ribbonsBack s m args below meth c s.heap [] 0 0 (MQ below (Qp (some (.int res))) args s 0 0 (fun _ => False)) (F0 m 0 ls []) := by
  obtain ⟨hx, hb, hml, hown, hts, hr, hlocks, hK, hN⟩ := id C
  intro  hf ls hl
  unfold f_X1_ribbonsBack at hf
  refine lv_iconst (v := (0 : Int32)) hx hb dX1_ribbonsBack_0 (by decide) ?_
  refine lv_istore_n (lv' := [(2, .int (0 : Int32)), (0, .ref d_a), (1, .int x1)]) hx hb dX1_ribbonsBack_1 rfl hl (by decide) rfl (fun ls hl => ?_)
  refine lv_iconst (v := (0 : Int32)) hx hb dX1_ribbonsBack_2 (by decide) ?_
  refine lv_istore_n (lv' := [(3, .int (0 : Int32)), (2, .int (0 : Int32)), (0, .ref d_a), (1, .int x1)]) hx hb dX1_ribbonsBack_3 rfl hl (by decide) rfl (fun ls hl => ?_)
  exact w_X1_ribbonsBack_b4 C hP _ _ _ hf _ (lv_sub hl [2, 3, 1, 0] rfl)
theorem c_X1_ribbonsBack (l : Launch) (D : va_G) (T : TY) (d_a d_places_a d_froms_a d_tos_a d_widths_a : Nat) (d_places : Nat → Int32) (d_froms : Nat → Int32) (d_tos : Nat → Int32) (d_widths : Nat → Int32) (d_ribbons : Int32) (d_trimmed : Int32) (x1 : Int32) (res : Int32) (hf : f_X1_ribbonsBack d_froms d_tos d_ribbons x1 = some res) : Met l yX1_ribbonsBack wsX1_ribbonsBack rmX1_ribbonsBack (va_Pc [.ref d_a, .int x1] (PB D T [(d_a, .inr (1, [.ref d_places_a, .ref d_froms_a, .ref d_tos_a, .ref d_widths_a, .int d_ribbons, .int d_trimmed])), (d_places_a, .inl (T.1, (16, .inl d_places))), (d_froms_a, .inl (T.1, (20, .inl d_froms))), (d_tos_a, .inl (T.1, (20, .inl d_tos))), (d_widths_a, .inl (T.1, (20, .inl d_widths)))])) (Qp (some (.int res))) 0 0 (fun _ => False) :=
  metP_of (by decide +kernel) rfl (Nat.le_of_ble_eq_true rfl) (fun p e s m args below meth c C hP ls hl => w_X1_ribbonsBack_b0 C hP hf ls hl)
def rmX1_ribbonsAcross : Room := { frames := 3, cells := 0, slots := 0, locals := 70 }
theorem hdV_X1_ribbonsAcross : yX1_ribbonsAcross.cls = RX1 ∧ yX1_ribbonsAcross.cls ≠ "java/lang/invoke/MethodHandle" ∧ yX1_ribbonsAcross.cls ≠ "java/lang/invoke/VarHandle" ∧ (parseMethodDescriptor yX1_ribbonsAcross.desc).map (fun d => d.parameters.length) = some 1 := by decide +kernel
theorem iw_X1_ribbonsAcross_X1 : ∀ w ∈ wsX10, w ∈ wsX1_ribbonsAcross := by decide +kernel
theorem mw_X1_ribbonsAcross_0 : Cond.fieldLink RX1 30 "RibbonPosts$Drawing" "ribbons" "I" ∈ wsX1_ribbonsAcross := by decide +kernel
set_option maxHeartbeats 4000000 in
set_option maxRecDepth 100000 in
theorem w_X1_ribbonsAcross_b24 {p : Program} {l : Launch} {e : Env} {s : State} {m : MethodId} {args : Array Value} {below : List Frame} {meth : Method} {c : Code} {D : va_G} {T : TY} {d_a d_places_a d_froms_a d_tos_a d_widths_a : Nat} {d_places : Nat → Int32} {d_froms : Nat → Int32} {d_tos : Nat → Int32} {d_widths : Nat → Int32} {d_ribbons : Int32} {d_trimmed : Int32} {x1 : Int32} {res : Int32} {K4 : Int32 → Int32 → Option (Int32)} (C : CX p s m args meth c cX1_ribbonsAcross 4 RX1 wsX1_ribbonsAcross (some .int) D T) (hP : va_P D vwCl [(d_a, .inr (1, [.ref d_places_a, .ref d_froms_a, .ref d_tos_a, .ref d_widths_a, .int d_ribbons, .int d_trimmed])), (d_places_a, .inl (T.1, (16, .inl d_places))), (d_froms_a, .inl (T.1, (20, .inl d_froms))), (d_tos_a, .inl (T.1, (20, .inl d_tos))), (d_widths_a, .inl (T.1, (20, .inl d_widths)))] s.heap) (hK4 : ∀ x2 : Int32, ∀ x3 : Int32, K4 x2 x3 = some res → ∀ ls : Array Slot, lv_has ls 4 [(0, .ref d_a), (1, .int x1), (2, .int x2), (3, .int x3)] → W p l e rmX1_ribbonsAcross s m args below meth c s.heap [] 0 0 (MQ below (Qp (some (.int res))) args s 0 0 (fun _ => False)) (F0 m 4 ls [])) : ∀ x2 : Int32, ∀ x3 : Int32, f_X1_ribbonsAcross_b24 d_places d_froms d_tos d_ribbons x1 K4 x2 x3 = some res → ∀ ls : Array Slot, lv_has ls 4 [(0, .ref d_a), (1, .int x1), (2, .int x2), (3, .int x3)] → W p l e rmX1_ribbonsAcross s m args below meth c s.heap [] 0 0 (MQ below (Qp (some (.int res))) args s 0 0 (fun _ => False)) (F0 m 24 ls []) := by
  obtain ⟨hx, hb, hml, hown, hts, hr, hlocks, hK, hN⟩ := id C
  intro x2 x3 hf ls hl
  unfold f_X1_ribbonsAcross_b24 at hf
  obtain ⟨v24, e_24, hf⟩ := nm_some hf
  refine lv_iinc (v := v24) (lv' := [(3, .int v24), (0, .ref d_a), (1, .int x1), (2, .int x2)]) hx hb dX1_ribbonsAcross_24 hl (k := 3) rfl (by rw [e_24]; rfl) (by decide) rfl (fun ls hl => ?_)
  refine lv_goto (tgt := 4) hx hb dX1_ribbonsAcross_27 (by decide) ?_
  exact hK4 _ _ hf _ (lv_sub hl [1, 2, 3, 0] rfl)
set_option maxHeartbeats 4000000 in
set_option maxRecDepth 100000 in
theorem w_X1_ribbonsAcross_b4 {p : Program} {l : Launch} {e : Env} {s : State} {m : MethodId} {args : Array Value} {below : List Frame} {meth : Method} {c : Code} {D : va_G} {T : TY} {d_a d_places_a d_froms_a d_tos_a d_widths_a : Nat} {d_places : Nat → Int32} {d_froms : Nat → Int32} {d_tos : Nat → Int32} {d_widths : Nat → Int32} {d_ribbons : Int32} {d_trimmed : Int32} {x1 : Int32} {res : Int32} (C : CX p s m args meth c cX1_ribbonsAcross 4 RX1 wsX1_ribbonsAcross (some .int) D T) (hP : va_P D vwCl [(d_a, .inr (1, [.ref d_places_a, .ref d_froms_a, .ref d_tos_a, .ref d_widths_a, .int d_ribbons, .int d_trimmed])), (d_places_a, .inl (T.1, (16, .inl d_places))), (d_froms_a, .inl (T.1, (20, .inl d_froms))), (d_tos_a, .inl (T.1, (20, .inl d_tos))), (d_widths_a, .inl (T.1, (20, .inl d_widths)))] s.heap) : ∀ F : Nat, ∀ x2 : Int32, ∀ x3 : Int32, f_X1_ribbonsAcross_b4 d_places d_froms d_tos d_ribbons x1 F x2 x3 = some res → ∀ ls : Array Slot, lv_has ls 4 [(0, .ref d_a), (1, .int x1), (2, .int x2), (3, .int x3)] → W p l e rmX1_ribbonsAcross s m args below meth c s.heap [] 0 0 (MQ below (Qp (some (.int res))) args s 0 0 (fun _ => False)) (F0 m 4 ls []) := by
  obtain ⟨hx, hb, hml, hown, hts, hr, hlocks, hK, hN⟩ := id C
  intro F
  induction F with
  | zero => intro _ _ hf; cases hf
  | succ F ih =>
    intro x2 x3 hf ls hl
    unfold f_X1_ribbonsAcross_b4 at hf
    refine lv_iload_n hx hb dX1_ribbonsAcross_4 rfl (lv_at hl 3 rfl) ?_
    refine lv_aload_n hx hb dX1_ribbonsAcross_5 rfl (lv_at hl 0 rfl) ?_
    refine va_get (D := D) (ci := 1) (v := .int d_ribbons) (C := RX1) (T := TX1) (N := 6) hx hb hts iw_X1_ribbonsAcross_X1 hown hK hP 0 rfl rfl 4 (by decide) (hts (.fieldLink RX1 30 "RibbonPosts$Drawing" "ribbons" "I") mw_X1_ribbonsAcross_0) (fun _ h9 => h9) rfl dX1_ribbonsAcross_6 ?_
    refine lv_icmp_ge (tgt := 30) hx hb dX1_ribbonsAcross_9 (by decide) (fun c_9 => ?_) (fun c_9 => ?_)
    · have hf := it_pos c_9 hf
      refine lv_iload_n hx hb dX1_ribbonsAcross_30 rfl (lv_at hl 2 rfl) ?_
      obtain rfl := Option.some.inj hf
      exact W.iret hx hb hr (fun t ht hW => ⟨rfl, ht⟩) (fun q hq => absurd hq List.not_mem_nil) dX1_ribbonsAcross_31 hlocks
    · have hf := it_neg c_9 hf
      refine lv_aload_n hx hb dX1_ribbonsAcross_12 rfl (lv_at hl 0 rfl) ?_
      refine lv_iload_n hx hb dX1_ribbonsAcross_13 rfl (lv_at hl 1 rfl) ?_
      refine lv_iload_n hx hb dX1_ribbonsAcross_14 rfl (lv_at hl 3 rfl) ?_
      obtain ⟨q15, e_15, hf⟩ := bd_some hf
      refine callPi (va_runV (As := [.int x1, .int x3]) (rest := []) ⟨hx, hb, hml, hown, hts⟩ (c_X1_cross l D T d_a d_places_a d_froms_a d_tos_a d_widths_a d_places d_froms d_tos d_widths d_ribbons d_trimmed x1 x3 q15 e_15) (cwV 2 hts gX1_ribbonsAcross_X1_cross rfl rfl rfl hdV_X1_cross ⟨Nat.le_of_ble_eq_true rfl, Nat.le_of_ble_eq_true rfl⟩) (preBV hP hK hN rfl 0 rfl) rfl rfl hl.1 rfl (lv_room (Nat.le_of_ble_eq_true rfl)) dX1_ribbonsAcross_15 ⟨Nat.le_of_ble_eq_true rfl, Nat.le_of_ble_eq_true rfl⟩) ?_
      refine lv_if_eq (tgt := 24) hx hb dX1_ribbonsAcross_18 (by decide) (fun c_18 => ?_) (fun c_18 => ?_)
      · have hf := it_pos c_18 hf
        exact w_X1_ribbonsAcross_b24 C hP (fun v0 v1 hf ls hl => ih v0 v1 hf ls hl) _ _ hf _ (lv_sub hl [0, 1, 2, 3] rfl)
      · have hf := it_neg c_18 hf
        obtain ⟨v21, e_21, hf⟩ := nm_some hf
        refine lv_iinc (v := v21) (lv' := [(2, .int v21), (0, .ref d_a), (1, .int x1), (3, .int x3)]) hx hb dX1_ribbonsAcross_21 hl (k := 2) rfl (by rw [e_21]; rfl) (by decide) rfl (fun ls hl => ?_)
        exact w_X1_ribbonsAcross_b24 C hP (fun v0 v1 hf ls hl => ih v0 v1 hf ls hl) _ _ hf _ (lv_sub hl [1, 2, 0, 3] rfl)
set_option maxHeartbeats 4000000 in
set_option maxRecDepth 100000 in
theorem w_X1_ribbonsAcross_b0 {p : Program} {l : Launch} {e : Env} {s : State} {m : MethodId} {args : Array Value} {below : List Frame} {meth : Method} {c : Code} {D : va_G} {T : TY} {d_a d_places_a d_froms_a d_tos_a d_widths_a : Nat} {d_places : Nat → Int32} {d_froms : Nat → Int32} {d_tos : Nat → Int32} {d_widths : Nat → Int32} {d_ribbons : Int32} {d_trimmed : Int32} {x1 : Int32} {res : Int32} (C : CX p s m args meth c cX1_ribbonsAcross 4 RX1 wsX1_ribbonsAcross (some .int) D T) (hP : va_P D vwCl [(d_a, .inr (1, [.ref d_places_a, .ref d_froms_a, .ref d_tos_a, .ref d_widths_a, .int d_ribbons, .int d_trimmed])), (d_places_a, .inl (T.1, (16, .inl d_places))), (d_froms_a, .inl (T.1, (20, .inl d_froms))), (d_tos_a, .inl (T.1, (20, .inl d_tos))), (d_widths_a, .inl (T.1, (20, .inl d_widths)))] s.heap) : f_X1_ribbonsAcross d_places d_froms d_tos d_ribbons x1 = some res → ∀ ls : Array Slot, lv_has ls 4 [(0, .ref d_a), (1, .int x1)] → W p l e rmX1_ribbonsAcross s m args below meth c s.heap [] 0 0 (MQ below (Qp (some (.int res))) args s 0 0 (fun _ => False)) (F0 m 0 ls []) := by
  obtain ⟨hx, hb, hml, hown, hts, hr, hlocks, hK, hN⟩ := id C
  intro  hf ls hl
  unfold f_X1_ribbonsAcross at hf
  refine lv_iconst (v := (0 : Int32)) hx hb dX1_ribbonsAcross_0 (by decide) ?_
  refine lv_istore_n (lv' := [(2, .int (0 : Int32)), (0, .ref d_a), (1, .int x1)]) hx hb dX1_ribbonsAcross_1 rfl hl (by decide) rfl (fun ls hl => ?_)
  refine lv_iconst (v := (0 : Int32)) hx hb dX1_ribbonsAcross_2 (by decide) ?_
  refine lv_istore_n (lv' := [(3, .int (0 : Int32)), (2, .int (0 : Int32)), (0, .ref d_a), (1, .int x1)]) hx hb dX1_ribbonsAcross_3 rfl hl (by decide) rfl (fun ls hl => ?_)
  exact w_X1_ribbonsAcross_b4 C hP _ _ _ hf _ (lv_sub hl [2, 3, 1, 0] rfl)
theorem c_X1_ribbonsAcross (l : Launch) (D : va_G) (T : TY) (d_a d_places_a d_froms_a d_tos_a d_widths_a : Nat) (d_places : Nat → Int32) (d_froms : Nat → Int32) (d_tos : Nat → Int32) (d_widths : Nat → Int32) (d_ribbons : Int32) (d_trimmed : Int32) (x1 : Int32) (res : Int32) (hf : f_X1_ribbonsAcross d_places d_froms d_tos d_ribbons x1 = some res) : Met l yX1_ribbonsAcross wsX1_ribbonsAcross rmX1_ribbonsAcross (va_Pc [.ref d_a, .int x1] (PB D T [(d_a, .inr (1, [.ref d_places_a, .ref d_froms_a, .ref d_tos_a, .ref d_widths_a, .int d_ribbons, .int d_trimmed])), (d_places_a, .inl (T.1, (16, .inl d_places))), (d_froms_a, .inl (T.1, (20, .inl d_froms))), (d_tos_a, .inl (T.1, (20, .inl d_tos))), (d_widths_a, .inl (T.1, (20, .inl d_widths)))])) (Qp (some (.int res))) 0 0 (fun _ => False) :=
  metP_of (by decide +kernel) rfl (Nat.le_of_ble_eq_true rfl) (fun p e s m args below meth c C hP ls hl => w_X1_ribbonsAcross_b0 C hP hf ls hl)
def rmX1_allWidths : Room := { frames := 1, cells := 0, slots := 0, locals := 21 }
theorem hdV_X1_allWidths : yX1_allWidths.cls = RX1 ∧ yX1_allWidths.cls ≠ "java/lang/invoke/MethodHandle" ∧ yX1_allWidths.cls ≠ "java/lang/invoke/VarHandle" ∧ (parseMethodDescriptor yX1_allWidths.desc).map (fun d => d.parameters.length) = some 0 := by decide +kernel
theorem iw_X1_allWidths_X1 : ∀ w ∈ wsX10, w ∈ wsX1_allWidths := by decide +kernel
theorem mw_X1_allWidths_0 : Cond.fieldLink RX1 30 "RibbonPosts$Drawing" "ribbons" "I" ∈ wsX1_allWidths := by decide +kernel
set_option maxHeartbeats 4000000 in
set_option maxRecDepth 100000 in
theorem w_X1_allWidths_b4 {p : Program} {l : Launch} {e : Env} {s : State} {m : MethodId} {args : Array Value} {below : List Frame} {meth : Method} {c : Code} {D : va_G} {T : TY} {d_a d_places_a d_froms_a d_tos_a d_widths_a : Nat} {d_places : Nat → Int32} {d_froms : Nat → Int32} {d_tos : Nat → Int32} {d_widths : Nat → Int32} {d_ribbons : Int32} {d_trimmed : Int32} {res : Int32} (C : CX p s m args meth c cX1_allWidths 3 RX1 wsX1_allWidths (some .int) D T) (hP : va_P D vwCl [(d_a, .inr (1, [.ref d_places_a, .ref d_froms_a, .ref d_tos_a, .ref d_widths_a, .int d_ribbons, .int d_trimmed])), (d_places_a, .inl (T.1, (16, .inl d_places))), (d_froms_a, .inl (T.1, (20, .inl d_froms))), (d_tos_a, .inl (T.1, (20, .inl d_tos))), (d_widths_a, .inl (T.1, (20, .inl d_widths)))] s.heap) : ∀ F : Nat, ∀ x1 : Int32, ∀ x2 : Int32, f_X1_allWidths_b4 d_widths d_ribbons F x1 x2 = some res → ∀ ls : Array Slot, lv_has ls 3 [(0, .ref d_a), (1, .int x1), (2, .int x2)] → W p l e rmX1_allWidths s m args below meth c s.heap [] 0 0 (MQ below (Qp (some (.int res))) args s 0 0 (fun _ => False)) (F0 m 4 ls []) := by
  obtain ⟨hx, hb, hml, hown, hts, hr, hlocks, hK, hN⟩ := id C
  intro F
  induction F with
  | zero => intro _ _ hf; cases hf
  | succ F ih =>
    intro x1 x2 hf ls hl
    unfold f_X1_allWidths_b4 at hf
    refine lv_iload_n hx hb dX1_allWidths_4 rfl (lv_at hl 2 rfl) ?_
    refine lv_aload_n hx hb dX1_allWidths_5 rfl (lv_at hl 0 rfl) ?_
    refine va_get (D := D) (ci := 1) (v := .int d_ribbons) (C := RX1) (T := TX1) (N := 6) hx hb hts iw_X1_allWidths_X1 hown hK hP 0 rfl rfl 4 (by decide) (hts (.fieldLink RX1 30 "RibbonPosts$Drawing" "ribbons" "I") mw_X1_allWidths_0) (fun _ h9 => h9) rfl dX1_allWidths_6 ?_
    refine lv_icmp_ge (tgt := 26) hx hb dX1_allWidths_9 (by decide) (fun c_9 => ?_) (fun c_9 => ?_)
    · have hf := it_pos c_9 hf
      refine lv_iload_n hx hb dX1_allWidths_26 rfl (lv_at hl 1 rfl) ?_
      obtain rfl := Option.some.inj hf
      exact W.iret hx hb hr (fun t ht hW => ⟨rfl, ht⟩) (fun q hq => absurd hq List.not_mem_nil) dX1_allWidths_27 hlocks
    · have hf := it_neg c_9 hf
      refine lv_iload_n hx hb dX1_allWidths_12 rfl (lv_at hl 1 rfl) ?_
      refine lv_aload_n hx hb dX1_allWidths_13 rfl (lv_at hl 0 rfl) ?_
      refine lv_iload_n hx hb dX1_allWidths_14 rfl (lv_at hl 2 rfl) ?_
      obtain ⟨q15, e_15, hf⟩ := bd_some hf
      refine callPi (va_runV (As := [.int x2]) (rest := [.int x1]) ⟨hx, hb, hml, hown, hts⟩ (c_X1_widthOf l D T d_a d_places_a d_froms_a d_tos_a d_widths_a d_places d_froms d_tos d_widths d_ribbons d_trimmed x2 q15 e_15) (cwV 1 hts gX1_allWidths_X1_widthOf rfl rfl rfl hdV_X1_widthOf ⟨Nat.le_of_ble_eq_true rfl, Nat.le_of_ble_eq_true rfl⟩) (preBV hP hK hN rfl 0 rfl) rfl rfl hl.1 rfl (lv_room (Nat.le_of_ble_eq_true rfl)) dX1_allWidths_15 ⟨Nat.le_of_ble_eq_true rfl, Nat.le_of_ble_eq_true rfl⟩) ?_
      refine lv_iadd hx hb dX1_allWidths_18 ?_
      obtain ⟨v19, e_19, hf⟩ := nm_some hf
      refine lv_nmi e_19 ?_
      refine lv_istore_n (lv' := [(1, .int v19), (0, .ref d_a), (2, .int x2)]) hx hb dX1_allWidths_19 rfl hl (by decide) rfl (fun ls hl => ?_)
      obtain ⟨v20, e_20, hf⟩ := nm_some hf
      refine lv_iinc (v := v20) (lv' := [(2, .int v20), (1, .int v19), (0, .ref d_a)]) hx hb dX1_allWidths_20 hl (k := 2) rfl (by rw [e_20]; rfl) (by decide) rfl (fun ls hl => ?_)
      refine lv_goto (tgt := 4) hx hb dX1_allWidths_23 (by decide) ?_
      exact ih _ _ hf _ (lv_sub hl [2, 1, 0] rfl)
set_option maxHeartbeats 4000000 in
set_option maxRecDepth 100000 in
theorem w_X1_allWidths_b0 {p : Program} {l : Launch} {e : Env} {s : State} {m : MethodId} {args : Array Value} {below : List Frame} {meth : Method} {c : Code} {D : va_G} {T : TY} {d_a d_places_a d_froms_a d_tos_a d_widths_a : Nat} {d_places : Nat → Int32} {d_froms : Nat → Int32} {d_tos : Nat → Int32} {d_widths : Nat → Int32} {d_ribbons : Int32} {d_trimmed : Int32} {res : Int32} (C : CX p s m args meth c cX1_allWidths 3 RX1 wsX1_allWidths (some .int) D T) (hP : va_P D vwCl [(d_a, .inr (1, [.ref d_places_a, .ref d_froms_a, .ref d_tos_a, .ref d_widths_a, .int d_ribbons, .int d_trimmed])), (d_places_a, .inl (T.1, (16, .inl d_places))), (d_froms_a, .inl (T.1, (20, .inl d_froms))), (d_tos_a, .inl (T.1, (20, .inl d_tos))), (d_widths_a, .inl (T.1, (20, .inl d_widths)))] s.heap) : f_X1_allWidths d_widths d_ribbons = some res → ∀ ls : Array Slot, lv_has ls 3 [(0, .ref d_a)] → W p l e rmX1_allWidths s m args below meth c s.heap [] 0 0 (MQ below (Qp (some (.int res))) args s 0 0 (fun _ => False)) (F0 m 0 ls []) := by
  obtain ⟨hx, hb, hml, hown, hts, hr, hlocks, hK, hN⟩ := id C
  intro  hf ls hl
  unfold f_X1_allWidths at hf
  refine lv_iconst (v := (0 : Int32)) hx hb dX1_allWidths_0 (by decide) ?_
  refine lv_istore_n (lv' := [(1, .int (0 : Int32)), (0, .ref d_a)]) hx hb dX1_allWidths_1 rfl hl (by decide) rfl (fun ls hl => ?_)
  refine lv_iconst (v := (0 : Int32)) hx hb dX1_allWidths_2 (by decide) ?_
  refine lv_istore_n (lv' := [(2, .int (0 : Int32)), (1, .int (0 : Int32)), (0, .ref d_a)]) hx hb dX1_allWidths_3 rfl hl (by decide) rfl (fun ls hl => ?_)
  exact w_X1_allWidths_b4 C hP _ _ _ hf _ (lv_sub hl [2, 1, 0] rfl)
theorem c_X1_allWidths (l : Launch) (D : va_G) (T : TY) (d_a d_places_a d_froms_a d_tos_a d_widths_a : Nat) (d_places : Nat → Int32) (d_froms : Nat → Int32) (d_tos : Nat → Int32) (d_widths : Nat → Int32) (d_ribbons : Int32) (d_trimmed : Int32) (res : Int32) (hf : f_X1_allWidths d_widths d_ribbons = some res) : Met l yX1_allWidths wsX1_allWidths rmX1_allWidths (va_Pc [.ref d_a] (PB D T [(d_a, .inr (1, [.ref d_places_a, .ref d_froms_a, .ref d_tos_a, .ref d_widths_a, .int d_ribbons, .int d_trimmed])), (d_places_a, .inl (T.1, (16, .inl d_places))), (d_froms_a, .inl (T.1, (20, .inl d_froms))), (d_tos_a, .inl (T.1, (20, .inl d_tos))), (d_widths_a, .inl (T.1, (20, .inl d_widths)))])) (Qp (some (.int res))) 0 0 (fun _ => False) :=
  metP_of (by decide +kernel) rfl (Nat.le_of_ble_eq_true rfl) (fun p e s m args below meth c C hP ls hl => w_X1_allWidths_b0 C hP hf ls hl)
def rmX1_crossingPairs : Room := { frames := 4, cells := 0, slots := 0, locals := 93 }
theorem hdV_X1_crossingPairs : yX1_crossingPairs.cls = RX1 ∧ yX1_crossingPairs.cls ≠ "java/lang/invoke/MethodHandle" ∧ yX1_crossingPairs.cls ≠ "java/lang/invoke/VarHandle" ∧ (parseMethodDescriptor yX1_crossingPairs.desc).map (fun d => d.parameters.length) = some 0 := by decide +kernel
theorem iw_X1_crossingPairs_X1 : ∀ w ∈ wsX10, w ∈ wsX1_crossingPairs := by decide +kernel
theorem mw_X1_crossingPairs_0 : Cond.fieldLink RX1 30 "RibbonPosts$Drawing" "ribbons" "I" ∈ wsX1_crossingPairs := by decide +kernel
set_option maxHeartbeats 4000000 in
set_option maxRecDepth 100000 in
theorem w_X1_crossingPairs_b4 {p : Program} {l : Launch} {e : Env} {s : State} {m : MethodId} {args : Array Value} {below : List Frame} {meth : Method} {c : Code} {D : va_G} {T : TY} {d_a d_places_a d_froms_a d_tos_a d_widths_a : Nat} {d_places : Nat → Int32} {d_froms : Nat → Int32} {d_tos : Nat → Int32} {d_widths : Nat → Int32} {d_ribbons : Int32} {d_trimmed : Int32} {res : Int32} (C : CX p s m args meth c cX1_crossingPairs 3 RX1 wsX1_crossingPairs (some .int) D T) (hP : va_P D vwCl [(d_a, .inr (1, [.ref d_places_a, .ref d_froms_a, .ref d_tos_a, .ref d_widths_a, .int d_ribbons, .int d_trimmed])), (d_places_a, .inl (T.1, (16, .inl d_places))), (d_froms_a, .inl (T.1, (20, .inl d_froms))), (d_tos_a, .inl (T.1, (20, .inl d_tos))), (d_widths_a, .inl (T.1, (20, .inl d_widths)))] s.heap) : ∀ F : Nat, ∀ x1 : Int32, ∀ x2 : Int32, f_X1_crossingPairs_b4 d_places d_froms d_tos d_ribbons F x1 x2 = some res → ∀ ls : Array Slot, lv_has ls 3 [(0, .ref d_a), (1, .int x1), (2, .int x2)] → W p l e rmX1_crossingPairs s m args below meth c s.heap [] 0 0 (MQ below (Qp (some (.int res))) args s 0 0 (fun _ => False)) (F0 m 4 ls []) := by
  obtain ⟨hx, hb, hml, hown, hts, hr, hlocks, hK, hN⟩ := id C
  intro F
  induction F with
  | zero => intro _ _ hf; cases hf
  | succ F ih =>
    intro x1 x2 hf ls hl
    unfold f_X1_crossingPairs_b4 at hf
    refine lv_iload_n hx hb dX1_crossingPairs_4 rfl (lv_at hl 2 rfl) ?_
    refine lv_aload_n hx hb dX1_crossingPairs_5 rfl (lv_at hl 0 rfl) ?_
    refine va_get (D := D) (ci := 1) (v := .int d_ribbons) (C := RX1) (T := TX1) (N := 6) hx hb hts iw_X1_crossingPairs_X1 hown hK hP 0 rfl rfl 4 (by decide) (hts (.fieldLink RX1 30 "RibbonPosts$Drawing" "ribbons" "I") mw_X1_crossingPairs_0) (fun _ h9 => h9) rfl dX1_crossingPairs_6 ?_
    refine lv_icmp_ge (tgt := 26) hx hb dX1_crossingPairs_9 (by decide) (fun c_9 => ?_) (fun c_9 => ?_)
    · have hf := it_pos c_9 hf
      refine lv_iload_n hx hb dX1_crossingPairs_26 rfl (lv_at hl 1 rfl) ?_
      refine lv_iconst (v := (2 : Int32)) hx hb dX1_crossingPairs_27 (by decide) ?_
      refine lv_idiv hx hb dX1_crossingPairs_28 (by decide) ?_
      obtain rfl := Option.some.inj hf
      exact W.iret hx hb hr (fun t ht hW => ⟨rfl, ht⟩) (fun q hq => absurd hq List.not_mem_nil) dX1_crossingPairs_29 hlocks
    · have hf := it_neg c_9 hf
      refine lv_iload_n hx hb dX1_crossingPairs_12 rfl (lv_at hl 1 rfl) ?_
      refine lv_aload_n hx hb dX1_crossingPairs_13 rfl (lv_at hl 0 rfl) ?_
      refine lv_iload_n hx hb dX1_crossingPairs_14 rfl (lv_at hl 2 rfl) ?_
      obtain ⟨q15, e_15, hf⟩ := bd_some hf
      refine callPi (va_runV (As := [.int x2]) (rest := [.int x1]) ⟨hx, hb, hml, hown, hts⟩ (c_X1_ribbonsAcross l D T d_a d_places_a d_froms_a d_tos_a d_widths_a d_places d_froms d_tos d_widths d_ribbons d_trimmed x2 q15 e_15) (cwV 1 hts gX1_crossingPairs_X1_ribbonsAcross rfl rfl rfl hdV_X1_ribbonsAcross ⟨Nat.le_of_ble_eq_true rfl, Nat.le_of_ble_eq_true rfl⟩) (preBV hP hK hN rfl 0 rfl) rfl rfl hl.1 rfl (lv_room (Nat.le_of_ble_eq_true rfl)) dX1_crossingPairs_15 ⟨Nat.le_of_ble_eq_true rfl, Nat.le_of_ble_eq_true rfl⟩) ?_
      refine lv_iadd hx hb dX1_crossingPairs_18 ?_
      obtain ⟨v19, e_19, hf⟩ := nm_some hf
      refine lv_nmi e_19 ?_
      refine lv_istore_n (lv' := [(1, .int v19), (0, .ref d_a), (2, .int x2)]) hx hb dX1_crossingPairs_19 rfl hl (by decide) rfl (fun ls hl => ?_)
      obtain ⟨v20, e_20, hf⟩ := nm_some hf
      refine lv_iinc (v := v20) (lv' := [(2, .int v20), (1, .int v19), (0, .ref d_a)]) hx hb dX1_crossingPairs_20 hl (k := 2) rfl (by rw [e_20]; rfl) (by decide) rfl (fun ls hl => ?_)
      refine lv_goto (tgt := 4) hx hb dX1_crossingPairs_23 (by decide) ?_
      exact ih _ _ hf _ (lv_sub hl [2, 1, 0] rfl)
set_option maxHeartbeats 4000000 in
set_option maxRecDepth 100000 in
theorem w_X1_crossingPairs_b0 {p : Program} {l : Launch} {e : Env} {s : State} {m : MethodId} {args : Array Value} {below : List Frame} {meth : Method} {c : Code} {D : va_G} {T : TY} {d_a d_places_a d_froms_a d_tos_a d_widths_a : Nat} {d_places : Nat → Int32} {d_froms : Nat → Int32} {d_tos : Nat → Int32} {d_widths : Nat → Int32} {d_ribbons : Int32} {d_trimmed : Int32} {res : Int32} (C : CX p s m args meth c cX1_crossingPairs 3 RX1 wsX1_crossingPairs (some .int) D T) (hP : va_P D vwCl [(d_a, .inr (1, [.ref d_places_a, .ref d_froms_a, .ref d_tos_a, .ref d_widths_a, .int d_ribbons, .int d_trimmed])), (d_places_a, .inl (T.1, (16, .inl d_places))), (d_froms_a, .inl (T.1, (20, .inl d_froms))), (d_tos_a, .inl (T.1, (20, .inl d_tos))), (d_widths_a, .inl (T.1, (20, .inl d_widths)))] s.heap) : f_X1_crossingPairs d_places d_froms d_tos d_ribbons = some res → ∀ ls : Array Slot, lv_has ls 3 [(0, .ref d_a)] → W p l e rmX1_crossingPairs s m args below meth c s.heap [] 0 0 (MQ below (Qp (some (.int res))) args s 0 0 (fun _ => False)) (F0 m 0 ls []) := by
  obtain ⟨hx, hb, hml, hown, hts, hr, hlocks, hK, hN⟩ := id C
  intro  hf ls hl
  unfold f_X1_crossingPairs at hf
  refine lv_iconst (v := (0 : Int32)) hx hb dX1_crossingPairs_0 (by decide) ?_
  refine lv_istore_n (lv' := [(1, .int (0 : Int32)), (0, .ref d_a)]) hx hb dX1_crossingPairs_1 rfl hl (by decide) rfl (fun ls hl => ?_)
  refine lv_iconst (v := (0 : Int32)) hx hb dX1_crossingPairs_2 (by decide) ?_
  refine lv_istore_n (lv' := [(2, .int (0 : Int32)), (1, .int (0 : Int32)), (0, .ref d_a)]) hx hb dX1_crossingPairs_3 rfl hl (by decide) rfl (fun ls hl => ?_)
  exact w_X1_crossingPairs_b4 C hP _ _ _ hf _ (lv_sub hl [2, 1, 0] rfl)
theorem c_X1_crossingPairs (l : Launch) (D : va_G) (T : TY) (d_a d_places_a d_froms_a d_tos_a d_widths_a : Nat) (d_places : Nat → Int32) (d_froms : Nat → Int32) (d_tos : Nat → Int32) (d_widths : Nat → Int32) (d_ribbons : Int32) (d_trimmed : Int32) (res : Int32) (hf : f_X1_crossingPairs d_places d_froms d_tos d_ribbons = some res) : Met l yX1_crossingPairs wsX1_crossingPairs rmX1_crossingPairs (va_Pc [.ref d_a] (PB D T [(d_a, .inr (1, [.ref d_places_a, .ref d_froms_a, .ref d_tos_a, .ref d_widths_a, .int d_ribbons, .int d_trimmed])), (d_places_a, .inl (T.1, (16, .inl d_places))), (d_froms_a, .inl (T.1, (20, .inl d_froms))), (d_tos_a, .inl (T.1, (20, .inl d_tos))), (d_widths_a, .inl (T.1, (20, .inl d_widths)))])) (Qp (some (.int res))) 0 0 (fun _ => False) :=
  metP_of (by decide +kernel) rfl (Nat.le_of_ble_eq_true rfl) (fun p e s m args below meth c C hP ls hl => w_X1_crossingPairs_b0 C hP hf ls hl)
def rmX1_unevenPosts : Room := { frames := 3, cells := 0, slots := 0, locals := 65 }
theorem hdV_X1_unevenPosts : yX1_unevenPosts.cls = RX1 ∧ yX1_unevenPosts.cls ≠ "java/lang/invoke/MethodHandle" ∧ yX1_unevenPosts.cls ≠ "java/lang/invoke/VarHandle" ∧ (parseMethodDescriptor yX1_unevenPosts.desc).map (fun d => d.parameters.length) = some 0 := by decide +kernel
set_option maxHeartbeats 4000000 in
set_option maxRecDepth 100000 in
theorem w_X1_unevenPosts_b21 {p : Program} {l : Launch} {e : Env} {s : State} {m : MethodId} {args : Array Value} {below : List Frame} {meth : Method} {c : Code} {D : va_G} {T : TY} {d_a d_places_a d_froms_a d_tos_a d_widths_a : Nat} {d_places : Nat → Int32} {d_froms : Nat → Int32} {d_tos : Nat → Int32} {d_widths : Nat → Int32} {d_ribbons : Int32} {d_trimmed : Int32} {res : Int32} {K4 : Int32 → Int32 → Option (Int32)} (C : CX p s m args meth c cX1_unevenPosts 3 RX1 wsX1_unevenPosts (some .int) D T) (hP : va_P D vwCl [(d_a, .inr (1, [.ref d_places_a, .ref d_froms_a, .ref d_tos_a, .ref d_widths_a, .int d_ribbons, .int d_trimmed])), (d_places_a, .inl (T.1, (16, .inl d_places))), (d_froms_a, .inl (T.1, (20, .inl d_froms))), (d_tos_a, .inl (T.1, (20, .inl d_tos))), (d_widths_a, .inl (T.1, (20, .inl d_widths)))] s.heap) (hK4 : ∀ x1 : Int32, ∀ x2 : Int32, K4 x1 x2 = some res → ∀ ls : Array Slot, lv_has ls 3 [(0, .ref d_a), (1, .int x1), (2, .int x2)] → W p l e rmX1_unevenPosts s m args below meth c s.heap [] 0 0 (MQ below (Qp (some (.int res))) args s 0 0 (fun _ => False)) (F0 m 4 ls [])) : ∀ x1 : Int32, ∀ x2 : Int32, f_X1_unevenPosts_b21 d_froms d_tos d_widths d_ribbons K4 x1 x2 = some res → ∀ ls : Array Slot, lv_has ls 3 [(0, .ref d_a), (1, .int x1), (2, .int x2)] → W p l e rmX1_unevenPosts s m args below meth c s.heap [] 0 0 (MQ below (Qp (some (.int res))) args s 0 0 (fun _ => False)) (F0 m 21 ls []) := by
  obtain ⟨hx, hb, hml, hown, hts, hr, hlocks, hK, hN⟩ := id C
  intro x1 x2 hf ls hl
  unfold f_X1_unevenPosts_b21 at hf
  obtain ⟨v21, e_21, hf⟩ := nm_some hf
  refine lv_iinc (v := v21) (lv' := [(2, .int v21), (0, .ref d_a), (1, .int x1)]) hx hb dX1_unevenPosts_21 hl (k := 2) rfl (by rw [e_21]; rfl) (by decide) rfl (fun ls hl => ?_)
  refine lv_goto (tgt := 4) hx hb dX1_unevenPosts_24 (by decide) ?_
  exact hK4 _ _ hf _ (lv_sub hl [1, 2, 0] rfl)
set_option maxHeartbeats 4000000 in
set_option maxRecDepth 100000 in
theorem w_X1_unevenPosts_b4 {p : Program} {l : Launch} {e : Env} {s : State} {m : MethodId} {args : Array Value} {below : List Frame} {meth : Method} {c : Code} {D : va_G} {T : TY} {d_a d_places_a d_froms_a d_tos_a d_widths_a : Nat} {d_places : Nat → Int32} {d_froms : Nat → Int32} {d_tos : Nat → Int32} {d_widths : Nat → Int32} {d_ribbons : Int32} {d_trimmed : Int32} {res : Int32} (C : CX p s m args meth c cX1_unevenPosts 3 RX1 wsX1_unevenPosts (some .int) D T) (hP : va_P D vwCl [(d_a, .inr (1, [.ref d_places_a, .ref d_froms_a, .ref d_tos_a, .ref d_widths_a, .int d_ribbons, .int d_trimmed])), (d_places_a, .inl (T.1, (16, .inl d_places))), (d_froms_a, .inl (T.1, (20, .inl d_froms))), (d_tos_a, .inl (T.1, (20, .inl d_tos))), (d_widths_a, .inl (T.1, (20, .inl d_widths)))] s.heap) : ∀ F : Nat, ∀ x1 : Int32, ∀ x2 : Int32, f_X1_unevenPosts_b4 d_froms d_tos d_widths d_ribbons F x1 x2 = some res → ∀ ls : Array Slot, lv_has ls 3 [(0, .ref d_a), (1, .int x1), (2, .int x2)] → W p l e rmX1_unevenPosts s m args below meth c s.heap [] 0 0 (MQ below (Qp (some (.int res))) args s 0 0 (fun _ => False)) (F0 m 4 ls []) := by
  obtain ⟨hx, hb, hml, hown, hts, hr, hlocks, hK, hN⟩ := id C
  intro F
  induction F with
  | zero => intro _ _ hf; cases hf
  | succ F ih =>
    intro x1 x2 hf ls hl
    unfold f_X1_unevenPosts_b4 at hf
    refine lv_iload_n hx hb dX1_unevenPosts_4 rfl (lv_at hl 2 rfl) ?_
    refine lv_bipush (v := (12 : Int32)) hx hb dX1_unevenPosts_5 (by decide) ?_
    refine lv_icmp_ge (tgt := 27) hx hb dX1_unevenPosts_7 (by decide) (fun c_7 => ?_) (fun c_7 => ?_)
    · have hf := it_pos c_7 hf
      refine lv_iload_n hx hb dX1_unevenPosts_27 rfl (lv_at hl 1 rfl) ?_
      obtain rfl := Option.some.inj hf
      exact W.iret hx hb hr (fun t ht hW => ⟨rfl, ht⟩) (fun q hq => absurd hq List.not_mem_nil) dX1_unevenPosts_28 hlocks
    · have hf := it_neg c_7 hf
      refine lv_aload_n hx hb dX1_unevenPosts_10 rfl (lv_at hl 0 rfl) ?_
      refine lv_iload_n hx hb dX1_unevenPosts_11 rfl (lv_at hl 2 rfl) ?_
      obtain ⟨q12, e_12, hf⟩ := bd_some hf
      refine callPi (va_runV (As := [.int x2]) (rest := []) ⟨hx, hb, hml, hown, hts⟩ (c_X1_surplusOf l D T d_a d_places_a d_froms_a d_tos_a d_widths_a d_places d_froms d_tos d_widths d_ribbons d_trimmed x2 q12 e_12) (cwV 1 hts gX1_unevenPosts_X1_surplusOf rfl rfl rfl hdV_X1_surplusOf ⟨Nat.le_of_ble_eq_true rfl, Nat.le_of_ble_eq_true rfl⟩) (preBV hP hK hN rfl 0 rfl) rfl rfl hl.1 rfl (lv_room (Nat.le_of_ble_eq_true rfl)) dX1_unevenPosts_12 ⟨Nat.le_of_ble_eq_true rfl, Nat.le_of_ble_eq_true rfl⟩) ?_
      refine lv_if_eq (tgt := 21) hx hb dX1_unevenPosts_15 (by decide) (fun c_15 => ?_) (fun c_15 => ?_)
      · have hf := it_pos c_15 hf
        exact w_X1_unevenPosts_b21 C hP (fun v0 v1 hf ls hl => ih v0 v1 hf ls hl) _ _ hf _ (lv_sub hl [0, 1, 2] rfl)
      · have hf := it_neg c_15 hf
        obtain ⟨v18, e_18, hf⟩ := nm_some hf
        refine lv_iinc (v := v18) (lv' := [(1, .int v18), (0, .ref d_a), (2, .int x2)]) hx hb dX1_unevenPosts_18 hl (k := 1) rfl (by rw [e_18]; rfl) (by decide) rfl (fun ls hl => ?_)
        exact w_X1_unevenPosts_b21 C hP (fun v0 v1 hf ls hl => ih v0 v1 hf ls hl) _ _ hf _ (lv_sub hl [1, 0, 2] rfl)
set_option maxHeartbeats 4000000 in
set_option maxRecDepth 100000 in
theorem w_X1_unevenPosts_b0 {p : Program} {l : Launch} {e : Env} {s : State} {m : MethodId} {args : Array Value} {below : List Frame} {meth : Method} {c : Code} {D : va_G} {T : TY} {d_a d_places_a d_froms_a d_tos_a d_widths_a : Nat} {d_places : Nat → Int32} {d_froms : Nat → Int32} {d_tos : Nat → Int32} {d_widths : Nat → Int32} {d_ribbons : Int32} {d_trimmed : Int32} {res : Int32} (C : CX p s m args meth c cX1_unevenPosts 3 RX1 wsX1_unevenPosts (some .int) D T) (hP : va_P D vwCl [(d_a, .inr (1, [.ref d_places_a, .ref d_froms_a, .ref d_tos_a, .ref d_widths_a, .int d_ribbons, .int d_trimmed])), (d_places_a, .inl (T.1, (16, .inl d_places))), (d_froms_a, .inl (T.1, (20, .inl d_froms))), (d_tos_a, .inl (T.1, (20, .inl d_tos))), (d_widths_a, .inl (T.1, (20, .inl d_widths)))] s.heap) : f_X1_unevenPosts d_froms d_tos d_widths d_ribbons = some res → ∀ ls : Array Slot, lv_has ls 3 [(0, .ref d_a)] → W p l e rmX1_unevenPosts s m args below meth c s.heap [] 0 0 (MQ below (Qp (some (.int res))) args s 0 0 (fun _ => False)) (F0 m 0 ls []) := by
  obtain ⟨hx, hb, hml, hown, hts, hr, hlocks, hK, hN⟩ := id C
  intro  hf ls hl
  unfold f_X1_unevenPosts at hf
  refine lv_iconst (v := (0 : Int32)) hx hb dX1_unevenPosts_0 (by decide) ?_
  refine lv_istore_n (lv' := [(1, .int (0 : Int32)), (0, .ref d_a)]) hx hb dX1_unevenPosts_1 rfl hl (by decide) rfl (fun ls hl => ?_)
  refine lv_iconst (v := (4 : Int32)) hx hb dX1_unevenPosts_2 (by decide) ?_
  refine lv_istore_n (lv' := [(2, .int (4 : Int32)), (1, .int (0 : Int32)), (0, .ref d_a)]) hx hb dX1_unevenPosts_3 rfl hl (by decide) rfl (fun ls hl => ?_)
  exact w_X1_unevenPosts_b4 C hP _ _ _ hf _ (lv_sub hl [2, 1, 0] rfl)
theorem c_X1_unevenPosts (l : Launch) (D : va_G) (T : TY) (d_a d_places_a d_froms_a d_tos_a d_widths_a : Nat) (d_places : Nat → Int32) (d_froms : Nat → Int32) (d_tos : Nat → Int32) (d_widths : Nat → Int32) (d_ribbons : Int32) (d_trimmed : Int32) (res : Int32) (hf : f_X1_unevenPosts d_froms d_tos d_widths d_ribbons = some res) : Met l yX1_unevenPosts wsX1_unevenPosts rmX1_unevenPosts (va_Pc [.ref d_a] (PB D T [(d_a, .inr (1, [.ref d_places_a, .ref d_froms_a, .ref d_tos_a, .ref d_widths_a, .int d_ribbons, .int d_trimmed])), (d_places_a, .inl (T.1, (16, .inl d_places))), (d_froms_a, .inl (T.1, (20, .inl d_froms))), (d_tos_a, .inl (T.1, (20, .inl d_tos))), (d_widths_a, .inl (T.1, (20, .inl d_widths)))])) (Qp (some (.int res))) 0 0 (fun _ => False) :=
  metP_of (by decide +kernel) rfl (Nat.le_of_ble_eq_true rfl) (fun p e s m args below meth c C hP ls hl => w_X1_unevenPosts_b0 C hP hf ls hl)
