/-! ===== walks, laid by wip/gen ===== -/
def rmX4_init : Room := { frames := 1, cells := 1, slots := 60, locals := 12 }
theorem hdS_X4_init : yX4_init.cls ≠ "java/lang/invoke/MethodHandle" ∧ yX4_init.cls ≠ "java/lang/invoke/VarHandle" ∧ (parseMethodDescriptor yX4_init.desc).map (fun d => d.parameters.length) = some 0 := by decide +kernel
theorem iw_X4_init_X4 : ∀ w ∈ wsX40, w ∈ wsX4_init := by decide +kernel
theorem mw_X4_init_0 : Cond.fieldLink RX4 9 "RibbonPosts$Text" "codes" "[I" ∈ wsX4_init := by decide +kernel
theorem mw_X4_init_1 : Cond.arrayClass .int ∈ wsX4_init := by decide +kernel
theorem mw_X4_init_2 : Cond.methodLink RX4 3 objectInit ∈ wsX4_init := by decide +kernel
theorem mw_X4_init_3 : Cond.instanceMethod objectInit ∈ wsX4_init := by decide +kernel
theorem mw_X4_init_4 : Cond.code objectInit ⟨#[0xb1]⟩ 1 none ∈ wsX4_init := by decide +kernel
set_option maxHeartbeats 4000000 in
set_option maxRecDepth 100000 in
theorem w_X4_init_b0 {p : Program} {l : Launch} {e : Env} {s : State} {m : MethodId} {args : Array Value} {below : List Frame} {meth : Method} {c : Code} {D : va_G} {T : TY} {t_a : Nat} {res : Unit} {A : Nat → Prop} (C : CX p s m args meth c cX4_init 1 RX4 wsX4_init none D T) (hA : meth.name = "<init>" ∧ ∀ q, s.heap.size ≤ q → A q) : f_X4_init = some res → ∀ (H : Heap) (locs : List Loc), va_P D vwCl [(t_a, .inr (4, [.null, .int (0 : Int32)]))] H → va_D A [(t_a, .inr (4, [.null, .int (0 : Int32)]))] → va_S A s.heap H locs → ∀ ls : Array Slot, lv_has ls 1 [(0, .ref t_a)] → W p l e rmX4_init s m args below meth c H locs 0 0 (MQ below (Qm none D (fun W9 => ∃ q7 : Nat, W9 = [(t_a, .inr (4, [.ref q7, .int (0 : Int32)])), (q7, .inl (T.1, (60, .inl (fun _ => (0 : Int32)))))]) A) args s 1 60 A) (F0 m 0 ls []) := by
  obtain ⟨hx, hb, hml, hown, hts, hr, hlocks, hK, hN⟩ := id C
  obtain ⟨hin, hA⟩ := id hA
  intro  hf H locs hP hD hS ls hl
  unfold f_X4_init at hf
  refine lv_aload_n hx hb dX4_init_0 rfl (lv_at hl 0 rfl) ?_
  refine W.objInit hx hb hown (hts (.methodLink RX4 3 objectInit) mw_X4_init_2) (hts (.instanceMethod objectInit) mw_X4_init_3) (hts (.code objectInit ⟨#[0xb1]⟩ 1 none) mw_X4_init_4) rfl (by rw [hml]; exact hl.1) rfl dX4_init_1 (Nat.le_of_ble_eq_true rfl) (Nat.le_of_ble_eq_true rfl) ?_
  refine W.eq (g2 := F0 m 4 ls []) rfl ?_
  refine lv_aload_n hx hb dX4_init_4 rfl (lv_at hl 0 rfl) ?_
  refine lv_bipush (v := (60 : Int32)) hx hb dX4_init_5 (by decide) ?_
  refine va_newa (atype := .int) (ty := .int) (N' := 60) (a0 := (60, .inl (fun _ => (0 : Int32)))) hx hb (hts (.arrayClass .int) mw_X4_init_1) rfl hK hP hD hS hA (fun _ => rfl) (by decide) (by decide) (by decide) (Nat.le_of_ble_eq_true rfl) (Nat.le_of_ble_eq_true rfl) dX4_init_7 (fun q7 cA H hK9 hP hD hS => ?_)
  obtain rfl : cA = T.1 := tyOne hK9 0 rfl
  have hP : va_P D vwCl [(t_a, .inr (4, [.null, .int (0 : Int32)])), (q7, .inl (T.1, (60, .inl (fun _ => (0 : Int32)))))] H := hP
  have hD : va_D A [(t_a, .inr (4, [.null, .int (0 : Int32)])), (q7, .inl (T.1, (60, .inl (fun _ => (0 : Int32)))))] := hD
  refine W.widen (k := 1) (n := 60) (by decide) (by decide) ?_
  refine va_putF (D := D) (ci := 4) (v := .ref q7) (ty := .array .int) (C := RX4) (T := TX4) (N := 2) hx hb hts iw_X4_init_X4 tyX4 tyX4_ok nmX4 hown hK hP hD hS 0 rfl rfl 0 (by decide) (hts (.fieldLink RX4 9 "RibbonPosts$Text" "codes" "[I") mw_X4_init_0) (fun _ h9 => h9) rfl hin rfl (by decide +kernel) rfl rfl (Nat.le_of_ble_eq_true rfl) dX4_init_9 (fun H locs hP hD hS => ?_)
  have hP : va_P D vwCl [(t_a, .inr (4, [.ref q7, .int (0 : Int32)])), (q7, .inl (T.1, (60, .inl (fun _ => (0 : Int32)))))] H := hP
  have hD : va_D A [(t_a, .inr (4, [.ref q7, .int (0 : Int32)])), (q7, .inl (T.1, (60, .inl (fun _ => (0 : Int32)))))] := hD
  obtain rfl := Option.some.inj hf
  exact W.vret hx hb hr (fun t ht hW => ⟨rfl, ⟨_, ⟨_, rfl⟩, by rw [ht]; exact hP, hD⟩, hS.F ht⟩) hS.2.2 dX4_init_12 hlocks
theorem c_X4_init (l : Launch) (D : va_G) (T : TY) (t_a : Nat) (res : Unit) (hf : f_X4_init = some res) (sz : Nat) : Met l yX4_init wsX4_init rmX4_init (va_Pc [.ref t_a] (PM D T [(t_a, .inr (4, [.null, .int (0 : Int32)]))] sz)) (Qm none D (fun W9 => ∃ q7 : Nat, W9 = [(t_a, .inr (4, [.ref q7, .int (0 : Int32)])), (q7, .inl (T.1, (60, .inl (fun _ => (0 : Int32)))))]) (va_A [(t_a, .inr (4, [.null, .int (0 : Int32)]))] sz)) 1 60 (va_A [(t_a, .inr (4, [.null, .int (0 : Int32)]))] sz) :=
  metM_of (by decide +kernel) rfl (Nat.le_of_ble_eq_true rfl) (fun p e s m args below meth c C hnm A hA hP hD ls hl => w_X4_init_b0 C ⟨hnm, hA⟩ hf _ _ hP hD va_S.rf ls hl)
def rmX4_addCode : Room := { frames := 0, cells := 0, slots := 0, locals := 0 }
theorem hdV_X4_addCode : yX4_addCode.cls = RX4 ∧ yX4_addCode.cls ≠ "java/lang/invoke/MethodHandle" ∧ yX4_addCode.cls ≠ "java/lang/invoke/VarHandle" ∧ (parseMethodDescriptor yX4_addCode.desc).map (fun d => d.parameters.length) = some 1 := by decide +kernel
theorem iw_X4_addCode_X4 : ∀ w ∈ wsX40, w ∈ wsX4_addCode := by decide +kernel
theorem mw_X4_addCode_0 : Cond.fieldLink RX4 15 "RibbonPosts$Text" "length" "I" ∈ wsX4_addCode := by decide +kernel
theorem mw_X4_addCode_1 : Cond.fieldLink RX4 9 "RibbonPosts$Text" "codes" "[I" ∈ wsX4_addCode := by decide +kernel
set_option maxHeartbeats 4000000 in
set_option maxRecDepth 100000 in
theorem w_X4_addCode_b0 {p : Program} {l : Launch} {e : Env} {s : State} {m : MethodId} {args : Array Value} {below : List Frame} {meth : Method} {c : Code} {D : va_G} {T : TY} {t_a t_codes_a : Nat} {x1 : Int32} {res : (Nat → Int32) × Int32} {A : Nat → Prop} (C : CX p s m args meth c cX4_addCode 2 RX4 wsX4_addCode none D T) (hA : ∀ q, s.heap.size ≤ q → A q) : ∀ t_codes : Nat → Int32, ∀ t_length : Int32, f_X4_addCode x1 t_codes t_length = some res → ∀ (H : Heap) (locs : List Loc), va_P D vwCl [(t_a, .inr (4, [.ref t_codes_a, .int t_length])), (t_codes_a, .inl (T.1, (60, .inl t_codes)))] H → va_D A [(t_a, .inr (4, [.ref t_codes_a, .int t_length])), (t_codes_a, .inl (T.1, (60, .inl t_codes)))] → va_S A s.heap H locs → ∀ ls : Array Slot, lv_has ls 2 [(0, .ref t_a), (1, .int x1)] → W p l e rmX4_addCode s m args below meth c H locs 0 0 (MQ below (Qm none D (fun W9 => W9 = [(t_a, .inr (4, [.ref t_codes_a, .int res.2])), (t_codes_a, .inl (T.1, (60, .inl res.1)))]) A) args s 0 0 A) (F0 m 0 ls []) := by
  obtain ⟨hx, hb, hml, hown, hts, hr, hlocks, hK, hN⟩ := id C
  intro t_codes t_length hf H locs hP hD hS ls hl
  unfold f_X4_addCode at hf
  refine lv_aload_n hx hb dX4_addCode_0 rfl (lv_at hl 0 rfl) ?_
  refine va_get (D := D) (ci := 4) (v := .int t_length) (C := RX4) (T := TX4) (N := 2) hx hb hts iw_X4_addCode_X4 hown hK hP 0 rfl rfl 1 (by decide) (hts (.fieldLink RX4 15 "RibbonPosts$Text" "length" "I") mw_X4_addCode_0) (fun _ h9 => h9) rfl dX4_addCode_1 ?_
  refine lv_if_lt (tgt := 36) hx hb dX4_addCode_4 (by decide) (fun c_4 => ?_) (fun c_4 => ?_)
  · have hf := it_pos c_4 hf
    obtain rfl := Option.some.inj hf
    exact W.vret hx hb hr (fun t ht hW => ⟨rfl, ⟨_, rfl, by rw [ht]; exact hP, hD⟩, hS.F ht⟩) hS.2.2 dX4_addCode_36 hlocks
  · have hf := it_neg c_4 hf
    refine lv_aload_n hx hb dX4_addCode_7 rfl (lv_at hl 0 rfl) ?_
    refine va_get (D := D) (ci := 4) (v := .int t_length) (C := RX4) (T := TX4) (N := 2) hx hb hts iw_X4_addCode_X4 hown hK hP 0 rfl rfl 1 (by decide) (hts (.fieldLink RX4 15 "RibbonPosts$Text" "length" "I") mw_X4_addCode_0) (fun _ h9 => h9) rfl dX4_addCode_8 ?_
    refine lv_bipush (v := (60 : Int32)) hx hb dX4_addCode_11 (by decide) ?_
    refine lv_icmp_ge (tgt := 36) hx hb dX4_addCode_13 (by decide) (fun c_13 => ?_) (fun c_13 => ?_)
    · have hf := it_pos c_13 hf
      obtain rfl := Option.some.inj hf
      exact W.vret hx hb hr (fun t ht hW => ⟨rfl, ⟨_, rfl, by rw [ht]; exact hP, hD⟩, hS.F ht⟩) hS.2.2 dX4_addCode_36 hlocks
    · have hf := it_neg c_13 hf
      refine lv_aload_n hx hb dX4_addCode_16 rfl (lv_at hl 0 rfl) ?_
      refine va_get (D := D) (ci := 4) (v := .ref t_codes_a) (C := RX4) (T := TX4) (N := 2) hx hb hts iw_X4_addCode_X4 hown hK hP 0 rfl rfl 0 (by decide) (hts (.fieldLink RX4 9 "RibbonPosts$Text" "codes" "[I") mw_X4_addCode_1) (fun _ h9 => h9) rfl dX4_addCode_17 ?_
      refine lv_aload_n hx hb dX4_addCode_20 rfl (lv_at hl 0 rfl) ?_
      refine va_get (D := D) (ci := 4) (v := .int t_length) (C := RX4) (T := TX4) (N := 2) hx hb hts iw_X4_addCode_X4 hown hK hP 0 rfl rfl 1 (by decide) (hts (.fieldLink RX4 15 "RibbonPosts$Text" "length" "I") mw_X4_addCode_0) (fun _ h9 => h9) rfl dX4_addCode_21 ?_
      refine lv_iload_n hx hb dX4_addCode_24 rfl (lv_at hl 1 rfl) ?_
      obtain ⟨g_25, hf⟩ := gd_some hf
      refine va_iast (D := D) hx hb hK hP hD hS 1 0 rfl rfl (gd_in g_25) dX4_addCode_25 (fun H locs hP hD hS => ?_)
      have hP : va_P D vwCl [(t_a, .inr (4, [.ref t_codes_a, .int t_length])), (t_codes_a, .inl (T.1, (60, .inl (upd t_codes t_length.toNatClampNeg x1))))] H := hP
      have hD : va_D A [(t_a, .inr (4, [.ref t_codes_a, .int t_length])), (t_codes_a, .inl (T.1, (60, .inl (upd t_codes t_length.toNatClampNeg x1))))] := hD
      refine lv_aload_n hx hb dX4_addCode_26 rfl (lv_at hl 0 rfl) ?_
      refine lv_dup hx hb dX4_addCode_27 rfl ?_
      refine va_get (D := D) (ci := 4) (v := .int t_length) (C := RX4) (T := TX4) (N := 2) hx hb hts iw_X4_addCode_X4 hown hK hP 0 rfl rfl 1 (by decide) (hts (.fieldLink RX4 15 "RibbonPosts$Text" "length" "I") mw_X4_addCode_0) (fun _ h9 => h9) rfl dX4_addCode_28 ?_
      refine lv_iconst (v := (1 : Int32)) hx hb dX4_addCode_31 (by decide) ?_
      refine lv_iadd hx hb dX4_addCode_32 ?_
      obtain ⟨v33, e_33, hf⟩ := nm_some hf
      refine lv_nmi e_33 ?_
      refine va_put (D := D) (ci := 4) (v := .int v33) (ty := .int) (C := RX4) (T := TX4) (N := 2) hx hb hts iw_X4_addCode_X4 tyX4 tyX4_ok nmX4 hown hK hP hD hS 0 rfl rfl 1 (by decide) (hts (.fieldLink RX4 15 "RibbonPosts$Text" "length" "I") mw_X4_addCode_0) (fun _ h9 => h9) rfl (by decide +kernel) rfl rfl (Nat.le_of_ble_eq_true rfl) dX4_addCode_33 (fun H locs hP hD hS => ?_)
      have hP : va_P D vwCl [(t_a, .inr (4, [.ref t_codes_a, .int v33])), (t_codes_a, .inl (T.1, (60, .inl (upd t_codes t_length.toNatClampNeg x1))))] H := hP
      have hD : va_D A [(t_a, .inr (4, [.ref t_codes_a, .int v33])), (t_codes_a, .inl (T.1, (60, .inl (upd t_codes t_length.toNatClampNeg x1))))] := hD
      obtain rfl := Option.some.inj hf
      exact W.vret hx hb hr (fun t ht hW => ⟨rfl, ⟨_, rfl, by rw [ht]; exact hP, hD⟩, hS.F ht⟩) hS.2.2 dX4_addCode_36 hlocks
theorem c_X4_addCode (l : Launch) (D : va_G) (T : TY) (t_a t_codes_a : Nat) (t_codes : Nat → Int32) (t_length : Int32) (x1 : Int32) (res : (Nat → Int32) × Int32) (hf : f_X4_addCode x1 t_codes t_length = some res) (sz : Nat) : Met l yX4_addCode wsX4_addCode rmX4_addCode (va_Pc [.ref t_a, .int x1] (PM D T [(t_a, .inr (4, [.ref t_codes_a, .int t_length])), (t_codes_a, .inl (T.1, (60, .inl t_codes)))] sz)) (Qm none D (fun W9 => W9 = [(t_a, .inr (4, [.ref t_codes_a, .int res.2])), (t_codes_a, .inl (T.1, (60, .inl res.1)))]) (va_A [(t_a, .inr (4, [.ref t_codes_a, .int t_length])), (t_codes_a, .inl (T.1, (60, .inl t_codes)))] sz)) 0 0 (va_A [(t_a, .inr (4, [.ref t_codes_a, .int t_length])), (t_codes_a, .inl (T.1, (60, .inl t_codes)))] sz) :=
  metM_of (by decide +kernel) rfl (Nat.le_of_ble_eq_true rfl) (fun p e s m args below meth c C hnm A hA hP hD ls hl => w_X4_addCode_b0 C hA _ _ hf _ _ hP hD va_S.rf ls hl)
def rmX4_empty : Room := { frames := 0, cells := 0, slots := 0, locals := 0 }
theorem hdV_X4_empty : yX4_empty.cls = RX4 ∧ yX4_empty.cls ≠ "java/lang/invoke/MethodHandle" ∧ yX4_empty.cls ≠ "java/lang/invoke/VarHandle" ∧ (parseMethodDescriptor yX4_empty.desc).map (fun d => d.parameters.length) = some 0 := by decide +kernel
theorem iw_X4_empty_X4 : ∀ w ∈ wsX40, w ∈ wsX4_empty := by decide +kernel
theorem mw_X4_empty_0 : Cond.fieldLink RX4 15 "RibbonPosts$Text" "length" "I" ∈ wsX4_empty := by decide +kernel
set_option maxHeartbeats 4000000 in
set_option maxRecDepth 100000 in
theorem w_X4_empty_b0 {p : Program} {l : Launch} {e : Env} {s : State} {m : MethodId} {args : Array Value} {below : List Frame} {meth : Method} {c : Code} {D : va_G} {T : TY} {t_a t_codes_a : Nat} {t_codes : Nat → Int32} {res : Int32} {A : Nat → Prop} (C : CX p s m args meth c cX4_empty 1 RX4 wsX4_empty none D T) (hA : ∀ q, s.heap.size ≤ q → A q) : ∀ t_length : Int32, f_X4_empty t_length = some res → ∀ (H : Heap) (locs : List Loc), va_P D vwCl [(t_a, .inr (4, [.ref t_codes_a, .int t_length])), (t_codes_a, .inl (T.1, (60, .inl t_codes)))] H → va_D A [(t_a, .inr (4, [.ref t_codes_a, .int t_length])), (t_codes_a, .inl (T.1, (60, .inl t_codes)))] → va_S A s.heap H locs → ∀ ls : Array Slot, lv_has ls 1 [(0, .ref t_a)] → W p l e rmX4_empty s m args below meth c H locs 0 0 (MQ below (Qm none D (fun W9 => W9 = [(t_a, .inr (4, [.ref t_codes_a, .int res])), (t_codes_a, .inl (T.1, (60, .inl t_codes)))]) A) args s 0 0 A) (F0 m 0 ls []) := by
  obtain ⟨hx, hb, hml, hown, hts, hr, hlocks, hK, hN⟩ := id C
  intro t_length hf H locs hP hD hS ls hl
  unfold f_X4_empty at hf
  refine lv_aload_n hx hb dX4_empty_0 rfl (lv_at hl 0 rfl) ?_
  refine lv_iconst (v := (0 : Int32)) hx hb dX4_empty_1 (by decide) ?_
  refine va_put (D := D) (ci := 4) (v := .int (0 : Int32)) (ty := .int) (C := RX4) (T := TX4) (N := 2) hx hb hts iw_X4_empty_X4 tyX4 tyX4_ok nmX4 hown hK hP hD hS 0 rfl rfl 1 (by decide) (hts (.fieldLink RX4 15 "RibbonPosts$Text" "length" "I") mw_X4_empty_0) (fun _ h9 => h9) rfl (by decide +kernel) rfl rfl (Nat.le_of_ble_eq_true rfl) dX4_empty_2 (fun H locs hP hD hS => ?_)
  have hP : va_P D vwCl [(t_a, .inr (4, [.ref t_codes_a, .int (0 : Int32)])), (t_codes_a, .inl (T.1, (60, .inl t_codes)))] H := hP
  have hD : va_D A [(t_a, .inr (4, [.ref t_codes_a, .int (0 : Int32)])), (t_codes_a, .inl (T.1, (60, .inl t_codes)))] := hD
  obtain rfl := Option.some.inj hf
  exact W.vret hx hb hr (fun t ht hW => ⟨rfl, ⟨_, rfl, by rw [ht]; exact hP, hD⟩, hS.F ht⟩) hS.2.2 dX4_empty_5 hlocks
theorem c_X4_empty (l : Launch) (D : va_G) (T : TY) (t_a t_codes_a : Nat) (t_codes : Nat → Int32) (t_length : Int32) (res : Int32) (hf : f_X4_empty t_length = some res) (sz : Nat) : Met l yX4_empty wsX4_empty rmX4_empty (va_Pc [.ref t_a] (PM D T [(t_a, .inr (4, [.ref t_codes_a, .int t_length])), (t_codes_a, .inl (T.1, (60, .inl t_codes)))] sz)) (Qm none D (fun W9 => W9 = [(t_a, .inr (4, [.ref t_codes_a, .int res])), (t_codes_a, .inl (T.1, (60, .inl t_codes)))]) (va_A [(t_a, .inr (4, [.ref t_codes_a, .int t_length])), (t_codes_a, .inl (T.1, (60, .inl t_codes)))] sz)) 0 0 (va_A [(t_a, .inr (4, [.ref t_codes_a, .int t_length])), (t_codes_a, .inl (T.1, (60, .inl t_codes)))] sz) :=
  metM_of (by decide +kernel) rfl (Nat.le_of_ble_eq_true rfl) (fun p e s m args below meth c C hnm A hA hP hD ls hl => w_X4_empty_b0 C hA _ hf _ _ hP hD va_S.rf ls hl)
def rmX4_codeAt : Room := { frames := 0, cells := 0, slots := 0, locals := 0 }
theorem hdV_X4_codeAt : yX4_codeAt.cls = RX4 ∧ yX4_codeAt.cls ≠ "java/lang/invoke/MethodHandle" ∧ yX4_codeAt.cls ≠ "java/lang/invoke/VarHandle" ∧ (parseMethodDescriptor yX4_codeAt.desc).map (fun d => d.parameters.length) = some 1 := by decide +kernel
theorem iw_X4_codeAt_X4 : ∀ w ∈ wsX40, w ∈ wsX4_codeAt := by decide +kernel
theorem mw_X4_codeAt_0 : Cond.fieldLink RX4 15 "RibbonPosts$Text" "length" "I" ∈ wsX4_codeAt := by decide +kernel
theorem mw_X4_codeAt_1 : Cond.fieldLink RX4 9 "RibbonPosts$Text" "codes" "[I" ∈ wsX4_codeAt := by decide +kernel
set_option maxHeartbeats 4000000 in
set_option maxRecDepth 100000 in
theorem w_X4_codeAt_b0 {p : Program} {l : Launch} {e : Env} {s : State} {m : MethodId} {args : Array Value} {below : List Frame} {meth : Method} {c : Code} {D : va_G} {T : TY} {t_a t_codes_a : Nat} {t_codes : Nat → Int32} {t_length : Int32} {x1 : Int32} {res : Int32} (C : CX p s m args meth c cX4_codeAt 2 RX4 wsX4_codeAt (some .int) D T) (hP : va_P D vwCl [(t_a, .inr (4, [.ref t_codes_a, .int t_length])), (t_codes_a, .inl (T.1, (60, .inl t_codes)))] s.heap) : f_X4_codeAt t_codes t_length x1 = some res → ∀ ls : Array Slot, lv_has ls 2 [(0, .ref t_a), (1, .int x1)] → W p l e rmX4_codeAt s m args below meth c s.heap [] 0 0 (MQ below (Qp (some (.int res))) args s 0 0 (fun _ => False)) (F0 m 0 ls []) := by
  obtain ⟨hx, hb, hml, hown, hts, hr, hlocks, hK, hN⟩ := id C
  intro  hf ls hl
  unfold f_X4_codeAt at hf
  refine lv_iload_n hx hb dX4_codeAt_0 rfl (lv_at hl 1 rfl) ?_
  refine lv_if_lt (tgt := 27) hx hb dX4_codeAt_1 (by decide) (fun c_1 => ?_) (fun c_1 => ?_)
  · have hf := it_pos c_1 hf
    refine lv_iconst (v := (0 : Int32)) hx hb dX4_codeAt_27 (by decide) ?_
    obtain rfl := Option.some.inj hf
    exact W.iret hx hb hr (fun t ht hW => ⟨rfl, ht⟩) (fun q hq => absurd hq List.not_mem_nil) dX4_codeAt_28 hlocks
  · have hf := it_neg c_1 hf
    refine lv_iload_n hx hb dX4_codeAt_4 rfl (lv_at hl 1 rfl) ?_
    refine lv_aload_n hx hb dX4_codeAt_5 rfl (lv_at hl 0 rfl) ?_
    refine va_get (D := D) (ci := 4) (v := .int t_length) (C := RX4) (T := TX4) (N := 2) hx hb hts iw_X4_codeAt_X4 hown hK hP 0 rfl rfl 1 (by decide) (hts (.fieldLink RX4 15 "RibbonPosts$Text" "length" "I") mw_X4_codeAt_0) (fun _ h9 => h9) rfl dX4_codeAt_6 ?_
    refine lv_icmp_ge (tgt := 27) hx hb dX4_codeAt_9 (by decide) (fun c_9 => ?_) (fun c_9 => ?_)
    · have hf := it_pos c_9 hf
      refine lv_iconst (v := (0 : Int32)) hx hb dX4_codeAt_27 (by decide) ?_
      obtain rfl := Option.some.inj hf
      exact W.iret hx hb hr (fun t ht hW => ⟨rfl, ht⟩) (fun q hq => absurd hq List.not_mem_nil) dX4_codeAt_28 hlocks
    · have hf := it_neg c_9 hf
      refine lv_iload_n hx hb dX4_codeAt_12 rfl (lv_at hl 1 rfl) ?_
      refine lv_bipush (v := (60 : Int32)) hx hb dX4_codeAt_13 (by decide) ?_
      refine lv_icmp_ge (tgt := 27) hx hb dX4_codeAt_15 (by decide) (fun c_15 => ?_) (fun c_15 => ?_)
      · have hf := it_pos c_15 hf
        refine lv_iconst (v := (0 : Int32)) hx hb dX4_codeAt_27 (by decide) ?_
        obtain rfl := Option.some.inj hf
        exact W.iret hx hb hr (fun t ht hW => ⟨rfl, ht⟩) (fun q hq => absurd hq List.not_mem_nil) dX4_codeAt_28 hlocks
      · have hf := it_neg c_15 hf
        refine lv_aload_n hx hb dX4_codeAt_18 rfl (lv_at hl 0 rfl) ?_
        refine va_get (D := D) (ci := 4) (v := .ref t_codes_a) (C := RX4) (T := TX4) (N := 2) hx hb hts iw_X4_codeAt_X4 hown hK hP 0 rfl rfl 0 (by decide) (hts (.fieldLink RX4 9 "RibbonPosts$Text" "codes" "[I") mw_X4_codeAt_1) (fun _ h9 => h9) rfl dX4_codeAt_19 ?_
        refine lv_iload_n hx hb dX4_codeAt_22 rfl (lv_at hl 1 rfl) ?_
        obtain ⟨g_23, hf⟩ := gd_some hf
        refine va_iald (D := D) hx hb hK hP 1 0 rfl rfl (gd_in g_23) dX4_codeAt_23 ?_
        refine lv_goto (tgt := 28) hx hb dX4_codeAt_24 (by decide) ?_
        obtain rfl := Option.some.inj hf
        exact W.iret hx hb hr (fun t ht hW => ⟨rfl, ht⟩) (fun q hq => absurd hq List.not_mem_nil) dX4_codeAt_28 hlocks
theorem c_X4_codeAt (l : Launch) (D : va_G) (T : TY) (t_a t_codes_a : Nat) (t_codes : Nat → Int32) (t_length : Int32) (x1 : Int32) (res : Int32) (hf : f_X4_codeAt t_codes t_length x1 = some res) : Met l yX4_codeAt wsX4_codeAt rmX4_codeAt (va_Pc [.ref t_a, .int x1] (PB D T [(t_a, .inr (4, [.ref t_codes_a, .int t_length])), (t_codes_a, .inl (T.1, (60, .inl t_codes)))])) (Qp (some (.int res))) 0 0 (fun _ => False) :=
  metP_of (by decide +kernel) rfl (Nat.le_of_ble_eq_true rfl) (fun p e s m args below meth c C hP ls hl => w_X4_codeAt_b0 C hP hf ls hl)
def rmX4_isPostLetter : Room := { frames := 0, cells := 0, slots := 0, locals := 0 }
theorem hdS_X4_isPostLetter : yX4_isPostLetter.cls ≠ "java/lang/invoke/MethodHandle" ∧ yX4_isPostLetter.cls ≠ "java/lang/invoke/VarHandle" ∧ (parseMethodDescriptor yX4_isPostLetter.desc).map (fun d => d.parameters.length) = some 1 := by decide +kernel
set_option maxHeartbeats 4000000 in
set_option maxRecDepth 100000 in
theorem w_X4_isPostLetter_b0 {p : Program} {l : Launch} {e : Env} {s : State} {m : MethodId} {args : Array Value} {below : List Frame} {meth : Method} {c : Code} {D : va_G} {T : TY} {x0 : Int32} {res : Int32} (C : CX p s m args meth c cX4_isPostLetter 1 RX4 wsX4_isPostLetter (some .boolean) D T) (hP : va_P D vwCl [] s.heap) : f_X4_isPostLetter x0 = some res → ∀ ls : Array Slot, lv_has ls 1 [(0, .int x0)] → W p l e rmX4_isPostLetter s m args below meth c s.heap [] 0 0 (MQ below (Qp (some (.int res))) args s 0 0 (fun _ => False)) (F0 m 0 ls []) := by
  obtain ⟨hx, hb, hml, hown, hts, hr, hlocks, hK, hN⟩ := id C
  intro  hf ls hl
  unfold f_X4_isPostLetter at hf
  refine lv_iload_n hx hb dX4_isPostLetter_0 rfl (lv_at hl 0 rfl) ?_
  refine lv_bipush (v := (97 : Int32)) hx hb dX4_isPostLetter_1 (by decide) ?_
  refine lv_icmp_lt (tgt := 16) hx hb dX4_isPostLetter_3 (by decide) (fun c_3 => ?_) (fun c_3 => ?_)
  · have hf := it_pos c_3 hf
    refine lv_iconst (v := (0 : Int32)) hx hb dX4_isPostLetter_16 (by decide) ?_
    obtain rfl := Option.some.inj hf
    exact W.zret hx hb hr (by decide) (fun t ht hW => ⟨rfl, ht⟩) (fun q hq => absurd hq List.not_mem_nil) dX4_isPostLetter_17 hlocks
  · have hf := it_neg c_3 hf
    refine lv_iload_n hx hb dX4_isPostLetter_6 rfl (lv_at hl 0 rfl) ?_
    refine lv_bipush (v := (112 : Int32)) hx hb dX4_isPostLetter_7 (by decide) ?_
    refine lv_icmp_gt (tgt := 16) hx hb dX4_isPostLetter_9 (by decide) (fun c_9 => ?_) (fun c_9 => ?_)
    · have hf := it_pos c_9 hf
      refine lv_iconst (v := (0 : Int32)) hx hb dX4_isPostLetter_16 (by decide) ?_
      obtain rfl := Option.some.inj hf
      exact W.zret hx hb hr (by decide) (fun t ht hW => ⟨rfl, ht⟩) (fun q hq => absurd hq List.not_mem_nil) dX4_isPostLetter_17 hlocks
    · have hf := it_neg c_9 hf
      refine lv_iconst (v := (1 : Int32)) hx hb dX4_isPostLetter_12 (by decide) ?_
      refine lv_goto (tgt := 17) hx hb dX4_isPostLetter_13 (by decide) ?_
      obtain rfl := Option.some.inj hf
      exact W.zret hx hb hr (by decide) (fun t ht hW => ⟨rfl, ht⟩) (fun q hq => absurd hq List.not_mem_nil) dX4_isPostLetter_17 hlocks
theorem c_X4_isPostLetter (l : Launch) (D : va_G) (T : TY) (x0 : Int32) (res : Int32) (hf : f_X4_isPostLetter x0 = some res) : Met l yX4_isPostLetter wsX4_isPostLetter rmX4_isPostLetter (va_Pc [.int x0] (PB D T [])) (Qp (some (.int res))) 0 0 (fun _ => False) :=
  metP_of (by decide +kernel) rfl (Nat.le_of_ble_eq_true rfl) (fun p e s m args below meth c C hP ls hl => w_X4_isPostLetter_b0 C hP hf ls hl)
def rmX4_isOtherColumn : Room := { frames := 1, cells := 0, slots := 0, locals := 20 }
theorem hdS_X4_isOtherColumn : yX4_isOtherColumn.cls ≠ "java/lang/invoke/MethodHandle" ∧ yX4_isOtherColumn.cls ≠ "java/lang/invoke/VarHandle" ∧ (parseMethodDescriptor yX4_isOtherColumn.desc).map (fun d => d.parameters.length) = some 2 := by decide +kernel
theorem mw_X4_isOtherColumn_0 : Cond.static yX6_columnOf ∈ wsX4_isOtherColumn := by decide +kernel
theorem mw_X4_isOtherColumn_1 : Cond.initialized RX6 ∈ wsX4_isOtherColumn := by decide +kernel
theorem mw_X4_isOtherColumn_2 : Cond.static yX4_isPostLetter ∈ wsX4_isOtherColumn := by decide +kernel
set_option maxHeartbeats 4000000 in
set_option maxRecDepth 100000 in
theorem w_X4_isOtherColumn_b0 {p : Program} {l : Launch} {e : Env} {s : State} {m : MethodId} {args : Array Value} {below : List Frame} {meth : Method} {c : Code} {D : va_G} {T : TY} {x0 : Int32} {x1 : Int32} {res : Int32} (C : CX p s m args meth c cX4_isOtherColumn 2 RX4 wsX4_isOtherColumn (some .boolean) D T) (hP : va_P D vwCl [] s.heap) : f_X4_isOtherColumn x0 x1 = some res → ∀ ls : Array Slot, lv_has ls 2 [(0, .int x0), (1, .int x1)] → W p l e rmX4_isOtherColumn s m args below meth c s.heap [] 0 0 (MQ below (Qp (some (.int res))) args s 0 0 (fun _ => False)) (F0 m 0 ls []) := by
  obtain ⟨hx, hb, hml, hown, hts, hr, hlocks, hK, hN⟩ := id C
  intro  hf ls hl
  unfold f_X4_isOtherColumn at hf
  refine lv_iload_n hx hb dX4_isOtherColumn_0 rfl (lv_at hl 0 rfl) ?_
  obtain ⟨q1, e_1, hf⟩ := bd_some hf
  refine callPi (va_runS (As := [.int x0]) (rest := []) ⟨hx, hb, hml, hown, hts⟩ (c_X4_isPostLetter l D T x0 q1 e_1) (va_cwS 1 hts gX4_isOtherColumn_X4_isPostLetter rfl rfl rfl hdS_X4_isPostLetter ⟨Nat.le_of_ble_eq_true rfl, Nat.le_of_ble_eq_true rfl⟩) (preBS va_P0 hK hN) rfl rfl hl.1 rfl (lv_room (Nat.le_of_ble_eq_true rfl)) dX4_isOtherColumn_1 ⟨Nat.le_of_ble_eq_true rfl, Nat.le_of_ble_eq_true rfl⟩) ?_
  refine lv_if_eq (tgt := 28) hx hb dX4_isOtherColumn_4 (by decide) (fun c_4 => ?_) (fun c_4 => ?_)
  · have hf := it_pos c_4 hf
    refine lv_iconst (v := (0 : Int32)) hx hb dX4_isOtherColumn_28 (by decide) ?_
    obtain rfl := Option.some.inj hf
    exact W.zret hx hb hr (by decide) (fun t ht hW => ⟨rfl, ht⟩) (fun q hq => absurd hq List.not_mem_nil) dX4_isOtherColumn_29 hlocks
  · have hf := it_neg c_4 hf
    refine lv_iload_n hx hb dX4_isOtherColumn_7 rfl (lv_at hl 0 rfl) ?_
    refine lv_bipush (v := (97 : Int32)) hx hb dX4_isOtherColumn_8 (by decide) ?_
    refine lv_isub hx hb dX4_isOtherColumn_10 ?_
    obtain ⟨q11, e_11, hf⟩ := bd_some hf
    refine callPi (va_runSN (As := [.int (x0 - (97 : Int32))]) (rest := []) ⟨hx, hb, hml, hown, hts⟩ (c_X6_columnOf l D T (x0 - (97 : Int32)) q11 e_11) ⟨va_cnB 1 hts gX4_isOtherColumn_X6_columnOf_n48 rfl rfl rfl (hN.m 8 rfl) (hts (.initialized RX6) mw_X4_isOtherColumn_1) hdS_X6_columnOf ⟨Nat.le_of_ble_eq_true rfl, Nat.le_of_ble_eq_true rfl⟩, (hts (.static yX6_columnOf) mw_X4_isOtherColumn_0), trivial⟩ (preBS va_P0 hK hN) rfl rfl hl.1 rfl (lv_room (Nat.le_of_ble_eq_true rfl)) dX4_isOtherColumn_11 ⟨Nat.le_of_ble_eq_true rfl, Nat.le_of_ble_eq_true rfl⟩) ?_
    refine lv_iload_n hx hb dX4_isOtherColumn_14 rfl (lv_at hl 1 rfl) ?_
    refine lv_bipush (v := (97 : Int32)) hx hb dX4_isOtherColumn_15 (by decide) ?_
    refine lv_isub hx hb dX4_isOtherColumn_17 ?_
    obtain ⟨q18, e_18, hf⟩ := bd_some hf
    refine callPi (va_runSN (As := [.int (x1 - (97 : Int32))]) (rest := [.int q11]) ⟨hx, hb, hml, hown, hts⟩ (c_X6_columnOf l D T (x1 - (97 : Int32)) q18 e_18) ⟨va_cnB 1 hts gX4_isOtherColumn_X6_columnOf_n48 rfl rfl rfl (hN.m 8 rfl) (hts (.initialized RX6) mw_X4_isOtherColumn_1) hdS_X6_columnOf ⟨Nat.le_of_ble_eq_true rfl, Nat.le_of_ble_eq_true rfl⟩, (hts (.static yX6_columnOf) mw_X4_isOtherColumn_0), trivial⟩ (preBS va_P0 hK hN) rfl rfl hl.1 rfl (lv_room (Nat.le_of_ble_eq_true rfl)) dX4_isOtherColumn_18 ⟨Nat.le_of_ble_eq_true rfl, Nat.le_of_ble_eq_true rfl⟩) ?_
    refine lv_icmp_eq (tgt := 28) hx hb dX4_isOtherColumn_21 (by decide) (fun c_21 => ?_) (fun c_21 => ?_)
    · have hf := it_pos c_21 hf
      refine lv_iconst (v := (0 : Int32)) hx hb dX4_isOtherColumn_28 (by decide) ?_
      obtain rfl := Option.some.inj hf
      exact W.zret hx hb hr (by decide) (fun t ht hW => ⟨rfl, ht⟩) (fun q hq => absurd hq List.not_mem_nil) dX4_isOtherColumn_29 hlocks
    · have hf := it_neg c_21 hf
      refine lv_iconst (v := (1 : Int32)) hx hb dX4_isOtherColumn_24 (by decide) ?_
      refine lv_goto (tgt := 29) hx hb dX4_isOtherColumn_25 (by decide) ?_
      obtain rfl := Option.some.inj hf
      exact W.zret hx hb hr (by decide) (fun t ht hW => ⟨rfl, ht⟩) (fun q hq => absurd hq List.not_mem_nil) dX4_isOtherColumn_29 hlocks
theorem c_X4_isOtherColumn (l : Launch) (D : va_G) (T : TY) (x0 : Int32) (x1 : Int32) (res : Int32) (hf : f_X4_isOtherColumn x0 x1 = some res) : Met l yX4_isOtherColumn wsX4_isOtherColumn rmX4_isOtherColumn (va_Pc [.int x0, .int x1] (PB D T [])) (Qp (some (.int res))) 0 0 (fun _ => False) :=
  metP_of (by decide +kernel) rfl (Nat.le_of_ble_eq_true rfl) (fun p e s m args below meth c C hP ls hl => w_X4_isOtherColumn_b0 C hP hf ls hl)
def rmX4_isDigit : Room := { frames := 0, cells := 0, slots := 0, locals := 0 }
theorem hdS_X4_isDigit : yX4_isDigit.cls ≠ "java/lang/invoke/MethodHandle" ∧ yX4_isDigit.cls ≠ "java/lang/invoke/VarHandle" ∧ (parseMethodDescriptor yX4_isDigit.desc).map (fun d => d.parameters.length) = some 1 := by decide +kernel
set_option maxHeartbeats 4000000 in
set_option maxRecDepth 100000 in
theorem w_X4_isDigit_b0 {p : Program} {l : Launch} {e : Env} {s : State} {m : MethodId} {args : Array Value} {below : List Frame} {meth : Method} {c : Code} {D : va_G} {T : TY} {x0 : Int32} {res : Int32} (C : CX p s m args meth c cX4_isDigit 1 RX4 wsX4_isDigit (some .boolean) D T) (hP : va_P D vwCl [] s.heap) : f_X4_isDigit x0 = some res → ∀ ls : Array Slot, lv_has ls 1 [(0, .int x0)] → W p l e rmX4_isDigit s m args below meth c s.heap [] 0 0 (MQ below (Qp (some (.int res))) args s 0 0 (fun _ => False)) (F0 m 0 ls []) := by
  obtain ⟨hx, hb, hml, hown, hts, hr, hlocks, hK, hN⟩ := id C
  intro  hf ls hl
  unfold f_X4_isDigit at hf
  refine lv_iload_n hx hb dX4_isDigit_0 rfl (lv_at hl 0 rfl) ?_
  refine lv_bipush (v := (48 : Int32)) hx hb dX4_isDigit_1 (by decide) ?_
  refine lv_icmp_lt (tgt := 16) hx hb dX4_isDigit_3 (by decide) (fun c_3 => ?_) (fun c_3 => ?_)
  · have hf := it_pos c_3 hf
    refine lv_iconst (v := (0 : Int32)) hx hb dX4_isDigit_16 (by decide) ?_
    obtain rfl := Option.some.inj hf
    exact W.zret hx hb hr (by decide) (fun t ht hW => ⟨rfl, ht⟩) (fun q hq => absurd hq List.not_mem_nil) dX4_isDigit_17 hlocks
  · have hf := it_neg c_3 hf
    refine lv_iload_n hx hb dX4_isDigit_6 rfl (lv_at hl 0 rfl) ?_
    refine lv_bipush (v := (57 : Int32)) hx hb dX4_isDigit_7 (by decide) ?_
    refine lv_icmp_gt (tgt := 16) hx hb dX4_isDigit_9 (by decide) (fun c_9 => ?_) (fun c_9 => ?_)
    · have hf := it_pos c_9 hf
      refine lv_iconst (v := (0 : Int32)) hx hb dX4_isDigit_16 (by decide) ?_
      obtain rfl := Option.some.inj hf
      exact W.zret hx hb hr (by decide) (fun t ht hW => ⟨rfl, ht⟩) (fun q hq => absurd hq List.not_mem_nil) dX4_isDigit_17 hlocks
    · have hf := it_neg c_9 hf
      refine lv_iconst (v := (1 : Int32)) hx hb dX4_isDigit_12 (by decide) ?_
      refine lv_goto (tgt := 17) hx hb dX4_isDigit_13 (by decide) ?_
      obtain rfl := Option.some.inj hf
      exact W.zret hx hb hr (by decide) (fun t ht hW => ⟨rfl, ht⟩) (fun q hq => absurd hq List.not_mem_nil) dX4_isDigit_17 hlocks
theorem c_X4_isDigit (l : Launch) (D : va_G) (T : TY) (x0 : Int32) (res : Int32) (hf : f_X4_isDigit x0 = some res) : Met l yX4_isDigit wsX4_isDigit rmX4_isDigit (va_Pc [.int x0] (PB D T [])) (Qp (some (.int res))) 0 0 (fun _ => False) :=
  metP_of (by decide +kernel) rfl (Nat.le_of_ble_eq_true rfl) (fun p e s m args below meth c C hP ls hl => w_X4_isDigit_b0 C hP hf ls hl)
def rmX4_stageAfterFirstDigit : Room := { frames := 1, cells := 0, slots := 0, locals := 20 }
theorem hdS_X4_stageAfterFirstDigit : yX4_stageAfterFirstDigit.cls ≠ "java/lang/invoke/MethodHandle" ∧ yX4_stageAfterFirstDigit.cls ≠ "java/lang/invoke/VarHandle" ∧ (parseMethodDescriptor yX4_stageAfterFirstDigit.desc).map (fun d => d.parameters.length) = some 1 := by decide +kernel
theorem mw_X4_stageAfterFirstDigit_0 : Cond.static yX4_isDigit ∈ wsX4_stageAfterFirstDigit := by decide +kernel
set_option maxHeartbeats 4000000 in
set_option maxRecDepth 100000 in
theorem w_X4_stageAfterFirstDigit_b0 {p : Program} {l : Launch} {e : Env} {s : State} {m : MethodId} {args : Array Value} {below : List Frame} {meth : Method} {c : Code} {D : va_G} {T : TY} {x0 : Int32} {res : Int32} (C : CX p s m args meth c cX4_stageAfterFirstDigit 1 RX4 wsX4_stageAfterFirstDigit (some .int) D T) (hP : va_P D vwCl [] s.heap) : f_X4_stageAfterFirstDigit x0 = some res → ∀ ls : Array Slot, lv_has ls 1 [(0, .int x0)] → W p l e rmX4_stageAfterFirstDigit s m args below meth c s.heap [] 0 0 (MQ below (Qp (some (.int res))) args s 0 0 (fun _ => False)) (F0 m 0 ls []) := by
  obtain ⟨hx, hb, hml, hown, hts, hr, hlocks, hK, hN⟩ := id C
  intro  hf ls hl
  unfold f_X4_stageAfterFirstDigit at hf
  refine lv_iload_n hx hb dX4_stageAfterFirstDigit_0 rfl (lv_at hl 0 rfl) ?_
  obtain ⟨q1, e_1, hf⟩ := bd_some hf
  refine callPi (va_runS (As := [.int x0]) (rest := []) ⟨hx, hb, hml, hown, hts⟩ (c_X4_isDigit l D T x0 q1 e_1) (va_cwS 1 hts gX4_stageAfterFirstDigit_X4_isDigit rfl rfl rfl hdS_X4_isDigit ⟨Nat.le_of_ble_eq_true rfl, Nat.le_of_ble_eq_true rfl⟩) (preBS va_P0 hK hN) rfl rfl hl.1 rfl (lv_room (Nat.le_of_ble_eq_true rfl)) dX4_stageAfterFirstDigit_1 ⟨Nat.le_of_ble_eq_true rfl, Nat.le_of_ble_eq_true rfl⟩) ?_
  refine lv_if_eq (tgt := 13) hx hb dX4_stageAfterFirstDigit_4 (by decide) (fun c_4 => ?_) (fun c_4 => ?_)
  · have hf := it_pos c_4 hf
    refine lv_iconst (v := (0 : Int32)) hx hb dX4_stageAfterFirstDigit_13 (by decide) ?_
    obtain rfl := Option.some.inj hf
    exact W.iret hx hb hr (fun t ht hW => ⟨rfl, ht⟩) (fun q hq => absurd hq List.not_mem_nil) dX4_stageAfterFirstDigit_14 hlocks
  · have hf := it_neg c_4 hf
    refine lv_iload_n hx hb dX4_stageAfterFirstDigit_7 rfl (lv_at hl 0 rfl) ?_
    refine lv_bipush (v := (48 : Int32)) hx hb dX4_stageAfterFirstDigit_8 (by decide) ?_
    refine lv_icmp_ne (tgt := 15) hx hb dX4_stageAfterFirstDigit_10 (by decide) (fun c_10 => ?_) (fun c_10 => ?_)
    · have hf := it_neg c_10 hf
      refine lv_iload_n hx hb dX4_stageAfterFirstDigit_15 rfl (lv_at hl 0 rfl) ?_
      refine lv_bipush (v := (53 : Int32)) hx hb dX4_stageAfterFirstDigit_16 (by decide) ?_
      refine lv_icmp_ge (tgt := 23) hx hb dX4_stageAfterFirstDigit_18 (by decide) (fun c_18 => ?_) (fun c_18 => ?_)
      · have hf := it_pos c_18 hf
        refine lv_iload_n hx hb dX4_stageAfterFirstDigit_23 rfl (lv_at hl 0 rfl) ?_
        refine lv_bipush (v := (53 : Int32)) hx hb dX4_stageAfterFirstDigit_24 (by decide) ?_
        refine lv_icmp_ne (tgt := 33) hx hb dX4_stageAfterFirstDigit_26 (by decide) (fun c_26 => ?_) (fun c_26 => ?_)
        · have hf := it_neg c_26 hf
          refine lv_bipush (v := (6 : Int32)) hx hb dX4_stageAfterFirstDigit_33 (by decide) ?_
          obtain rfl := Option.some.inj hf
          exact W.iret hx hb hr (fun t ht hW => ⟨rfl, ht⟩) (fun q hq => absurd hq List.not_mem_nil) dX4_stageAfterFirstDigit_35 hlocks
        · have hf := it_pos c_26 hf
          refine lv_iconst (v := (5 : Int32)) hx hb dX4_stageAfterFirstDigit_29 (by decide) ?_
          refine lv_goto (tgt := 35) hx hb dX4_stageAfterFirstDigit_30 (by decide) ?_
          obtain rfl := Option.some.inj hf
          exact W.iret hx hb hr (fun t ht hW => ⟨rfl, ht⟩) (fun q hq => absurd hq List.not_mem_nil) dX4_stageAfterFirstDigit_35 hlocks
      · have hf := it_neg c_18 hf
        refine lv_iconst (v := (4 : Int32)) hx hb dX4_stageAfterFirstDigit_21 (by decide) ?_
        obtain rfl := Option.some.inj hf
        exact W.iret hx hb hr (fun t ht hW => ⟨rfl, ht⟩) (fun q hq => absurd hq List.not_mem_nil) dX4_stageAfterFirstDigit_22 hlocks
    · have hf := it_pos c_10 hf
      refine lv_iconst (v := (0 : Int32)) hx hb dX4_stageAfterFirstDigit_13 (by decide) ?_
      obtain rfl := Option.some.inj hf
      exact W.iret hx hb hr (fun t ht hW => ⟨rfl, ht⟩) (fun q hq => absurd hq List.not_mem_nil) dX4_stageAfterFirstDigit_14 hlocks
theorem c_X4_stageAfterFirstDigit (l : Launch) (D : va_G) (T : TY) (x0 : Int32) (res : Int32) (hf : f_X4_stageAfterFirstDigit x0 = some res) : Met l yX4_stageAfterFirstDigit wsX4_stageAfterFirstDigit rmX4_stageAfterFirstDigit (va_Pc [.int x0] (PB D T [])) (Qp (some (.int res))) 0 0 (fun _ => False) :=
  metP_of (by decide +kernel) rfl (Nat.le_of_ble_eq_true rfl) (fun p e s m args below meth c C hP ls hl => w_X4_stageAfterFirstDigit_b0 C hP hf ls hl)
def rmX4_stageAfterWidth : Room := { frames := 0, cells := 0, slots := 0, locals := 0 }
theorem hdS_X4_stageAfterWidth : yX4_stageAfterWidth.cls ≠ "java/lang/invoke/MethodHandle" ∧ yX4_stageAfterWidth.cls ≠ "java/lang/invoke/VarHandle" ∧ (parseMethodDescriptor yX4_stageAfterWidth.desc).map (fun d => d.parameters.length) = some 1 := by decide +kernel
set_option maxHeartbeats 4000000 in
set_option maxRecDepth 100000 in
theorem w_X4_stageAfterWidth_b0 {p : Program} {l : Launch} {e : Env} {s : State} {m : MethodId} {args : Array Value} {below : List Frame} {meth : Method} {c : Code} {D : va_G} {T : TY} {x0 : Int32} {res : Int32} (C : CX p s m args meth c cX4_stageAfterWidth 1 RX4 wsX4_stageAfterWidth (some .int) D T) (hP : va_P D vwCl [] s.heap) : f_X4_stageAfterWidth x0 = some res → ∀ ls : Array Slot, lv_has ls 1 [(0, .int x0)] → W p l e rmX4_stageAfterWidth s m args below meth c s.heap [] 0 0 (MQ below (Qp (some (.int res))) args s 0 0 (fun _ => False)) (F0 m 0 ls []) := by
  obtain ⟨hx, hb, hml, hown, hts, hr, hlocks, hK, hN⟩ := id C
  intro  hf ls hl
  unfold f_X4_stageAfterWidth at hf
  refine lv_iload_n hx hb dX4_stageAfterWidth_0 rfl (lv_at hl 0 rfl) ?_
  refine lv_bipush (v := (59 : Int32)) hx hb dX4_stageAfterWidth_1 (by decide) ?_
  refine lv_icmp_ne (tgt := 10) hx hb dX4_stageAfterWidth_3 (by decide) (fun c_3 => ?_) (fun c_3 => ?_)
  · have hf := it_neg c_3 hf
    refine lv_iconst (v := (0 : Int32)) hx hb dX4_stageAfterWidth_10 (by decide) ?_
    obtain rfl := Option.some.inj hf
    exact W.iret hx hb hr (fun t ht hW => ⟨rfl, ht⟩) (fun q hq => absurd hq List.not_mem_nil) dX4_stageAfterWidth_11 hlocks
  · have hf := it_pos c_3 hf
    refine lv_iconst (v := (1 : Int32)) hx hb dX4_stageAfterWidth_6 (by decide) ?_
    refine lv_goto (tgt := 11) hx hb dX4_stageAfterWidth_7 (by decide) ?_
    obtain rfl := Option.some.inj hf
    exact W.iret hx hb hr (fun t ht hW => ⟨rfl, ht⟩) (fun q hq => absurd hq List.not_mem_nil) dX4_stageAfterWidth_11 hlocks
theorem c_X4_stageAfterWidth (l : Launch) (D : va_G) (T : TY) (x0 : Int32) (res : Int32) (hf : f_X4_stageAfterWidth x0 = some res) : Met l yX4_stageAfterWidth wsX4_stageAfterWidth rmX4_stageAfterWidth (va_Pc [.int x0] (PB D T [])) (Qp (some (.int res))) 0 0 (fun _ => False) :=
  metP_of (by decide +kernel) rfl (Nat.le_of_ble_eq_true rfl) (fun p e s m args below meth c C hP ls hl => w_X4_stageAfterWidth_b0 C hP hf ls hl)
def rmX4_stageAfter : Room := { frames := 2, cells := 0, slots := 0, locals := 41 }
theorem hdV_X4_stageAfter : yX4_stageAfter.cls = RX4 ∧ yX4_stageAfter.cls ≠ "java/lang/invoke/MethodHandle" ∧ yX4_stageAfter.cls ≠ "java/lang/invoke/VarHandle" ∧ (parseMethodDescriptor yX4_stageAfter.desc).map (fun d => d.parameters.length) = some 2 := by decide +kernel
theorem mw_X4_stageAfter_0 : Cond.static yX4_isPostLetter ∈ wsX4_stageAfter := by decide +kernel
theorem mw_X4_stageAfter_1 : Cond.static yX4_isOtherColumn ∈ wsX4_stageAfter := by decide +kernel
theorem mw_X4_stageAfter_2 : Cond.static yX4_stageAfterFirstDigit ∈ wsX4_stageAfter := by decide +kernel
theorem mw_X4_stageAfter_3 : Cond.static yX4_stageAfterWidth ∈ wsX4_stageAfter := by decide +kernel
theorem mw_X4_stageAfter_4 : Cond.static yX4_isDigit ∈ wsX4_stageAfter := by decide +kernel
set_option maxHeartbeats 4000000 in
set_option maxRecDepth 100000 in
theorem w_X4_stageAfter_b0 {p : Program} {l : Launch} {e : Env} {s : State} {m : MethodId} {args : Array Value} {below : List Frame} {meth : Method} {c : Code} {D : va_G} {T : TY} {t_a t_codes_a : Nat} {t_codes : Nat → Int32} {t_length : Int32} {x1 : Int32} {x2 : Int32} {res : Int32} (C : CX p s m args meth c cX4_stageAfter 4 RX4 wsX4_stageAfter (some .int) D T) (hP : va_P D vwCl [(t_a, .inr (4, [.ref t_codes_a, .int t_length])), (t_codes_a, .inl (T.1, (60, .inl t_codes)))] s.heap) : f_X4_stageAfter t_codes t_length x1 x2 = some res → ∀ ls : Array Slot, lv_has ls 4 [(0, .ref t_a), (1, .int x1), (2, .int x2)] → W p l e rmX4_stageAfter s m args below meth c s.heap [] 0 0 (MQ below (Qp (some (.int res))) args s 0 0 (fun _ => False)) (F0 m 0 ls []) := by
  obtain ⟨hx, hb, hml, hown, hts, hr, hlocks, hK, hN⟩ := id C
  intro  hf ls hl
  unfold f_X4_stageAfter at hf
  refine lv_aload_n hx hb dX4_stageAfter_0 rfl (lv_at hl 0 rfl) ?_
  refine lv_iload_n hx hb dX4_stageAfter_1 rfl (lv_at hl 2 rfl) ?_
  obtain ⟨q2, e_2, hf⟩ := bd_some hf
  refine callPi (va_runV (As := [.int x2]) (rest := []) ⟨hx, hb, hml, hown, hts⟩ (c_X4_codeAt l D T t_a t_codes_a t_codes t_length x2 q2 e_2) (cwV 1 hts gX4_stageAfter_X4_codeAt rfl rfl rfl hdV_X4_codeAt ⟨Nat.le_of_ble_eq_true rfl, Nat.le_of_ble_eq_true rfl⟩) (preBV hP hK hN rfl 0 rfl) rfl rfl hl.1 rfl (lv_room (Nat.le_of_ble_eq_true rfl)) dX4_stageAfter_2 ⟨Nat.le_of_ble_eq_true rfl, Nat.le_of_ble_eq_true rfl⟩) ?_
  refine lv_istore_n (lv' := [(3, .int q2), (0, .ref t_a), (1, .int x1), (2, .int x2)]) hx hb dX4_stageAfter_5 rfl hl (by decide) rfl (fun ls hl => ?_)
  refine lv_iload_n hx hb dX4_stageAfter_6 rfl (lv_at hl 2 rfl) ?_
  by_cases c_7_1 : x1 = (1 : Int32)
  · have hf := it_pos c_7_1 hf
    refine lv_tableIn (tgt := 44) hx hb dX4_stageAfter_7 (by rw [c_7_1]; decide) (by rw [c_7_1]; decide) (by rw [c_7_1]; rfl) (by decide) ?_
    refine lv_iload_n hx hb dX4_stageAfter_44 rfl (lv_at hl 0 rfl) ?_
    obtain ⟨q45, e_45, hf⟩ := bd_some hf
    refine callPi (va_runS (As := [.int q2]) (rest := []) ⟨hx, hb, hml, hown, hts⟩ (c_X4_isPostLetter l D T q2 q45 e_45) (va_cwS 1 hts gX4_stageAfter_X4_isPostLetter rfl rfl rfl hdS_X4_isPostLetter ⟨Nat.le_of_ble_eq_true rfl, Nat.le_of_ble_eq_true rfl⟩) (preBS va_P0 hK hN) rfl rfl hl.1 rfl (lv_room (Nat.le_of_ble_eq_true rfl)) dX4_stageAfter_45 ⟨Nat.le_of_ble_eq_true rfl, Nat.le_of_ble_eq_true rfl⟩) ?_
    refine lv_if_eq (tgt := 55) hx hb dX4_stageAfter_48 (by decide) (fun c_48 => ?_) (fun c_48 => ?_)
    · have hf := it_pos c_48 hf
      refine lv_iconst (v := (0 : Int32)) hx hb dX4_stageAfter_55 (by decide) ?_
      obtain rfl := Option.some.inj hf
      exact W.iret hx hb hr (fun t ht hW => ⟨rfl, ht⟩) (fun q hq => absurd hq List.not_mem_nil) dX4_stageAfter_56 hlocks
    · have hf := it_neg c_48 hf
      refine lv_iconst (v := (2 : Int32)) hx hb dX4_stageAfter_51 (by decide) ?_
      refine lv_goto (tgt := 56) hx hb dX4_stageAfter_52 (by decide) ?_
      obtain rfl := Option.some.inj hf
      exact W.iret hx hb hr (fun t ht hW => ⟨rfl, ht⟩) (fun q hq => absurd hq List.not_mem_nil) dX4_stageAfter_56 hlocks
  have hf := it_neg c_7_1 hf
  by_cases c_7_2 : x1 = (2 : Int32)
  · have hf := it_pos c_7_2 hf
    refine lv_tableIn (tgt := 57) hx hb dX4_stageAfter_7 (by rw [c_7_2]; decide) (by rw [c_7_2]; decide) (by rw [c_7_2]; rfl) (by decide) ?_
    refine lv_iload_n hx hb dX4_stageAfter_57 rfl (lv_at hl 0 rfl) ?_
    refine lv_aload_n hx hb dX4_stageAfter_58 rfl (lv_at hl 1 rfl) ?_
    refine lv_iload_n hx hb dX4_stageAfter_59 rfl (lv_at hl 3 rfl) ?_
    refine lv_iconst (v := (1 : Int32)) hx hb dX4_stageAfter_60 (by decide) ?_
    refine lv_isub hx hb dX4_stageAfter_61 ?_
    obtain ⟨q62, e_62, hf⟩ := bd_some hf
    refine callPi (va_runV (As := [.int (x2 - (1 : Int32))]) (rest := [.int q2]) ⟨hx, hb, hml, hown, hts⟩ (c_X4_codeAt l D T t_a t_codes_a t_codes t_length (x2 - (1 : Int32)) q62 e_62) (cwV 1 hts gX4_stageAfter_X4_codeAt rfl rfl rfl hdV_X4_codeAt ⟨Nat.le_of_ble_eq_true rfl, Nat.le_of_ble_eq_true rfl⟩) (preBV hP hK hN rfl 0 rfl) rfl rfl hl.1 rfl (lv_room (Nat.le_of_ble_eq_true rfl)) dX4_stageAfter_62 ⟨Nat.le_of_ble_eq_true rfl, Nat.le_of_ble_eq_true rfl⟩) ?_
    obtain ⟨q65, e_65, hf⟩ := bd_some hf
    refine callPi (va_runS (As := [.int q2, .int q62]) (rest := []) ⟨hx, hb, hml, hown, hts⟩ (c_X4_isOtherColumn l D T q2 q62 q65 e_65) (va_cwS 2 hts gX4_stageAfter_X4_isOtherColumn rfl rfl rfl hdS_X4_isOtherColumn ⟨Nat.le_of_ble_eq_true rfl, Nat.le_of_ble_eq_true rfl⟩) (preBS va_P0 hK hN) rfl rfl hl.1 rfl (lv_room (Nat.le_of_ble_eq_true rfl)) dX4_stageAfter_65 ⟨Nat.le_of_ble_eq_true rfl, Nat.le_of_ble_eq_true rfl⟩) ?_
    refine lv_if_eq (tgt := 75) hx hb dX4_stageAfter_68 (by decide) (fun c_68 => ?_) (fun c_68 => ?_)
    · have hf := it_pos c_68 hf
      refine lv_iconst (v := (0 : Int32)) hx hb dX4_stageAfter_75 (by decide) ?_
      obtain rfl := Option.some.inj hf
      exact W.iret hx hb hr (fun t ht hW => ⟨rfl, ht⟩) (fun q hq => absurd hq List.not_mem_nil) dX4_stageAfter_76 hlocks
    · have hf := it_neg c_68 hf
      refine lv_iconst (v := (3 : Int32)) hx hb dX4_stageAfter_71 (by decide) ?_
      refine lv_goto (tgt := 76) hx hb dX4_stageAfter_72 (by decide) ?_
      obtain rfl := Option.some.inj hf
      exact W.iret hx hb hr (fun t ht hW => ⟨rfl, ht⟩) (fun q hq => absurd hq List.not_mem_nil) dX4_stageAfter_76 hlocks
  have hf := it_neg c_7_2 hf
  by_cases c_7_3 : x1 = (3 : Int32)
  · have hf := it_pos c_7_3 hf
    refine lv_tableIn (tgt := 77) hx hb dX4_stageAfter_7 (by rw [c_7_3]; decide) (by rw [c_7_3]; decide) (by rw [c_7_3]; rfl) (by decide) ?_
    refine lv_iload_n hx hb dX4_stageAfter_77 rfl (lv_at hl 0 rfl) ?_
    obtain ⟨q78, e_78, hf⟩ := bd_some hf
    refine callPi (va_runS (As := [.int q2]) (rest := []) ⟨hx, hb, hml, hown, hts⟩ (c_X4_stageAfterFirstDigit l D T q2 q78 e_78) (va_cwS 1 hts gX4_stageAfter_X4_stageAfterFirstDigit rfl rfl rfl hdS_X4_stageAfterFirstDigit ⟨Nat.le_of_ble_eq_true rfl, Nat.le_of_ble_eq_true rfl⟩) (preBS va_P0 hK hN) rfl rfl hl.1 rfl (lv_room (Nat.le_of_ble_eq_true rfl)) dX4_stageAfter_78 ⟨Nat.le_of_ble_eq_true rfl, Nat.le_of_ble_eq_true rfl⟩) ?_
    obtain rfl := Option.some.inj hf
    exact W.iret hx hb hr (fun t ht hW => ⟨rfl, ht⟩) (fun q hq => absurd hq List.not_mem_nil) dX4_stageAfter_81 hlocks
  have hf := it_neg c_7_3 hf
  by_cases c_7_4 : x1 = (4 : Int32)
  · have hf := it_pos c_7_4 hf
    refine lv_tableIn (tgt := 82) hx hb dX4_stageAfter_7 (by rw [c_7_4]; decide) (by rw [c_7_4]; decide) (by rw [c_7_4]; rfl) (by decide) ?_
    refine lv_iload_n hx hb dX4_stageAfter_82 rfl (lv_at hl 0 rfl) ?_
    obtain ⟨q83, e_83, hf⟩ := bd_some hf
    refine callPi (va_runS (As := [.int q2]) (rest := []) ⟨hx, hb, hml, hown, hts⟩ (c_X4_isDigit l D T q2 q83 e_83) (va_cwS 1 hts gX4_stageAfter_X4_isDigit rfl rfl rfl hdS_X4_isDigit ⟨Nat.le_of_ble_eq_true rfl, Nat.le_of_ble_eq_true rfl⟩) (preBS va_P0 hK hN) rfl rfl hl.1 rfl (lv_room (Nat.le_of_ble_eq_true rfl)) dX4_stageAfter_83 ⟨Nat.le_of_ble_eq_true rfl, Nat.le_of_ble_eq_true rfl⟩) ?_
    refine lv_if_eq (tgt := 94) hx hb dX4_stageAfter_86 (by decide) (fun c_86 => ?_) (fun c_86 => ?_)
    · have hf := it_pos c_86 hf
      refine lv_iload_n hx hb dX4_stageAfter_94 rfl (lv_at hl 0 rfl) ?_
      obtain ⟨q95, e_95, hf⟩ := bd_some hf
      refine callPi (va_runS (As := [.int q2]) (rest := []) ⟨hx, hb, hml, hown, hts⟩ (c_X4_stageAfterWidth l D T q2 q95 e_95) (va_cwS 1 hts gX4_stageAfter_X4_stageAfterWidth rfl rfl rfl hdS_X4_stageAfterWidth ⟨Nat.le_of_ble_eq_true rfl, Nat.le_of_ble_eq_true rfl⟩) (preBS va_P0 hK hN) rfl rfl hl.1 rfl (lv_room (Nat.le_of_ble_eq_true rfl)) dX4_stageAfter_95 ⟨Nat.le_of_ble_eq_true rfl, Nat.le_of_ble_eq_true rfl⟩) ?_
      obtain rfl := Option.some.inj hf
      exact W.iret hx hb hr (fun t ht hW => ⟨rfl, ht⟩) (fun q hq => absurd hq List.not_mem_nil) dX4_stageAfter_98 hlocks
    · have hf := it_neg c_86 hf
      refine lv_bipush (v := (6 : Int32)) hx hb dX4_stageAfter_89 (by decide) ?_
      refine lv_goto (tgt := 98) hx hb dX4_stageAfter_91 (by decide) ?_
      obtain rfl := Option.some.inj hf
      exact W.iret hx hb hr (fun t ht hW => ⟨rfl, ht⟩) (fun q hq => absurd hq List.not_mem_nil) dX4_stageAfter_98 hlocks
  have hf := it_neg c_7_4 hf
  by_cases c_7_5 : x1 = (5 : Int32)
  · have hf := it_pos c_7_5 hf
    refine lv_tableIn (tgt := 99) hx hb dX4_stageAfter_7 (by rw [c_7_5]; decide) (by rw [c_7_5]; decide) (by rw [c_7_5]; rfl) (by decide) ?_
    refine lv_iload_n hx hb dX4_stageAfter_99 rfl (lv_at hl 0 rfl) ?_
    refine lv_bipush (v := (48 : Int32)) hx hb dX4_stageAfter_100 (by decide) ?_
    refine lv_icmp_ne (tgt := 110) hx hb dX4_stageAfter_102 (by decide) (fun c_102 => ?_) (fun c_102 => ?_)
    · have hf := it_neg c_102 hf
      refine lv_iload_n hx hb dX4_stageAfter_110 rfl (lv_at hl 0 rfl) ?_
      obtain ⟨q111, e_111, hf⟩ := bd_some hf
      refine callPi (va_runS (As := [.int q2]) (rest := []) ⟨hx, hb, hml, hown, hts⟩ (c_X4_stageAfterWidth l D T q2 q111 e_111) (va_cwS 1 hts gX4_stageAfter_X4_stageAfterWidth rfl rfl rfl hdS_X4_stageAfterWidth ⟨Nat.le_of_ble_eq_true rfl, Nat.le_of_ble_eq_true rfl⟩) (preBS va_P0 hK hN) rfl rfl hl.1 rfl (lv_room (Nat.le_of_ble_eq_true rfl)) dX4_stageAfter_111 ⟨Nat.le_of_ble_eq_true rfl, Nat.le_of_ble_eq_true rfl⟩) ?_
      obtain rfl := Option.some.inj hf
      exact W.iret hx hb hr (fun t ht hW => ⟨rfl, ht⟩) (fun q hq => absurd hq List.not_mem_nil) dX4_stageAfter_114 hlocks
    · have hf := it_pos c_102 hf
      refine lv_bipush (v := (6 : Int32)) hx hb dX4_stageAfter_105 (by decide) ?_
      refine lv_goto (tgt := 114) hx hb dX4_stageAfter_107 (by decide) ?_
      obtain rfl := Option.some.inj hf
      exact W.iret hx hb hr (fun t ht hW => ⟨rfl, ht⟩) (fun q hq => absurd hq List.not_mem_nil) dX4_stageAfter_114 hlocks
  have hf := it_neg c_7_5 hf
  by_cases c_7_6 : x1 = (6 : Int32)
  · have hf := it_pos c_7_6 hf
    refine lv_tableIn (tgt := 115) hx hb dX4_stageAfter_7 (by rw [c_7_6]; decide) (by rw [c_7_6]; decide) (by rw [c_7_6]; rfl) (by decide) ?_
    refine lv_iload_n hx hb dX4_stageAfter_115 rfl (lv_at hl 0 rfl) ?_
    obtain ⟨q116, e_116, hf⟩ := bd_some hf
    refine callPi (va_runS (As := [.int q2]) (rest := []) ⟨hx, hb, hml, hown, hts⟩ (c_X4_stageAfterWidth l D T q2 q116 e_116) (va_cwS 1 hts gX4_stageAfter_X4_stageAfterWidth rfl rfl rfl hdS_X4_stageAfterWidth ⟨Nat.le_of_ble_eq_true rfl, Nat.le_of_ble_eq_true rfl⟩) (preBS va_P0 hK hN) rfl rfl hl.1 rfl (lv_room (Nat.le_of_ble_eq_true rfl)) dX4_stageAfter_116 ⟨Nat.le_of_ble_eq_true rfl, Nat.le_of_ble_eq_true rfl⟩) ?_
    obtain rfl := Option.some.inj hf
    exact W.iret hx hb hr (fun t ht hW => ⟨rfl, ht⟩) (fun q hq => absurd hq List.not_mem_nil) dX4_stageAfter_119 hlocks
  have hf := it_neg c_7_6 hf
  refine lv_tableOut (tgt := 120) hx hb dX4_stageAfter_7 (tb_out x1 1 6 (by decide) (by decide) (fun k hk => ?_)) (by decide) ?_
  · match k, hk with
    | 0, _ => exact c_7_1
    | 1, _ => exact c_7_2
    | 2, _ => exact c_7_3
    | 3, _ => exact c_7_4
    | 4, _ => exact c_7_5
    | 5, _ => exact c_7_6
    | k + 6, hk => exact absurd hk (by omega)
  refine lv_iconst (v := (0 : Int32)) hx hb dX4_stageAfter_120 (by decide) ?_
  obtain rfl := Option.some.inj hf
  exact W.iret hx hb hr (fun t ht hW => ⟨rfl, ht⟩) (fun q hq => absurd hq List.not_mem_nil) dX4_stageAfter_121 hlocks
theorem c_X4_stageAfter (l : Launch) (D : va_G) (T : TY) (t_a t_codes_a : Nat) (t_codes : Nat → Int32) (t_length : Int32) (x1 : Int32) (x2 : Int32) (res : Int32) (hf : f_X4_stageAfter t_codes t_length x1 x2 = some res) : Met l yX4_stageAfter wsX4_stageAfter rmX4_stageAfter (va_Pc [.ref t_a, .int x1, .int x2] (PB D T [(t_a, .inr (4, [.ref t_codes_a, .int t_length])), (t_codes_a, .inl (T.1, (60, .inl t_codes)))])) (Qp (some (.int res))) 0 0 (fun _ => False) :=
  metP_of (by decide +kernel) rfl (Nat.le_of_ble_eq_true rfl) (fun p e s m args below meth c C hP ls hl => w_X4_stageAfter_b0 C hP hf ls hl)
def rmX4_firstWrong : Room := { frames := 3, cells := 0, slots := 0, locals := 64 }
theorem hdV_X4_firstWrong : yX4_firstWrong.cls = RX4 ∧ yX4_firstWrong.cls ≠ "java/lang/invoke/MethodHandle" ∧ yX4_firstWrong.cls ≠ "java/lang/invoke/VarHandle" ∧ (parseMethodDescriptor yX4_firstWrong.desc).map (fun d => d.parameters.length) = some 0 := by decide +kernel
theorem iw_X4_firstWrong_X4 : ∀ w ∈ wsX40, w ∈ wsX4_firstWrong := by decide +kernel
theorem mw_X4_firstWrong_0 : Cond.fieldLink RX4 15 "RibbonPosts$Text" "length" "I" ∈ wsX4_firstWrong := by decide +kernel
set_option maxHeartbeats 4000000 in
set_option maxRecDepth 100000 in
theorem w_X4_firstWrong_b4 {p : Program} {l : Launch} {e : Env} {s : State} {m : MethodId} {args : Array Value} {below : List Frame} {meth : Method} {c : Code} {D : va_G} {T : TY} {t_a t_codes_a : Nat} {t_codes : Nat → Int32} {t_length : Int32} {res : Int32} (C : CX p s m args meth c cX4_firstWrong 3 RX4 wsX4_firstWrong (some .int) D T) (hP : va_P D vwCl [(t_a, .inr (4, [.ref t_codes_a, .int t_length])), (t_codes_a, .inl (T.1, (60, .inl t_codes)))] s.heap) : ∀ F : Nat, ∀ x1 : Int32, ∀ x2 : Int32, f_X4_firstWrong_b4 t_codes t_length F x1 x2 = some res → ∀ ls : Array Slot, lv_has ls 3 [(0, .ref t_a), (1, .int x1), (2, .int x2)] → W p l e rmX4_firstWrong s m args below meth c s.heap [] 0 0 (MQ below (Qp (some (.int res))) args s 0 0 (fun _ => False)) (F0 m 4 ls []) := by
  obtain ⟨hx, hb, hml, hown, hts, hr, hlocks, hK, hN⟩ := id C
  intro F
  induction F with
  | zero => intro _ _ hf; cases hf
  | succ F ih =>
    intro x1 x2 hf ls hl
    unfold f_X4_firstWrong_b4 at hf
    refine lv_iload_n hx hb dX4_firstWrong_4 rfl (lv_at hl 2 rfl) ?_
    refine lv_aload_n hx hb dX4_firstWrong_5 rfl (lv_at hl 0 rfl) ?_
    refine va_get (D := D) (ci := 4) (v := .int t_length) (C := RX4) (T := TX4) (N := 2) hx hb hts iw_X4_firstWrong_X4 hown hK hP 0 rfl rfl 1 (by decide) (hts (.fieldLink RX4 15 "RibbonPosts$Text" "length" "I") mw_X4_firstWrong_0) (fun _ h9 => h9) rfl dX4_firstWrong_6 ?_
    refine lv_icmp_ge (tgt := 31) hx hb dX4_firstWrong_9 (by decide) (fun c_9 => ?_) (fun c_9 => ?_)
    · have hf := it_pos c_9 hf
      refine lv_aload_n hx hb dX4_firstWrong_31 rfl (lv_at hl 0 rfl) ?_
      refine va_get (D := D) (ci := 4) (v := .int t_length) (C := RX4) (T := TX4) (N := 2) hx hb hts iw_X4_firstWrong_X4 hown hK hP 0 rfl rfl 1 (by decide) (hts (.fieldLink RX4 15 "RibbonPosts$Text" "length" "I") mw_X4_firstWrong_0) (fun _ h9 => h9) rfl dX4_firstWrong_32 ?_
      obtain rfl := Option.some.inj hf
      exact W.iret hx hb hr (fun t ht hW => ⟨rfl, ht⟩) (fun q hq => absurd hq List.not_mem_nil) dX4_firstWrong_35 hlocks
    · have hf := it_neg c_9 hf
      refine lv_aload_n hx hb dX4_firstWrong_12 rfl (lv_at hl 0 rfl) ?_
      refine lv_iload_n hx hb dX4_firstWrong_13 rfl (lv_at hl 1 rfl) ?_
      refine lv_iload_n hx hb dX4_firstWrong_14 rfl (lv_at hl 2 rfl) ?_
      obtain ⟨q15, e_15, hf⟩ := bd_some hf
      refine callPi (va_runV (As := [.int x1, .int x2]) (rest := []) ⟨hx, hb, hml, hown, hts⟩ (c_X4_stageAfter l D T t_a t_codes_a t_codes t_length x1 x2 q15 e_15) (cwV 2 hts gX4_firstWrong_X4_stageAfter rfl rfl rfl hdV_X4_stageAfter ⟨Nat.le_of_ble_eq_true rfl, Nat.le_of_ble_eq_true rfl⟩) (preBV hP hK hN rfl 0 rfl) rfl rfl hl.1 rfl (lv_room (Nat.le_of_ble_eq_true rfl)) dX4_firstWrong_15 ⟨Nat.le_of_ble_eq_true rfl, Nat.le_of_ble_eq_true rfl⟩) ?_
      refine lv_istore_n (lv' := [(1, .int q15), (0, .ref t_a), (2, .int x2)]) hx hb dX4_firstWrong_18 rfl hl (by decide) rfl (fun ls hl => ?_)
      refine lv_iload_n hx hb dX4_firstWrong_19 rfl (lv_at hl 0 rfl) ?_
      refine lv_if_ne (tgt := 25) hx hb dX4_firstWrong_20 (by decide) (fun c_20 => ?_) (fun c_20 => ?_)
      · have hf := it_neg c_20 hf
        obtain ⟨v25, e_25, hf⟩ := nm_some hf
        refine lv_iinc (v := v25) (lv' := [(2, .int v25), (1, .int q15), (0, .ref t_a)]) hx hb dX4_firstWrong_25 hl (k := 2) rfl (by rw [e_25]; rfl) (by decide) rfl (fun ls hl => ?_)
        refine lv_goto (tgt := 4) hx hb dX4_firstWrong_28 (by decide) ?_
        exact ih _ _ hf _ (lv_sub hl [2, 1, 0] rfl)
      · have hf := it_pos c_20 hf
        refine lv_iload_n hx hb dX4_firstWrong_23 rfl (lv_at hl 2 rfl) ?_
        obtain rfl := Option.some.inj hf
        exact W.iret hx hb hr (fun t ht hW => ⟨rfl, ht⟩) (fun q hq => absurd hq List.not_mem_nil) dX4_firstWrong_24 hlocks
set_option maxHeartbeats 4000000 in
set_option maxRecDepth 100000 in
theorem w_X4_firstWrong_b0 {p : Program} {l : Launch} {e : Env} {s : State} {m : MethodId} {args : Array Value} {below : List Frame} {meth : Method} {c : Code} {D : va_G} {T : TY} {t_a t_codes_a : Nat} {t_codes : Nat → Int32} {t_length : Int32} {res : Int32} (C : CX p s m args meth c cX4_firstWrong 3 RX4 wsX4_firstWrong (some .int) D T) (hP : va_P D vwCl [(t_a, .inr (4, [.ref t_codes_a, .int t_length])), (t_codes_a, .inl (T.1, (60, .inl t_codes)))] s.heap) : f_X4_firstWrong t_codes t_length = some res → ∀ ls : Array Slot, lv_has ls 3 [(0, .ref t_a)] → W p l e rmX4_firstWrong s m args below meth c s.heap [] 0 0 (MQ below (Qp (some (.int res))) args s 0 0 (fun _ => False)) (F0 m 0 ls []) := by
  obtain ⟨hx, hb, hml, hown, hts, hr, hlocks, hK, hN⟩ := id C
  intro  hf ls hl
  unfold f_X4_firstWrong at hf
  refine lv_iconst (v := (1 : Int32)) hx hb dX4_firstWrong_0 (by decide) ?_
  refine lv_istore_n (lv' := [(1, .int (1 : Int32)), (0, .ref t_a)]) hx hb dX4_firstWrong_1 rfl hl (by decide) rfl (fun ls hl => ?_)
  refine lv_iconst (v := (0 : Int32)) hx hb dX4_firstWrong_2 (by decide) ?_
  refine lv_istore_n (lv' := [(2, .int (0 : Int32)), (1, .int (1 : Int32)), (0, .ref t_a)]) hx hb dX4_firstWrong_3 rfl hl (by decide) rfl (fun ls hl => ?_)
  exact w_X4_firstWrong_b4 C hP _ _ _ hf _ (lv_sub hl [2, 1, 0] rfl)
theorem c_X4_firstWrong (l : Launch) (D : va_G) (T : TY) (t_a t_codes_a : Nat) (t_codes : Nat → Int32) (t_length : Int32) (res : Int32) (hf : f_X4_firstWrong t_codes t_length = some res) : Met l yX4_firstWrong wsX4_firstWrong rmX4_firstWrong (va_Pc [.ref t_a] (PB D T [(t_a, .inr (4, [.ref t_codes_a, .int t_length])), (t_codes_a, .inl (T.1, (60, .inl t_codes)))])) (Qp (some (.int res))) 0 0 (fun _ => False) :=
  metP_of (by decide +kernel) rfl (Nat.le_of_ble_eq_true rfl) (fun p e s m args below meth c C hP ls hl => w_X4_firstWrong_b0 C hP hf ls hl)
def rmX4_tellsDrawing : Room := { frames := 4, cells := 0, slots := 0, locals := 86 }
theorem hdV_X4_tellsDrawing : yX4_tellsDrawing.cls = RX4 ∧ yX4_tellsDrawing.cls ≠ "java/lang/invoke/MethodHandle" ∧ yX4_tellsDrawing.cls ≠ "java/lang/invoke/VarHandle" ∧ (parseMethodDescriptor yX4_tellsDrawing.desc).map (fun d => d.parameters.length) = some 0 := by decide +kernel
theorem iw_X4_tellsDrawing_X4 : ∀ w ∈ wsX40, w ∈ wsX4_tellsDrawing := by decide +kernel
theorem mw_X4_tellsDrawing_0 : Cond.fieldLink RX4 15 "RibbonPosts$Text" "length" "I" ∈ wsX4_tellsDrawing := by decide +kernel
theorem mw_X4_tellsDrawing_1 : Cond.static yX4_isDigit ∈ wsX4_tellsDrawing := by decide +kernel
set_option maxHeartbeats 4000000 in
set_option maxRecDepth 100000 in
theorem w_X4_tellsDrawing_b0 {p : Program} {l : Launch} {e : Env} {s : State} {m : MethodId} {args : Array Value} {below : List Frame} {meth : Method} {c : Code} {D : va_G} {T : TY} {t_a t_codes_a : Nat} {t_codes : Nat → Int32} {t_length : Int32} {res : Int32} (C : CX p s m args meth c cX4_tellsDrawing 1 RX4 wsX4_tellsDrawing (some .boolean) D T) (hP : va_P D vwCl [(t_a, .inr (4, [.ref t_codes_a, .int t_length])), (t_codes_a, .inl (T.1, (60, .inl t_codes)))] s.heap) : f_X4_tellsDrawing t_codes t_length = some res → ∀ ls : Array Slot, lv_has ls 1 [(0, .ref t_a)] → W p l e rmX4_tellsDrawing s m args below meth c s.heap [] 0 0 (MQ below (Qp (some (.int res))) args s 0 0 (fun _ => False)) (F0 m 0 ls []) := by
  obtain ⟨hx, hb, hml, hown, hts, hr, hlocks, hK, hN⟩ := id C
  intro  hf ls hl
  unfold f_X4_tellsDrawing at hf
  refine lv_aload_n hx hb dX4_tellsDrawing_0 rfl (lv_at hl 0 rfl) ?_
  refine va_get (D := D) (ci := 4) (v := .int t_length) (C := RX4) (T := TX4) (N := 2) hx hb hts iw_X4_tellsDrawing_X4 hown hK hP 0 rfl rfl 1 (by decide) (hts (.fieldLink RX4 15 "RibbonPosts$Text" "length" "I") mw_X4_tellsDrawing_0) (fun _ h9 => h9) rfl dX4_tellsDrawing_1 ?_
  refine lv_if_le (tgt := 38) hx hb dX4_tellsDrawing_4 (by decide) (fun c_4 => ?_) (fun c_4 => ?_)
  · have hf := it_pos c_4 hf
    refine lv_iconst (v := (0 : Int32)) hx hb dX4_tellsDrawing_38 (by decide) ?_
    obtain rfl := Option.some.inj hf
    exact W.zret hx hb hr (by decide) (fun t ht hW => ⟨rfl, ht⟩) (fun q hq => absurd hq List.not_mem_nil) dX4_tellsDrawing_39 hlocks
  · have hf := it_neg c_4 hf
    refine lv_aload_n hx hb dX4_tellsDrawing_7 rfl (lv_at hl 0 rfl) ?_
    refine lv_aload_n hx hb dX4_tellsDrawing_8 rfl (lv_at hl 0 rfl) ?_
    refine va_get (D := D) (ci := 4) (v := .int t_length) (C := RX4) (T := TX4) (N := 2) hx hb hts iw_X4_tellsDrawing_X4 hown hK hP 0 rfl rfl 1 (by decide) (hts (.fieldLink RX4 15 "RibbonPosts$Text" "length" "I") mw_X4_tellsDrawing_0) (fun _ h9 => h9) rfl dX4_tellsDrawing_9 ?_
    refine lv_iconst (v := (1 : Int32)) hx hb dX4_tellsDrawing_12 (by decide) ?_
    refine lv_isub hx hb dX4_tellsDrawing_13 ?_
    obtain ⟨q14, e_14, hf⟩ := bd_some hf
    refine callPi (va_runV (As := [.int (t_length - (1 : Int32))]) (rest := []) ⟨hx, hb, hml, hown, hts⟩ (c_X4_codeAt l D T t_a t_codes_a t_codes t_length (t_length - (1 : Int32)) q14 e_14) (cwV 1 hts gX4_tellsDrawing_X4_codeAt rfl rfl rfl hdV_X4_codeAt ⟨Nat.le_of_ble_eq_true rfl, Nat.le_of_ble_eq_true rfl⟩) (preBV hP hK hN rfl 0 rfl) rfl rfl hl.1 rfl (lv_room (Nat.le_of_ble_eq_true rfl)) dX4_tellsDrawing_14 ⟨Nat.le_of_ble_eq_true rfl, Nat.le_of_ble_eq_true rfl⟩) ?_
    obtain ⟨q17, e_17, hf⟩ := bd_some hf
    refine callPi (va_runS (As := [.int q14]) (rest := []) ⟨hx, hb, hml, hown, hts⟩ (c_X4_isDigit l D T q14 q17 e_17) (va_cwS 1 hts gX4_tellsDrawing_X4_isDigit rfl rfl rfl hdS_X4_isDigit ⟨Nat.le_of_ble_eq_true rfl, Nat.le_of_ble_eq_true rfl⟩) (preBS va_P0 hK hN) rfl rfl hl.1 rfl (lv_room (Nat.le_of_ble_eq_true rfl)) dX4_tellsDrawing_17 ⟨Nat.le_of_ble_eq_true rfl, Nat.le_of_ble_eq_true rfl⟩) ?_
    refine lv_if_eq (tgt := 38) hx hb dX4_tellsDrawing_20 (by decide) (fun c_20 => ?_) (fun c_20 => ?_)
    · have hf := it_pos c_20 hf
      refine lv_iconst (v := (0 : Int32)) hx hb dX4_tellsDrawing_38 (by decide) ?_
      obtain rfl := Option.some.inj hf
      exact W.zret hx hb hr (by decide) (fun t ht hW => ⟨rfl, ht⟩) (fun q hq => absurd hq List.not_mem_nil) dX4_tellsDrawing_39 hlocks
    · have hf := it_neg c_20 hf
      refine lv_aload_n hx hb dX4_tellsDrawing_23 rfl (lv_at hl 0 rfl) ?_
      obtain ⟨q24, e_24, hf⟩ := bd_some hf
      refine callPi (va_runV (As := []) (rest := []) ⟨hx, hb, hml, hown, hts⟩ (c_X4_firstWrong l D T t_a t_codes_a t_codes t_length q24 e_24) (cwV 0 hts gX4_tellsDrawing_X4_firstWrong rfl rfl rfl hdV_X4_firstWrong ⟨Nat.le_of_ble_eq_true rfl, Nat.le_of_ble_eq_true rfl⟩) (preBV hP hK hN rfl 0 rfl) rfl rfl hl.1 rfl (lv_room (Nat.le_of_ble_eq_true rfl)) dX4_tellsDrawing_24 ⟨Nat.le_of_ble_eq_true rfl, Nat.le_of_ble_eq_true rfl⟩) ?_
      refine lv_aload_n hx hb dX4_tellsDrawing_27 rfl (lv_at hl 0 rfl) ?_
      refine va_get (D := D) (ci := 4) (v := .int t_length) (C := RX4) (T := TX4) (N := 2) hx hb hts iw_X4_tellsDrawing_X4 hown hK hP 0 rfl rfl 1 (by decide) (hts (.fieldLink RX4 15 "RibbonPosts$Text" "length" "I") mw_X4_tellsDrawing_0) (fun _ h9 => h9) rfl dX4_tellsDrawing_28 ?_
      refine lv_icmp_ne (tgt := 38) hx hb dX4_tellsDrawing_31 (by decide) (fun c_31 => ?_) (fun c_31 => ?_)
      · have hf := it_neg c_31 hf
        refine lv_iconst (v := (0 : Int32)) hx hb dX4_tellsDrawing_38 (by decide) ?_
        obtain rfl := Option.some.inj hf
        exact W.zret hx hb hr (by decide) (fun t ht hW => ⟨rfl, ht⟩) (fun q hq => absurd hq List.not_mem_nil) dX4_tellsDrawing_39 hlocks
      · have hf := it_pos c_31 hf
        refine lv_iconst (v := (1 : Int32)) hx hb dX4_tellsDrawing_34 (by decide) ?_
        refine lv_goto (tgt := 39) hx hb dX4_tellsDrawing_35 (by decide) ?_
        obtain rfl := Option.some.inj hf
        exact W.zret hx hb hr (by decide) (fun t ht hW => ⟨rfl, ht⟩) (fun q hq => absurd hq List.not_mem_nil) dX4_tellsDrawing_39 hlocks
theorem c_X4_tellsDrawing (l : Launch) (D : va_G) (T : TY) (t_a t_codes_a : Nat) (t_codes : Nat → Int32) (t_length : Int32) (res : Int32) (hf : f_X4_tellsDrawing t_codes t_length = some res) : Met l yX4_tellsDrawing wsX4_tellsDrawing rmX4_tellsDrawing (va_Pc [.ref t_a] (PB D T [(t_a, .inr (4, [.ref t_codes_a, .int t_length])), (t_codes_a, .inl (T.1, (60, .inl t_codes)))])) (Qp (some (.int res))) 0 0 (fun _ => False) :=
  metP_of (by decide +kernel) rfl (Nat.le_of_ble_eq_true rfl) (fun p e s m args below meth c C hP ls hl => w_X4_tellsDrawing_b0 C hP hf ls hl)
def rmX4_drawInto : Room := { frames := 1, cells := 0, slots := 0, locals := 23 }
theorem hdV_X4_drawInto : yX4_drawInto.cls = RX4 ∧ yX4_drawInto.cls ≠ "java/lang/invoke/MethodHandle" ∧ yX4_drawInto.cls ≠ "java/lang/invoke/VarHandle" ∧ (parseMethodDescriptor yX4_drawInto.desc).map (fun d => d.parameters.length) = some 1 := by decide +kernel
theorem iw_X4_drawInto_X1 : ∀ w ∈ wsX10, w ∈ wsX4_drawInto := by decide +kernel
theorem iw_X4_drawInto_X4 : ∀ w ∈ wsX40, w ∈ wsX4_drawInto := by decide +kernel
theorem mw_X4_drawInto_0 : Cond.fieldLink RX4 15 "RibbonPosts$Text" "length" "I" ∈ wsX4_drawInto := by decide +kernel
theorem mw_X4_drawInto_1 : Cond.static yX4_isDigit ∈ wsX4_drawInto := by decide +kernel
set_option maxHeartbeats 4000000 in
set_option maxRecDepth 100000 in
theorem w_X4_drawInto_b99 {p : Program} {l : Launch} {e : Env} {s : State} {m : MethodId} {args : Array Value} {below : List Frame} {meth : Method} {c : Code} {D : va_G} {T : TY} {t_a t_codes_a d_a d_places_a d_froms_a d_tos_a d_widths_a : Nat} {t_codes : Nat → Int32} {t_length : Int32} {d_places : Nat → Int32} {d_trimmed : Int32} {res : (Nat → Int32) × (Nat → Int32) × (Nat → Int32) × Int32} {K15 : Int32 → Int32 → Int32 → Int32 → (Nat → Int32) → (Nat → Int32) → (Nat → Int32) → Int32 → Option ((Nat → Int32) × (Nat → Int32) × (Nat → Int32) × Int32)} {A : Nat → Prop} (C : CX p s m args meth c cX4_drawInto 7 RX4 wsX4_drawInto none D T) (hA : ∀ q, s.heap.size ≤ q → A q) (hK15 : ∀ x2 : Int32, ∀ x3 : Int32, ∀ x4 : Int32, ∀ x5 : Int32, ∀ d_froms : Nat → Int32, ∀ d_tos : Nat → Int32, ∀ d_widths : Nat → Int32, ∀ d_ribbons : Int32, K15 x2 x3 x4 x5 d_froms d_tos d_widths d_ribbons = some res → ∀ (H : Heap) (locs : List Loc), va_P D vwCl [(t_a, .inr (4, [.ref t_codes_a, .int t_length])), (t_codes_a, .inl (T.1, (60, .inl t_codes))), (d_a, .inr (1, [.ref d_places_a, .ref d_froms_a, .ref d_tos_a, .ref d_widths_a, .int d_ribbons, .int d_trimmed])), (d_places_a, .inl (T.1, (16, .inl d_places))), (d_froms_a, .inl (T.1, (20, .inl d_froms))), (d_tos_a, .inl (T.1, (20, .inl d_tos))), (d_widths_a, .inl (T.1, (20, .inl d_widths)))] H → va_D A [(t_a, .inr (4, [.ref t_codes_a, .int t_length])), (t_codes_a, .inl (T.1, (60, .inl t_codes))), (d_a, .inr (1, [.ref d_places_a, .ref d_froms_a, .ref d_tos_a, .ref d_widths_a, .int d_ribbons, .int d_trimmed])), (d_places_a, .inl (T.1, (16, .inl d_places))), (d_froms_a, .inl (T.1, (20, .inl d_froms))), (d_tos_a, .inl (T.1, (20, .inl d_tos))), (d_widths_a, .inl (T.1, (20, .inl d_widths)))] → va_S A s.heap H locs → ∀ ls : Array Slot, lv_has ls 7 [(0, .ref t_a), (1, .ref d_a), (2, .int x2), (3, .int x3), (4, .int x4), (5, .int x5)] → W p l e rmX4_drawInto s m args below meth c H locs 0 0 (MQ below (Qm none D (fun W9 => W9 = [(t_a, .inr (4, [.ref t_codes_a, .int t_length])), (t_codes_a, .inl (T.1, (60, .inl t_codes))), (d_a, .inr (1, [.ref d_places_a, .ref d_froms_a, .ref d_tos_a, .ref d_widths_a, .int res.2.2.2, .int d_trimmed])), (d_places_a, .inl (T.1, (16, .inl d_places))), (d_froms_a, .inl (T.1, (20, .inl res.1))), (d_tos_a, .inl (T.1, (20, .inl res.2.1))), (d_widths_a, .inl (T.1, (20, .inl res.2.2.1)))]) A) args s 0 0 A) (F0 m 15 ls [])) : ∀ x2 : Int32, ∀ x3 : Int32, ∀ x4 : Int32, ∀ x5 : Int32, ∀ d_froms : Nat → Int32, ∀ d_tos : Nat → Int32, ∀ d_widths : Nat → Int32, ∀ d_ribbons : Int32, f_X4_drawInto_b99 t_codes t_length K15 x2 x3 x4 x5 d_froms d_tos d_widths d_ribbons = some res → ∀ (H : Heap) (locs : List Loc), va_P D vwCl [(t_a, .inr (4, [.ref t_codes_a, .int t_length])), (t_codes_a, .inl (T.1, (60, .inl t_codes))), (d_a, .inr (1, [.ref d_places_a, .ref d_froms_a, .ref d_tos_a, .ref d_widths_a, .int d_ribbons, .int d_trimmed])), (d_places_a, .inl (T.1, (16, .inl d_places))), (d_froms_a, .inl (T.1, (20, .inl d_froms))), (d_tos_a, .inl (T.1, (20, .inl d_tos))), (d_widths_a, .inl (T.1, (20, .inl d_widths)))] H → va_D A [(t_a, .inr (4, [.ref t_codes_a, .int t_length])), (t_codes_a, .inl (T.1, (60, .inl t_codes))), (d_a, .inr (1, [.ref d_places_a, .ref d_froms_a, .ref d_tos_a, .ref d_widths_a, .int d_ribbons, .int d_trimmed])), (d_places_a, .inl (T.1, (16, .inl d_places))), (d_froms_a, .inl (T.1, (20, .inl d_froms))), (d_tos_a, .inl (T.1, (20, .inl d_tos))), (d_widths_a, .inl (T.1, (20, .inl d_widths)))] → va_S A s.heap H locs → ∀ ls : Array Slot, lv_has ls 7 [(0, .ref t_a), (1, .ref d_a), (2, .int x2), (3, .int x3), (4, .int x4), (5, .int x5)] → W p l e rmX4_drawInto s m args below meth c H locs 0 0 (MQ below (Qm none D (fun W9 => W9 = [(t_a, .inr (4, [.ref t_codes_a, .int t_length])), (t_codes_a, .inl (T.1, (60, .inl t_codes))), (d_a, .inr (1, [.ref d_places_a, .ref d_froms_a, .ref d_tos_a, .ref d_widths_a, .int res.2.2.2, .int d_trimmed])), (d_places_a, .inl (T.1, (16, .inl d_places))), (d_froms_a, .inl (T.1, (20, .inl res.1))), (d_tos_a, .inl (T.1, (20, .inl res.2.1))), (d_widths_a, .inl (T.1, (20, .inl res.2.2.1)))]) A) args s 0 0 A) (F0 m 99 ls []) := by
  obtain ⟨hx, hb, hml, hown, hts, hr, hlocks, hK, hN⟩ := id C
  intro x2 x3 x4 x5 d_froms d_tos d_widths d_ribbons hf H locs hP hD hS ls hl
  unfold f_X4_drawInto_b99 at hf
  obtain ⟨v99, e_99, hf⟩ := nm_some hf
  refine lv_iinc (v := v99) (lv' := [(5, .int v99), (0, .ref t_a), (1, .ref d_a), (2, .int x2), (3, .int x3), (4, .int x4)]) hx hb dX4_drawInto_99 hl (k := 5) rfl (by rw [e_99]; rfl) (by decide) rfl (fun ls hl => ?_)
  refine lv_goto (tgt := 15) hx hb dX4_drawInto_102 (by decide) ?_
  exact hK15 _ _ _ _ _ _ _ _ hf _ _ hP hD hS _ (lv_sub hl [1, 2, 3, 4, 5, 0] rfl)
set_option maxHeartbeats 4000000 in
set_option maxRecDepth 100000 in
theorem w_X4_drawInto_b15 {p : Program} {l : Launch} {e : Env} {s : State} {m : MethodId} {args : Array Value} {below : List Frame} {meth : Method} {c : Code} {D : va_G} {T : TY} {t_a t_codes_a d_a d_places_a d_froms_a d_tos_a d_widths_a : Nat} {t_codes : Nat → Int32} {t_length : Int32} {d_places : Nat → Int32} {d_trimmed : Int32} {res : (Nat → Int32) × (Nat → Int32) × (Nat → Int32) × Int32} {A : Nat → Prop} (C : CX p s m args meth c cX4_drawInto 7 RX4 wsX4_drawInto none D T) (hA : ∀ q, s.heap.size ≤ q → A q) : ∀ F : Nat, ∀ x2 : Int32, ∀ x3 : Int32, ∀ x4 : Int32, ∀ x5 : Int32, ∀ d_froms : Nat → Int32, ∀ d_tos : Nat → Int32, ∀ d_widths : Nat → Int32, ∀ d_ribbons : Int32, f_X4_drawInto_b15 t_codes t_length F x2 x3 x4 x5 d_froms d_tos d_widths d_ribbons = some res → ∀ (H : Heap) (locs : List Loc), va_P D vwCl [(t_a, .inr (4, [.ref t_codes_a, .int t_length])), (t_codes_a, .inl (T.1, (60, .inl t_codes))), (d_a, .inr (1, [.ref d_places_a, .ref d_froms_a, .ref d_tos_a, .ref d_widths_a, .int d_ribbons, .int d_trimmed])), (d_places_a, .inl (T.1, (16, .inl d_places))), (d_froms_a, .inl (T.1, (20, .inl d_froms))), (d_tos_a, .inl (T.1, (20, .inl d_tos))), (d_widths_a, .inl (T.1, (20, .inl d_widths)))] H → va_D A [(t_a, .inr (4, [.ref t_codes_a, .int t_length])), (t_codes_a, .inl (T.1, (60, .inl t_codes))), (d_a, .inr (1, [.ref d_places_a, .ref d_froms_a, .ref d_tos_a, .ref d_widths_a, .int d_ribbons, .int d_trimmed])), (d_places_a, .inl (T.1, (16, .inl d_places))), (d_froms_a, .inl (T.1, (20, .inl d_froms))), (d_tos_a, .inl (T.1, (20, .inl d_tos))), (d_widths_a, .inl (T.1, (20, .inl d_widths)))] → va_S A s.heap H locs → ∀ ls : Array Slot, lv_has ls 7 [(0, .ref t_a), (1, .ref d_a), (2, .int x2), (3, .int x3), (4, .int x4), (5, .int x5)] → W p l e rmX4_drawInto s m args below meth c H locs 0 0 (MQ below (Qm none D (fun W9 => W9 = [(t_a, .inr (4, [.ref t_codes_a, .int t_length])), (t_codes_a, .inl (T.1, (60, .inl t_codes))), (d_a, .inr (1, [.ref d_places_a, .ref d_froms_a, .ref d_tos_a, .ref d_widths_a, .int res.2.2.2, .int d_trimmed])), (d_places_a, .inl (T.1, (16, .inl d_places))), (d_froms_a, .inl (T.1, (20, .inl res.1))), (d_tos_a, .inl (T.1, (20, .inl res.2.1))), (d_widths_a, .inl (T.1, (20, .inl res.2.2.1)))]) A) args s 0 0 A) (F0 m 15 ls []) := by
  obtain ⟨hx, hb, hml, hown, hts, hr, hlocks, hK, hN⟩ := id C
  intro F
  induction F with
  | zero => intro _ _ _ _ _ _ _ _ hf; cases hf
  | succ F ih =>
    intro x2 x3 x4 x5 d_froms d_tos d_widths d_ribbons hf H locs hP hD hS ls hl
    unfold f_X4_drawInto_b15 at hf
    refine lv_iload hx hb dX4_drawInto_15 (lv_at hl 5 rfl) ?_
    refine lv_aload_n hx hb dX4_drawInto_17 rfl (lv_at hl 0 rfl) ?_
    refine va_get (D := D) (ci := 4) (v := .int t_length) (C := RX4) (T := TX4) (N := 2) hx hb hts iw_X4_drawInto_X4 hown hK hP 0 rfl rfl 1 (by decide) (hts (.fieldLink RX4 15 "RibbonPosts$Text" "length" "I") mw_X4_drawInto_0) (fun _ h9 => h9) rfl dX4_drawInto_18 ?_
    refine lv_icmp_ge (tgt := 105) hx hb dX4_drawInto_21 (by decide) (fun c_21 => ?_) (fun c_21 => ?_)
    · have hf := it_pos c_21 hf
      refine lv_aload_n hx hb dX4_drawInto_105 rfl (lv_at hl 1 rfl) ?_
      refine lv_iload_n hx hb dX4_drawInto_106 rfl (lv_at hl 2 rfl) ?_
      refine lv_iload_n hx hb dX4_drawInto_107 rfl (lv_at hl 3 rfl) ?_
      refine lv_iload hx hb dX4_drawInto_108 (lv_at hl 4 rfl) ?_
      obtain ⟨q110, e_110, hf⟩ := bd_some hf
      refine callMv (wr := [(t_a, .inr (4, [.ref t_codes_a, .int t_length])), (t_codes_a, .inl (T.1, (60, .inl t_codes)))]) (ws' := [(t_a, .inr (4, [.ref t_codes_a, .int t_length])), (t_codes_a, .inl (T.1, (60, .inl t_codes))), (d_a, .inr (1, [.ref d_places_a, .ref d_froms_a, .ref d_tos_a, .ref d_widths_a, .int q110.2.2.2, .int d_trimmed])), (d_places_a, .inl (T.1, (16, .inl d_places))), (d_froms_a, .inl (T.1, (20, .inl q110.1))), (d_tos_a, .inl (T.1, (20, .inl q110.2.1))), (d_widths_a, .inl (T.1, (20, .inl q110.2.2.1)))]) (va_runV (As := [.int x2, .int x3, .int x4]) (rest := []) ⟨hx, hb, hml, hown, hts⟩ (c_X1_addRibbon l D T d_a d_places_a d_froms_a d_tos_a d_widths_a d_places d_froms d_tos d_widths d_ribbons d_trimmed x2 x3 x4 q110 e_110 H.size) (cwV 3 hts gX4_drawInto_X1_addRibbon rfl rfl rfl hdV_X1_addRibbon ⟨Nat.le_of_ble_eq_true rfl, Nat.le_of_ble_eq_true rfl⟩) (preMV (hP.sub (ws' := [(d_a, .inr (1, [.ref d_places_a, .ref d_froms_a, .ref d_tos_a, .ref d_widths_a, .int d_ribbons, .int d_trimmed])), (d_places_a, .inl (T.1, (16, .inl d_places))), (d_froms_a, .inl (T.1, (20, .inl d_froms))), (d_tos_a, .inl (T.1, (20, .inl d_tos))), (d_widths_a, .inl (T.1, (20, .inl d_widths)))]) [2, 3, 4, 5, 6] rfl) (hD.sub (ws' := [(d_a, .inr (1, [.ref d_places_a, .ref d_froms_a, .ref d_tos_a, .ref d_widths_a, .int d_ribbons, .int d_trimmed])), (d_places_a, .inl (T.1, (16, .inl d_places))), (d_froms_a, .inl (T.1, (20, .inl d_froms))), (d_tos_a, .inl (T.1, (20, .inl d_tos))), (d_widths_a, .inl (T.1, (20, .inl d_widths)))]) [2, 3, 4, 5, 6] rfl rfl) hK hN rfl 0 rfl) rfl rfl hl.1 rfl (lv_room (Nat.le_of_ble_eq_true rfl)) dX4_drawInto_110 ⟨Nat.le_of_ble_eq_true rfl, Nat.le_of_ble_eq_true rfl⟩) hP hD hS hA [2, 3, 4, 5, 6] [0, 1] [0, 1, 2, 3, 4, 5, 6] rfl rfl rfl rfl rfl rfl (fun H locs hP hD hS => ?_)
      obtain rfl := Option.some.inj hf
      exact W.vret hx hb hr (fun t ht hW => ⟨rfl, ⟨_, rfl, by rw [ht]; exact hP, hD⟩, hS.F ht⟩) hS.2.2 dX4_drawInto_113 hlocks
    · have hf := it_neg c_21 hf
      refine lv_aload_n hx hb dX4_drawInto_24 rfl (lv_at hl 0 rfl) ?_
      refine lv_iload hx hb dX4_drawInto_25 (lv_at hl 5 rfl) ?_
      obtain ⟨q27, e_27, hf⟩ := bd_some hf
      refine callPi (va_runV (As := [.int x5]) (rest := []) ⟨hx, hb, hml, hown, hts⟩ (c_X4_codeAt l D T t_a t_codes_a t_codes t_length x5 q27 e_27) (cwV 1 hts gX4_drawInto_X4_codeAt rfl rfl rfl hdV_X4_codeAt ⟨Nat.le_of_ble_eq_true rfl, Nat.le_of_ble_eq_true rfl⟩) (preBV (hP.sub (ws' := [(t_a, .inr (4, [.ref t_codes_a, .int t_length])), (t_codes_a, .inl (T.1, (60, .inl t_codes)))]) [0, 1] rfl) hK hN rfl 0 rfl) rfl rfl hl.1 rfl (lv_room (Nat.le_of_ble_eq_true rfl)) dX4_drawInto_27 ⟨Nat.le_of_ble_eq_true rfl, Nat.le_of_ble_eq_true rfl⟩) ?_
      refine lv_istore (lv' := [(6, .int q27), (0, .ref t_a), (1, .ref d_a), (2, .int x2), (3, .int x3), (4, .int x4), (5, .int x5)]) hx hb dX4_drawInto_30 hl (by decide) rfl (fun ls hl => ?_)
      refine lv_iload hx hb dX4_drawInto_32 (lv_at hl 0 rfl) ?_
      refine lv_bipush (v := (59 : Int32)) hx hb dX4_drawInto_34 (by decide) ?_
      refine lv_icmp_ne (tgt := 55) hx hb dX4_drawInto_36 (by decide) (fun c_36 => ?_) (fun c_36 => ?_)
      · have hf := it_neg c_36 hf
        refine lv_iload hx hb dX4_drawInto_55 (lv_at hl 0 rfl) ?_
        obtain ⟨q57, e_57, hf⟩ := bd_some hf
        refine callPi (va_runS (As := [.int q27]) (rest := []) ⟨hx, hb, hml, hown, hts⟩ (c_X4_isDigit l D T q27 q57 e_57) (va_cwS 1 hts gX4_drawInto_X4_isDigit rfl rfl rfl hdS_X4_isDigit ⟨Nat.le_of_ble_eq_true rfl, Nat.le_of_ble_eq_true rfl⟩) (preBS va_P0 hK hN) rfl rfl hl.1 rfl (lv_room (Nat.le_of_ble_eq_true rfl)) dX4_drawInto_57 ⟨Nat.le_of_ble_eq_true rfl, Nat.le_of_ble_eq_true rfl⟩) ?_
        refine lv_if_eq (tgt := 79) hx hb dX4_drawInto_60 (by decide) (fun c_60 => ?_) (fun c_60 => ?_)
        · have hf := it_pos c_60 hf
          refine lv_iload_n hx hb dX4_drawInto_79 rfl (lv_at hl 3 rfl) ?_
          refine lv_iconst (v := (-1 : Int32)) hx hb dX4_drawInto_80 (by decide) ?_
          refine lv_icmp_ne (tgt := 93) hx hb dX4_drawInto_81 (by decide) (fun c_81 => ?_) (fun c_81 => ?_)
          · have hf := it_neg c_81 hf
            refine lv_iload hx hb dX4_drawInto_93 (lv_at hl 0 rfl) ?_
            refine lv_bipush (v := (97 : Int32)) hx hb dX4_drawInto_95 (by decide) ?_
            refine lv_isub hx hb dX4_drawInto_97 ?_
            obtain ⟨v98, e_98, hf⟩ := nm_some hf
            refine lv_nmi e_98 ?_
            refine lv_istore_n (lv' := [(3, .int v98), (6, .int q27), (0, .ref t_a), (1, .ref d_a), (2, .int x2), (4, .int x4), (5, .int x5)]) hx hb dX4_drawInto_98 rfl hl (by decide) rfl (fun ls hl => ?_)
            exact w_X4_drawInto_b99 C hA (fun v0 v1 v2 v3 v4 v5 v6 v7 hf H1 l1 p1 d1 s1 ls hl => ih v0 v1 v2 v3 v4 v5 v6 v7 hf H1 l1 p1 d1 s1 ls hl) _ _ _ _ _ _ _ _ hf _ _ hP hD hS _ (lv_sub hl [2, 3, 4, 0, 5, 6] rfl)
          · have hf := it_pos c_81 hf
            refine lv_iload hx hb dX4_drawInto_84 (lv_at hl 0 rfl) ?_
            refine lv_bipush (v := (97 : Int32)) hx hb dX4_drawInto_86 (by decide) ?_
            refine lv_isub hx hb dX4_drawInto_88 ?_
            obtain ⟨v89, e_89, hf⟩ := nm_some hf
            refine lv_nmi e_89 ?_
            refine lv_istore_n (lv' := [(2, .int v89), (6, .int q27), (0, .ref t_a), (1, .ref d_a), (3, .int x3), (4, .int x4), (5, .int x5)]) hx hb dX4_drawInto_89 rfl hl (by decide) rfl (fun ls hl => ?_)
            refine lv_goto (tgt := 99) hx hb dX4_drawInto_90 (by decide) ?_
            exact w_X4_drawInto_b99 C hA (fun v0 v1 v2 v3 v4 v5 v6 v7 hf H1 l1 p1 d1 s1 ls hl => ih v0 v1 v2 v3 v4 v5 v6 v7 hf H1 l1 p1 d1 s1 ls hl) _ _ _ _ _ _ _ _ hf _ _ hP hD hS _ (lv_sub hl [2, 3, 0, 4, 5, 6] rfl)
        · have hf := it_neg c_60 hf
          refine lv_iload hx hb dX4_drawInto_63 (lv_at hl 5 rfl) ?_
          refine lv_bipush (v := (10 : Int32)) hx hb dX4_drawInto_65 (by decide) ?_
          refine lv_imul hx hb dX4_drawInto_67 ?_
          refine lv_iload hx hb dX4_drawInto_68 (lv_at hl 0 rfl) ?_
          refine lv_iadd hx hb dX4_drawInto_70 ?_
          refine lv_bipush (v := (48 : Int32)) hx hb dX4_drawInto_71 (by decide) ?_
          refine lv_isub hx hb dX4_drawInto_73 ?_
          obtain ⟨v74, e_74, hf⟩ := nm_some hf
          refine lv_nmi e_74 ?_
          refine lv_istore (lv' := [(4, .int v74), (6, .int q27), (0, .ref t_a), (1, .ref d_a), (2, .int x2), (3, .int x3), (5, .int x5)]) hx hb dX4_drawInto_74 hl (by decide) rfl (fun ls hl => ?_)
          refine lv_goto (tgt := 99) hx hb dX4_drawInto_76 (by decide) ?_
          exact w_X4_drawInto_b99 C hA (fun v0 v1 v2 v3 v4 v5 v6 v7 hf H1 l1 p1 d1 s1 ls hl => ih v0 v1 v2 v3 v4 v5 v6 v7 hf H1 l1 p1 d1 s1 ls hl) _ _ _ _ _ _ _ _ hf _ _ hP hD hS _ (lv_sub hl [2, 3, 4, 5, 0, 6] rfl)
      · have hf := it_pos c_36 hf
        refine lv_aload_n hx hb dX4_drawInto_39 rfl (lv_at hl 2 rfl) ?_
        refine lv_iload_n hx hb dX4_drawInto_40 rfl (lv_at hl 3 rfl) ?_
        refine lv_iload_n hx hb dX4_drawInto_41 rfl (lv_at hl 4 rfl) ?_
        refine lv_iload hx hb dX4_drawInto_42 (lv_at hl 5 rfl) ?_
        obtain ⟨q44, e_44, hf⟩ := bd_some hf
        refine callMv (wr := [(t_a, .inr (4, [.ref t_codes_a, .int t_length])), (t_codes_a, .inl (T.1, (60, .inl t_codes)))]) (ws' := [(t_a, .inr (4, [.ref t_codes_a, .int t_length])), (t_codes_a, .inl (T.1, (60, .inl t_codes))), (d_a, .inr (1, [.ref d_places_a, .ref d_froms_a, .ref d_tos_a, .ref d_widths_a, .int q44.2.2.2, .int d_trimmed])), (d_places_a, .inl (T.1, (16, .inl d_places))), (d_froms_a, .inl (T.1, (20, .inl q44.1))), (d_tos_a, .inl (T.1, (20, .inl q44.2.1))), (d_widths_a, .inl (T.1, (20, .inl q44.2.2.1)))]) (va_runV (As := [.int x2, .int x3, .int x4]) (rest := []) ⟨hx, hb, hml, hown, hts⟩ (c_X1_addRibbon l D T d_a d_places_a d_froms_a d_tos_a d_widths_a d_places d_froms d_tos d_widths d_ribbons d_trimmed x2 x3 x4 q44 e_44 H.size) (cwV 3 hts gX4_drawInto_X1_addRibbon rfl rfl rfl hdV_X1_addRibbon ⟨Nat.le_of_ble_eq_true rfl, Nat.le_of_ble_eq_true rfl⟩) (preMV (hP.sub (ws' := [(d_a, .inr (1, [.ref d_places_a, .ref d_froms_a, .ref d_tos_a, .ref d_widths_a, .int d_ribbons, .int d_trimmed])), (d_places_a, .inl (T.1, (16, .inl d_places))), (d_froms_a, .inl (T.1, (20, .inl d_froms))), (d_tos_a, .inl (T.1, (20, .inl d_tos))), (d_widths_a, .inl (T.1, (20, .inl d_widths)))]) [2, 3, 4, 5, 6] rfl) (hD.sub (ws' := [(d_a, .inr (1, [.ref d_places_a, .ref d_froms_a, .ref d_tos_a, .ref d_widths_a, .int d_ribbons, .int d_trimmed])), (d_places_a, .inl (T.1, (16, .inl d_places))), (d_froms_a, .inl (T.1, (20, .inl d_froms))), (d_tos_a, .inl (T.1, (20, .inl d_tos))), (d_widths_a, .inl (T.1, (20, .inl d_widths)))]) [2, 3, 4, 5, 6] rfl rfl) hK hN rfl 0 rfl) rfl rfl hl.1 rfl (lv_room (Nat.le_of_ble_eq_true rfl)) dX4_drawInto_44 ⟨Nat.le_of_ble_eq_true rfl, Nat.le_of_ble_eq_true rfl⟩) hP hD hS hA [2, 3, 4, 5, 6] [0, 1] [0, 1, 2, 3, 4, 5, 6] rfl rfl rfl rfl rfl rfl (fun H locs hP hD hS => ?_)
        refine lv_iconst (v := (-1 : Int32)) hx hb dX4_drawInto_47 (by decide) ?_
        refine lv_istore_n (lv' := [(2, .int (-1 : Int32)), (6, .int q27), (0, .ref t_a), (1, .ref d_a), (3, .int x3), (4, .int x4), (5, .int x5)]) hx hb dX4_drawInto_48 rfl hl (by decide) rfl (fun ls hl => ?_)
        refine lv_iconst (v := (0 : Int32)) hx hb dX4_drawInto_49 (by decide) ?_
        refine lv_istore (lv' := [(4, .int (0 : Int32)), (2, .int (-1 : Int32)), (6, .int q27), (0, .ref t_a), (1, .ref d_a), (3, .int x3), (5, .int x5)]) hx hb dX4_drawInto_50 hl (by decide) rfl (fun ls hl => ?_)
        refine lv_goto (tgt := 99) hx hb dX4_drawInto_52 (by decide) ?_
        exact w_X4_drawInto_b99 C hA (fun v0 v1 v2 v3 v4 v5 v6 v7 hf H1 l1 p1 d1 s1 ls hl => ih v0 v1 v2 v3 v4 v5 v6 v7 hf H1 l1 p1 d1 s1 ls hl) _ _ _ _ _ _ _ _ hf _ _ hP hD hS _ (lv_sub hl [3, 4, 1, 5, 0, 6] rfl)
set_option maxHeartbeats 4000000 in
set_option maxRecDepth 100000 in
theorem w_X4_drawInto_b0 {p : Program} {l : Launch} {e : Env} {s : State} {m : MethodId} {args : Array Value} {below : List Frame} {meth : Method} {c : Code} {D : va_G} {T : TY} {t_a t_codes_a d_a d_places_a d_froms_a d_tos_a d_widths_a : Nat} {t_codes : Nat → Int32} {t_length : Int32} {d_places : Nat → Int32} {d_trimmed : Int32} {res : (Nat → Int32) × (Nat → Int32) × (Nat → Int32) × Int32} {A : Nat → Prop} (C : CX p s m args meth c cX4_drawInto 7 RX4 wsX4_drawInto none D T) (hA : ∀ q, s.heap.size ≤ q → A q) : ∀ d_froms : Nat → Int32, ∀ d_tos : Nat → Int32, ∀ d_widths : Nat → Int32, ∀ d_ribbons : Int32, f_X4_drawInto t_codes t_length d_froms d_tos d_widths d_ribbons = some res → ∀ (H : Heap) (locs : List Loc), va_P D vwCl [(t_a, .inr (4, [.ref t_codes_a, .int t_length])), (t_codes_a, .inl (T.1, (60, .inl t_codes))), (d_a, .inr (1, [.ref d_places_a, .ref d_froms_a, .ref d_tos_a, .ref d_widths_a, .int d_ribbons, .int d_trimmed])), (d_places_a, .inl (T.1, (16, .inl d_places))), (d_froms_a, .inl (T.1, (20, .inl d_froms))), (d_tos_a, .inl (T.1, (20, .inl d_tos))), (d_widths_a, .inl (T.1, (20, .inl d_widths)))] H → va_D A [(t_a, .inr (4, [.ref t_codes_a, .int t_length])), (t_codes_a, .inl (T.1, (60, .inl t_codes))), (d_a, .inr (1, [.ref d_places_a, .ref d_froms_a, .ref d_tos_a, .ref d_widths_a, .int d_ribbons, .int d_trimmed])), (d_places_a, .inl (T.1, (16, .inl d_places))), (d_froms_a, .inl (T.1, (20, .inl d_froms))), (d_tos_a, .inl (T.1, (20, .inl d_tos))), (d_widths_a, .inl (T.1, (20, .inl d_widths)))] → va_S A s.heap H locs → ∀ ls : Array Slot, lv_has ls 7 [(0, .ref t_a), (1, .ref d_a)] → W p l e rmX4_drawInto s m args below meth c H locs 0 0 (MQ below (Qm none D (fun W9 => W9 = [(t_a, .inr (4, [.ref t_codes_a, .int t_length])), (t_codes_a, .inl (T.1, (60, .inl t_codes))), (d_a, .inr (1, [.ref d_places_a, .ref d_froms_a, .ref d_tos_a, .ref d_widths_a, .int res.2.2.2, .int d_trimmed])), (d_places_a, .inl (T.1, (16, .inl d_places))), (d_froms_a, .inl (T.1, (20, .inl res.1))), (d_tos_a, .inl (T.1, (20, .inl res.2.1))), (d_widths_a, .inl (T.1, (20, .inl res.2.2.1)))]) A) args s 0 0 A) (F0 m 0 ls []) := by
  obtain ⟨hx, hb, hml, hown, hts, hr, hlocks, hK, hN⟩ := id C
  intro d_froms d_tos d_widths d_ribbons hf H locs hP hD hS ls hl
  unfold f_X4_drawInto at hf
  refine lv_aload_n hx hb dX4_drawInto_0 rfl (lv_at hl 1 rfl) ?_
  refine lv_iconst (v := (0 : Int32)) hx hb dX4_drawInto_1 (by decide) ?_
  refine va_putN (D := D) (ci := 1) (v := .int (0 : Int32)) (ty := .int) (C := RX1) (T := TX1) (N := 6) hx hb hts iw_X4_drawInto_X1 tyX1 tyX1_ok nmX1 hown hK hP hD hS 2 rfl rfl 4 (by decide) (va_Nw.use rfl (hN.f 6 rfl)) (fun _ h9 => h9) rfl (by decide +kernel) rfl rfl (Nat.le_of_ble_eq_true rfl) dX4_drawInto_2 (fun H locs hP hD hS => ?_)
  have hP : va_P D vwCl [(t_a, .inr (4, [.ref t_codes_a, .int t_length])), (t_codes_a, .inl (T.1, (60, .inl t_codes))), (d_a, .inr (1, [.ref d_places_a, .ref d_froms_a, .ref d_tos_a, .ref d_widths_a, .int (0 : Int32), .int d_trimmed])), (d_places_a, .inl (T.1, (16, .inl d_places))), (d_froms_a, .inl (T.1, (20, .inl d_froms))), (d_tos_a, .inl (T.1, (20, .inl d_tos))), (d_widths_a, .inl (T.1, (20, .inl d_widths)))] H := hP
  have hD : va_D A [(t_a, .inr (4, [.ref t_codes_a, .int t_length])), (t_codes_a, .inl (T.1, (60, .inl t_codes))), (d_a, .inr (1, [.ref d_places_a, .ref d_froms_a, .ref d_tos_a, .ref d_widths_a, .int (0 : Int32), .int d_trimmed])), (d_places_a, .inl (T.1, (16, .inl d_places))), (d_froms_a, .inl (T.1, (20, .inl d_froms))), (d_tos_a, .inl (T.1, (20, .inl d_tos))), (d_widths_a, .inl (T.1, (20, .inl d_widths)))] := hD
  refine lv_iconst (v := (-1 : Int32)) hx hb dX4_drawInto_5 (by decide) ?_
  refine lv_istore_n (lv' := [(2, .int (-1 : Int32)), (0, .ref t_a), (1, .ref d_a)]) hx hb dX4_drawInto_6 rfl hl (by decide) rfl (fun ls hl => ?_)
  refine lv_iconst (v := (-1 : Int32)) hx hb dX4_drawInto_7 (by decide) ?_
  refine lv_istore_n (lv' := [(3, .int (-1 : Int32)), (2, .int (-1 : Int32)), (0, .ref t_a), (1, .ref d_a)]) hx hb dX4_drawInto_8 rfl hl (by decide) rfl (fun ls hl => ?_)
  refine lv_iconst (v := (0 : Int32)) hx hb dX4_drawInto_9 (by decide) ?_
  refine lv_istore (lv' := [(4, .int (0 : Int32)), (3, .int (-1 : Int32)), (2, .int (-1 : Int32)), (0, .ref t_a), (1, .ref d_a)]) hx hb dX4_drawInto_10 hl (by decide) rfl (fun ls hl => ?_)
  refine lv_iconst (v := (0 : Int32)) hx hb dX4_drawInto_12 (by decide) ?_
  refine lv_istore (lv' := [(5, .int (0 : Int32)), (4, .int (0 : Int32)), (3, .int (-1 : Int32)), (2, .int (-1 : Int32)), (0, .ref t_a), (1, .ref d_a)]) hx hb dX4_drawInto_13 hl (by decide) rfl (fun ls hl => ?_)
  exact w_X4_drawInto_b15 C hA _ _ _ _ _ _ _ _ _ hf _ _ hP hD hS _ (lv_sub hl [4, 5, 3, 2, 1, 0] rfl)
theorem c_X4_drawInto (l : Launch) (D : va_G) (T : TY) (t_a t_codes_a d_a d_places_a d_froms_a d_tos_a d_widths_a : Nat) (t_codes : Nat → Int32) (t_length : Int32) (d_places : Nat → Int32) (d_froms : Nat → Int32) (d_tos : Nat → Int32) (d_widths : Nat → Int32) (d_ribbons : Int32) (d_trimmed : Int32) (res : (Nat → Int32) × (Nat → Int32) × (Nat → Int32) × Int32) (hf : f_X4_drawInto t_codes t_length d_froms d_tos d_widths d_ribbons = some res) (sz : Nat) : Met l yX4_drawInto wsX4_drawInto rmX4_drawInto (va_Pc [.ref t_a, .ref d_a] (PM D T [(t_a, .inr (4, [.ref t_codes_a, .int t_length])), (t_codes_a, .inl (T.1, (60, .inl t_codes))), (d_a, .inr (1, [.ref d_places_a, .ref d_froms_a, .ref d_tos_a, .ref d_widths_a, .int d_ribbons, .int d_trimmed])), (d_places_a, .inl (T.1, (16, .inl d_places))), (d_froms_a, .inl (T.1, (20, .inl d_froms))), (d_tos_a, .inl (T.1, (20, .inl d_tos))), (d_widths_a, .inl (T.1, (20, .inl d_widths)))] sz)) (Qm none D (fun W9 => W9 = [(t_a, .inr (4, [.ref t_codes_a, .int t_length])), (t_codes_a, .inl (T.1, (60, .inl t_codes))), (d_a, .inr (1, [.ref d_places_a, .ref d_froms_a, .ref d_tos_a, .ref d_widths_a, .int res.2.2.2, .int d_trimmed])), (d_places_a, .inl (T.1, (16, .inl d_places))), (d_froms_a, .inl (T.1, (20, .inl res.1))), (d_tos_a, .inl (T.1, (20, .inl res.2.1))), (d_widths_a, .inl (T.1, (20, .inl res.2.2.1)))]) (va_A [(t_a, .inr (4, [.ref t_codes_a, .int t_length])), (t_codes_a, .inl (T.1, (60, .inl t_codes))), (d_a, .inr (1, [.ref d_places_a, .ref d_froms_a, .ref d_tos_a, .ref d_widths_a, .int d_ribbons, .int d_trimmed])), (d_places_a, .inl (T.1, (16, .inl d_places))), (d_froms_a, .inl (T.1, (20, .inl d_froms))), (d_tos_a, .inl (T.1, (20, .inl d_tos))), (d_widths_a, .inl (T.1, (20, .inl d_widths)))] sz)) 0 0 (va_A [(t_a, .inr (4, [.ref t_codes_a, .int t_length])), (t_codes_a, .inl (T.1, (60, .inl t_codes))), (d_a, .inr (1, [.ref d_places_a, .ref d_froms_a, .ref d_tos_a, .ref d_widths_a, .int d_ribbons, .int d_trimmed])), (d_places_a, .inl (T.1, (16, .inl d_places))), (d_froms_a, .inl (T.1, (20, .inl d_froms))), (d_tos_a, .inl (T.1, (20, .inl d_tos))), (d_widths_a, .inl (T.1, (20, .inl d_widths)))] sz) :=
  metM_of (by decide +kernel) rfl (Nat.le_of_ble_eq_true rfl) (fun p e s m args below meth c C hnm A hA hP hD ls hl => w_X4_drawInto_b0 C hA _ _ _ _ hf _ _ hP hD va_S.rf ls hl)
def rmX3_init : Room := { frames := 1, cells := 1, slots := 6, locals := 12 }
theorem hdS_X3_init : yX3_init.cls ≠ "java/lang/invoke/MethodHandle" ∧ yX3_init.cls ≠ "java/lang/invoke/VarHandle" ∧ (parseMethodDescriptor yX3_init.desc).map (fun d => d.parameters.length) = some 0 := by decide +kernel
theorem iw_X3_init_X3 : ∀ w ∈ wsX30, w ∈ wsX3_init := by decide +kernel
theorem mw_X3_init_0 : Cond.fieldLink RX3 11 "RibbonPosts$Past" "states" "[LRibbonPosts$Drawing;" ∈ wsX3_init := by decide +kernel
theorem mw_X3_init_1 : Cond.classLink RX3 9 RX1 ∈ wsX3_init := by decide +kernel
theorem mw_X3_init_2 : Cond.methodLink RX3 3 objectInit ∈ wsX3_init := by decide +kernel
theorem mw_X3_init_3 : Cond.instanceMethod objectInit ∈ wsX3_init := by decide +kernel
theorem mw_X3_init_4 : Cond.code objectInit ⟨#[0xb1]⟩ 1 none ∈ wsX3_init := by decide +kernel
set_option maxHeartbeats 4000000 in
set_option maxRecDepth 100000 in
theorem w_X3_init_b0 {p : Program} {l : Launch} {e : Env} {s : State} {m : MethodId} {args : Array Value} {below : List Frame} {meth : Method} {c : Code} {D : va_G} {T : TY} {p_a : Nat} {res : Unit} {A : Nat → Prop} (C : CX p s m args meth c cX3_init 1 RX3 wsX3_init none D T) (hA : meth.name = "<init>" ∧ ∀ q, s.heap.size ≤ q → A q) : f_X3_init = some res → ∀ (H : Heap) (locs : List Loc), va_P D vwCl [(p_a, .inr (3, [.null, .int (0 : Int32), .int (0 : Int32)]))] H → va_D A [(p_a, .inr (3, [.null, .int (0 : Int32), .int (0 : Int32)]))] → va_S A s.heap H locs → ∀ ls : Array Slot, lv_has ls 1 [(0, .ref p_a)] → W p l e rmX3_init s m args below meth c H locs 0 0 (MQ below (Qm none D (fun W9 => ∃ q7 : Nat, W9 = [(p_a, .inr (3, [.ref q7, .int (0 : Int32), .int (0 : Int32)])), (q7, .inl (T.2.2.1, (6, .inr (.inr (.inr (.inr (fun _ => none)))))))]) A) args s 1 6 A) (F0 m 0 ls []) := by
  obtain ⟨hx, hb, hml, hown, hts, hr, hlocks, hK, hN⟩ := id C
  obtain ⟨hin, hA⟩ := id hA
  intro  hf H locs hP hD hS ls hl
  unfold f_X3_init at hf
  refine lv_aload_n hx hb dX3_init_0 rfl (lv_at hl 0 rfl) ?_
  refine W.objInit hx hb hown (hts (.methodLink RX3 3 objectInit) mw_X3_init_2) (hts (.instanceMethod objectInit) mw_X3_init_3) (hts (.code objectInit ⟨#[0xb1]⟩ 1 none) mw_X3_init_4) rfl (by rw [hml]; exact hl.1) rfl dX3_init_1 (Nat.le_of_ble_eq_true rfl) (Nat.le_of_ble_eq_true rfl) ?_
  refine W.eq (g2 := F0 m 4 ls []) rfl ?_
  refine lv_aload_n hx hb dX3_init_4 rfl (lv_at hl 0 rfl) ?_
  refine lv_bipush (v := (6 : Int32)) hx hb dX3_init_5 (by decide) ?_
  refine va_newq (C := RX1) (N' := 6) hx hb hown (hts (.classLink RX3 9 RX1) mw_X3_init_1) hN.2.2 hK hP hD hS hA (by decide) (by decide) (by decide) (Nat.le_of_ble_eq_true rfl) (Nat.le_of_ble_eq_true rfl) dX3_init_7 (fun q7 cA H hK9 hP hD hS => ?_)
  obtain rfl : cA = T.2.2.1 := tyOne hK9 2 rfl
  have hP : va_P D vwCl [(p_a, .inr (3, [.null, .int (0 : Int32), .int (0 : Int32)])), (q7, .inl (T.2.2.1, (6, .inr (.inr (.inr (.inr (fun _ => none)))))))] H := hP
  have hD : va_D A [(p_a, .inr (3, [.null, .int (0 : Int32), .int (0 : Int32)])), (q7, .inl (T.2.2.1, (6, .inr (.inr (.inr (.inr (fun _ => none)))))))] := hD
  refine W.widen (k := 1) (n := 6) (by decide) (by decide) ?_
  refine va_putF (D := D) (ci := 3) (v := .ref q7) (ty := .array (.object RX1)) (C := RX3) (T := TX3) (N := 3) hx hb hts iw_X3_init_X3 tyX3 tyX3_ok nmX3 hown hK hP hD hS 0 rfl rfl 0 (by decide) (hts (.fieldLink RX3 11 "RibbonPosts$Past" "states" "[LRibbonPosts$Drawing;") mw_X3_init_0) (fun _ h9 => h9) rfl hin rfl (by decide +kernel) rfl rfl (Nat.le_of_ble_eq_true rfl) dX3_init_10 (fun H locs hP hD hS => ?_)
  have hP : va_P D vwCl [(p_a, .inr (3, [.ref q7, .int (0 : Int32), .int (0 : Int32)])), (q7, .inl (T.2.2.1, (6, .inr (.inr (.inr (.inr (fun _ => none)))))))] H := hP
  have hD : va_D A [(p_a, .inr (3, [.ref q7, .int (0 : Int32), .int (0 : Int32)])), (q7, .inl (T.2.2.1, (6, .inr (.inr (.inr (.inr (fun _ => none)))))))] := hD
  obtain rfl := Option.some.inj hf
  exact W.vret hx hb hr (fun t ht hW => ⟨rfl, ⟨_, ⟨_, rfl⟩, by rw [ht]; exact hP, hD⟩, hS.F ht⟩) hS.2.2 dX3_init_13 hlocks
theorem c_X3_init (l : Launch) (D : va_G) (T : TY) (p_a : Nat) (res : Unit) (hf : f_X3_init = some res) (sz : Nat) : Met l yX3_init wsX3_init rmX3_init (va_Pc [.ref p_a] (PM D T [(p_a, .inr (3, [.null, .int (0 : Int32), .int (0 : Int32)]))] sz)) (Qm none D (fun W9 => ∃ q7 : Nat, W9 = [(p_a, .inr (3, [.ref q7, .int (0 : Int32), .int (0 : Int32)])), (q7, .inl (T.2.2.1, (6, .inr (.inr (.inr (.inr (fun _ => none)))))))]) (va_A [(p_a, .inr (3, [.null, .int (0 : Int32), .int (0 : Int32)]))] sz)) 1 6 (va_A [(p_a, .inr (3, [.null, .int (0 : Int32), .int (0 : Int32)]))] sz) :=
  metM_of (by decide +kernel) rfl (Nat.le_of_ble_eq_true rfl) (fun p e s m args below meth c C hnm A hA hP hD ls hl => w_X3_init_b0 C ⟨hnm, hA⟩ hf _ _ hP hD va_S.rf ls hl)
