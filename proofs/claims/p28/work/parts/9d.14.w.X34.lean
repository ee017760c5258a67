/-! ===== walks, laid by wip/gen ===== -/
def rmX3_init : Room := { frames := 1, cells := 1, slots := 6, locals := 12 }
theorem hdS_X3_init : yX3_init.cls ≠ "java/lang/invoke/MethodHandle" ∧ yX3_init.cls ≠ "java/lang/invoke/VarHandle" ∧ (parseMethodDescriptor yX3_init.desc).map (fun d => d.parameters.length) = some 0 := by decide +kernel
theorem iw_X3_init_X3 : ∀ w ∈ wsX30, w ∈ wsX3_init := by decide +kernel
theorem mw_X3_init_0 : Cond.fieldLink RX3 11 "RibbonPosts$Past" "states" "[LRibbonPosts$Drawing;" ∈ wsX3_init := by decide +kernel
theorem mw_X3_init_1 : Cond.classLink RX3 9 RX1 ∈ wsX3_init := by decide +kernel
theorem mw_X3_init_2 : Cond.methodLink RX3 3 objectInit ∈ wsX3_init := by decide +kernel
theorem mw_X3_init_3 : Cond.instanceMethod objectInit ∈ wsX3_init := by decide +kernel
theorem mw_X3_init_4 : Cond.code objectInit ⟨#[0xb1]⟩ 1 none ∈ wsX3_init := by decide +kernel
set_option maxHeartbeats 4000000 in
set_option maxRecDepth 100000 in
theorem w_X3_init_b0 {p : Program} {l : Launch} {e : Env} {s : State} {m : MethodId} {args : Array Value} {below : List Frame} {meth : Method} {c : Code} {D : va_G} {T : TY} {p_a : Nat} {res : Unit} {A : Nat → Prop} (C : CX p s m args meth c cX3_init 1 RX3 wsX3_init none D T) (hA : meth.name = "<init>" ∧ ∀ q, s.heap.size ≤ q → A q) : f_X3_init = some res → ∀ (H : Heap) (locs : List Loc), va_P D vwCl [(p_a, .inr (3, [.null, .int (0 : Int32), .int (0 : Int32)]))] H → va_D A [(p_a, .inr (3, [.null, .int (0 : Int32), .int (0 : Int32)]))] → va_S A s.heap H locs → ∀ ls : Array Slot, lv_has ls 1 [(0, .ref p_a)] → W p l e rmX3_init s m args below meth c H locs 0 0 (MQ below (Qm none D (fun W9 => ∃ q7 : Nat, W9 = [(p_a, .inr (3, [.ref q7, .int (0 : Int32), .int (0 : Int32)])), (q7, .inl (T.2.2.1, (6, .inr (.inr (.inr (.inr (fun _ => none)))))))]) A) args s 1 6 A) (F0 m 0 ls []) := by
  obtain ⟨hx, hb, hml, hown, hts, hr, hlocks, hK, hN⟩ := id C
  obtain ⟨hin, hA⟩ := id hA
  intro  hf H locs hP hD hS ls hl
  unfold f_X3_init at hf
  refine lv_aload_n hx hb dX3_init_0 rfl (lv_at hl 0 rfl) ?_
  refine W.objInit hx hb hown (hts (.methodLink RX3 3 objectInit) mw_X3_init_2) (hts (.instanceMethod objectInit) mw_X3_init_3) (hts (.code objectInit ⟨#[0xb1]⟩ 1 none) mw_X3_init_4) rfl (by rw [hml]; exact hl.1) rfl dX3_init_1 (Nat.le_of_ble_eq_true rfl) (Nat.le_of_ble_eq_true rfl) ?_
  refine W.eq (g2 := F0 m 4 ls []) rfl ?_
  refine lv_aload_n hx hb dX3_init_4 rfl (lv_at hl 0 rfl) ?_
  refine lv_bipush (v := (6 : Int32)) hx hb dX3_init_5 (by decide) ?_
  refine va_newq (C := RX1) (N' := 6) hx hb hown (hts (.classLink RX3 9 RX1) mw_X3_init_1) hN.2.2 hK hP hD hS hA (by decide) (by decide) (by decide) (Nat.le_of_ble_eq_true rfl) (Nat.le_of_ble_eq_true rfl) dX3_init_7 (fun q7 cA H hK9 hP hD hS => ?_)
  obtain rfl : cA = T.2.2.1 := tyOne hK9 2 rfl
  have hP : va_P D vwCl [(p_a, .inr (3, [.null, .int (0 : Int32), .int (0 : Int32)])), (q7, .inl (T.2.2.1, (6, .inr (.inr (.inr (.inr (fun _ => none)))))))] H := hP
  have hD : va_D A [(p_a, .inr (3, [.null, .int (0 : Int32), .int (0 : Int32)])), (q7, .inl (T.2.2.1, (6, .inr (.inr (.inr (.inr (fun _ => none)))))))] := hD
  refine W.widen (k := 1) (n := 6) (by decide) (by decide) ?_
  refine va_putF (D := D) (ci := 3) (v := .ref q7) (ty := .array (.object RX1)) (C := RX3) (T := TX3) (N := 3) hx hb hts iw_X3_init_X3 tyX3 tyX3_ok nmX3 hown hK hP hD hS 0 rfl rfl 0 (by decide) (hts (.fieldLink RX3 11 "RibbonPosts$Past" "states" "[LRibbonPosts$Drawing;") mw_X3_init_0) (fun _ h9 => h9) rfl hin rfl (by decide +kernel) rfl rfl (Nat.le_of_ble_eq_true rfl) dX3_init_10 (fun H locs hP hD hS => ?_)
  have hP : va_P D vwCl [(p_a, .inr (3, [.ref q7, .int (0 : Int32), .int (0 : Int32)])), (q7, .inl (T.2.2.1, (6, .inr (.inr (.inr (.inr (fun _ => none)))))))] H := hP
  have hD : va_D A [(p_a, .inr (3, [.ref q7, .int (0 : Int32), .int (0 : Int32)])), (q7, .inl (T.2.2.1, (6, .inr (.inr (.inr (.inr (fun _ => none)))))))] := hD
  obtain rfl := Option.some.inj hf
  exact W.vret hx hb hr (fun t ht hW => ⟨rfl, ⟨_, ⟨_, rfl⟩, by rw [ht]; exact hP, hD⟩, hS.F ht⟩) hS.2.2 dX3_init_13 hlocks
theorem c_X3_init (l : Launch) (D : va_G) (T : TY) (p_a : Nat) (res : Unit) (hf : f_X3_init = some res) (sz : Nat) : Met l yX3_init wsX3_init rmX3_init (va_Pc [.ref p_a] (PM D T [(p_a, .inr (3, [.null, .int (0 : Int32), .int (0 : Int32)]))] sz)) (Qm none D (fun W9 => ∃ q7 : Nat, W9 = [(p_a, .inr (3, [.ref q7, .int (0 : Int32), .int (0 : Int32)])), (q7, .inl (T.2.2.1, (6, .inr (.inr (.inr (.inr (fun _ => none)))))))]) (va_A [(p_a, .inr (3, [.null, .int (0 : Int32), .int (0 : Int32)]))] sz)) 1 6 (va_A [(p_a, .inr (3, [.null, .int (0 : Int32), .int (0 : Int32)]))] sz) :=
  metM_of (by decide +kernel) rfl (Nat.le_of_ble_eq_true rfl) (fun p e s m args below meth c C hnm A hA hP hD ls hl => w_X3_init_b0 C ⟨hnm, hA⟩ hf _ _ hP hD va_S.rf ls hl)
def rmX4_init : Room := { frames := 1, cells := 1, slots := 60, locals := 12 }
theorem hdS_X4_init : yX4_init.cls ≠ "java/lang/invoke/MethodHandle" ∧ yX4_init.cls ≠ "java/lang/invoke/VarHandle" ∧ (parseMethodDescriptor yX4_init.desc).map (fun d => d.parameters.length) = some 0 := by decide +kernel
theorem iw_X4_init_X4 : ∀ w ∈ wsX40, w ∈ wsX4_init := by decide +kernel
theorem mw_X4_init_0 : Cond.fieldLink RX4 9 "RibbonPosts$Text" "codes" "[I" ∈ wsX4_init := by decide +kernel
theorem mw_X4_init_1 : Cond.arrayClass .int ∈ wsX4_init := by decide +kernel
theorem mw_X4_init_2 : Cond.methodLink RX4 3 objectInit ∈ wsX4_init := by decide +kernel
theorem mw_X4_init_3 : Cond.instanceMethod objectInit ∈ wsX4_init := by decide +kernel
theorem mw_X4_init_4 : Cond.code objectInit ⟨#[0xb1]⟩ 1 none ∈ wsX4_init := by decide +kernel
set_option maxHeartbeats 4000000 in
set_option maxRecDepth 100000 in
theorem w_X4_init_b0 {p : Program} {l : Launch} {e : Env} {s : State} {m : MethodId} {args : Array Value} {below : List Frame} {meth : Method} {c : Code} {D : va_G} {T : TY} {t_a : Nat} {res : Unit} {A : Nat → Prop} (C : CX p s m args meth c cX4_init 1 RX4 wsX4_init none D T) (hA : meth.name = "<init>" ∧ ∀ q, s.heap.size ≤ q → A q) : f_X4_init = some res → ∀ (H : Heap) (locs : List Loc), va_P D vwCl [(t_a, .inr (4, [.null, .int (0 : Int32)]))] H → va_D A [(t_a, .inr (4, [.null, .int (0 : Int32)]))] → va_S A s.heap H locs → ∀ ls : Array Slot, lv_has ls 1 [(0, .ref t_a)] → W p l e rmX4_init s m args below meth c H locs 0 0 (MQ below (Qm none D (fun W9 => ∃ q7 : Nat, W9 = [(t_a, .inr (4, [.ref q7, .int (0 : Int32)])), (q7, .inl (T.1, (60, .inl (fun _ => (0 : Int32)))))]) A) args s 1 60 A) (F0 m 0 ls []) := by
  obtain ⟨hx, hb, hml, hown, hts, hr, hlocks, hK, hN⟩ := id C
  obtain ⟨hin, hA⟩ := id hA
  intro  hf H locs hP hD hS ls hl
  unfold f_X4_init at hf
  refine lv_aload_n hx hb dX4_init_0 rfl (lv_at hl 0 rfl) ?_
  refine W.objInit hx hb hown (hts (.methodLink RX4 3 objectInit) mw_X4_init_2) (hts (.instanceMethod objectInit) mw_X4_init_3) (hts (.code objectInit ⟨#[0xb1]⟩ 1 none) mw_X4_init_4) rfl (by rw [hml]; exact hl.1) rfl dX4_init_1 (Nat.le_of_ble_eq_true rfl) (Nat.le_of_ble_eq_true rfl) ?_
  refine W.eq (g2 := F0 m 4 ls []) rfl ?_
  refine lv_aload_n hx hb dX4_init_4 rfl (lv_at hl 0 rfl) ?_
  refine lv_bipush (v := (60 : Int32)) hx hb dX4_init_5 (by decide) ?_
  refine va_newa (atype := .int) (ty := .int) (N' := 60) (a0 := (60, .inl (fun _ => (0 : Int32)))) hx hb (hts (.arrayClass .int) mw_X4_init_1) rfl hK hP hD hS hA (fun _ => rfl) (by decide) (by decide) (by decide) (Nat.le_of_ble_eq_true rfl) (Nat.le_of_ble_eq_true rfl) dX4_init_7 (fun q7 cA H hK9 hP hD hS => ?_)
  obtain rfl : cA = T.1 := tyOne hK9 0 rfl
  have hP : va_P D vwCl [(t_a, .inr (4, [.null, .int (0 : Int32)])), (q7, .inl (T.1, (60, .inl (fun _ => (0 : Int32)))))] H := hP
  have hD : va_D A [(t_a, .inr (4, [.null, .int (0 : Int32)])), (q7, .inl (T.1, (60, .inl (fun _ => (0 : Int32)))))] := hD
  refine W.widen (k := 1) (n := 60) (by decide) (by decide) ?_
  refine va_putF (D := D) (ci := 4) (v := .ref q7) (ty := .array .int) (C := RX4) (T := TX4) (N := 2) hx hb hts iw_X4_init_X4 tyX4 tyX4_ok nmX4 hown hK hP hD hS 0 rfl rfl 0 (by decide) (hts (.fieldLink RX4 9 "RibbonPosts$Text" "codes" "[I") mw_X4_init_0) (fun _ h9 => h9) rfl hin rfl (by decide +kernel) rfl rfl (Nat.le_of_ble_eq_true rfl) dX4_init_9 (fun H locs hP hD hS => ?_)
  have hP : va_P D vwCl [(t_a, .inr (4, [.ref q7, .int (0 : Int32)])), (q7, .inl (T.1, (60, .inl (fun _ => (0 : Int32)))))] H := hP
  have hD : va_D A [(t_a, .inr (4, [.ref q7, .int (0 : Int32)])), (q7, .inl (T.1, (60, .inl (fun _ => (0 : Int32)))))] := hD
  obtain rfl := Option.some.inj hf
  exact W.vret hx hb hr (fun t ht hW => ⟨rfl, ⟨_, ⟨_, rfl⟩, by rw [ht]; exact hP, hD⟩, hS.F ht⟩) hS.2.2 dX4_init_12 hlocks
theorem c_X4_init (l : Launch) (D : va_G) (T : TY) (t_a : Nat) (res : Unit) (hf : f_X4_init = some res) (sz : Nat) : Met l yX4_init wsX4_init rmX4_init (va_Pc [.ref t_a] (PM D T [(t_a, .inr (4, [.null, .int (0 : Int32)]))] sz)) (Qm none D (fun W9 => ∃ q7 : Nat, W9 = [(t_a, .inr (4, [.ref q7, .int (0 : Int32)])), (q7, .inl (T.1, (60, .inl (fun _ => (0 : Int32)))))]) (va_A [(t_a, .inr (4, [.null, .int (0 : Int32)]))] sz)) 1 60 (va_A [(t_a, .inr (4, [.null, .int (0 : Int32)]))] sz) :=
  metM_of (by decide +kernel) rfl (Nat.le_of_ble_eq_true rfl) (fun p e s m args below meth c C hnm A hA hP hD ls hl => w_X4_init_b0 C ⟨hnm, hA⟩ hf _ _ hP hD va_S.rf ls hl)
