/-! ===== the law's helpers: methods with a table, what holds at their start, what they leave ===== -/
def PMZ (D : va_G) (T : TY) (W : va_W) (sz : Nat) : State → Prop := fun U => PM D T W sz U ∧ ZT U
theorem metH_of {l : Launch} {y : MethodName} {ws ws' : List Cond} {rm : Room} {cc : ByteArray} {maxL mc ms : Nat} {ret : Option FieldType} {hh : List (Nat × Nat × Nat × Nat)} {av : List Value} {v : Option Value} {D : va_G} {T : TY} {W0 : va_W} {Wp : va_W → Prop} {sz : Nat}
    (hy : plainName y.cls = true) (hw : ws = Cond.codeWith y cc maxL ret hh :: ws') (hn : (lg_sl av).length ≤ maxL)
    (body : ∀ (p : Program) (e : Env) (s : State) (m : MethodId) (args : Array Value) (below : List Frame) (meth : Method) (c : Code), CX p s m args meth c cc maxL y.cls ws ret D T → meth.name = y.name → ∀ A : Nat → Prop, (∀ q, s.heap.size ≤ q → A q) → va_P D vwCl W0 s.heap → va_D A W0 → ∀ ls : Array Slot, lv_has ls maxL (lv_args 0 av) →
      W p l e rm s m args below meth c s.heap [] 0 0 (MQ below (Qm v D Wp A) args s mc ms A) (F0 m 0 ls [])) : Met l y ws rm (va_Pc av (PM D T W0 sz)) (Qm v D Wp (va_A W0 sz)) mc ms (va_A W0 sz) := by
  unfold Met
  refine MetFree.of_bodyS (code := cc) (maxLocals := maxL) (ret := ret) hy ?_ ?_
  · intro args s m h hn
    obtain ⟨m9, meth, c, hn9, h1, h2, h3, h4, -, h5, h6, -⟩ := Cond.codeWith_spec (atoms_spec (ws := ws) h _ (by rw [hw]; exact List.mem_cons_self))
    cases hn.symm.trans hn9
    exact ⟨meth, c, h1, h2, h3, h4, h5, h6⟩
  · intro p e s m args below meth c s₁ B hml hv _
    have hh0 : s₁.heap = s.heap := by rw [B.state]; rfl
    obtain ⟨rfl, hsz, hP, hK, hN, hD⟩ := hv
    subst hsz
    have hl := lv_entry av (n := maxL) hn
    have K : W p l e rm s m av.toArray below meth c s.heap [] 0 0 (MQ below (Qm v D Wp (va_A W0 s.heap.size)) av.toArray s mc ms (va_A W0 s.heap.size)) (entryFrame m av.toArray maxL) := by
      rw [lg_entry_eq]
      exact body p e s m _ below meth c ⟨B.exec, B.bytes, hml, findClass_of_methodNamed B.named, atoms_spec (ws := ws) B.pre, B.returns, B.notSynchronized, hK, hN⟩ (name_of_methodNamed B.named B.method).1 _ (fun q h => Or.inr h) hP (hD.self) _ hl
    obtain ⟨t, a1, o, b1, b2, b3, b4⟩ := K s₁ hh0 (Stand.of_body B)
    exact ⟨t, o, a1, b1, b2, b3, b4⟩
theorem metHT_of {l : Launch} {y : MethodName} {ws ws' : List Cond} {rm : Room} {cc : ByteArray} {maxL mc ms : Nat} {ret : Option FieldType} {hh : List (Nat × Nat × Nat × Nat)} {av : List Value} {v : Option Value} {D : va_G} {T : TY} {W0 : va_W} {Wp : va_W → Prop} {sz : Nat}
    (hy : plainName y.cls = true) (hw : ws = Cond.codeWith y cc maxL ret hh :: ws') (hn : (lg_sl av).length ≤ maxL)
    (body : ∀ (p : Program) (e : Env) (s : State) (m : MethodId) (args : Array Value) (below : List Frame) (meth : Method) (c : Code), CX p s m args meth c cc maxL y.cls ws ret D T → c.exceptionTable.toList = tableOf hh → ZT s → ∀ A : Nat → Prop, (∀ q, s.heap.size ≤ q → A q) → va_P D vwCl W0 s.heap → va_D A W0 → ∀ ls : Array Slot, lv_has ls maxL (lv_args 0 av) →
      W p l e rm s m args below meth c s.heap [] 0 0 (MQ below (Qm v D Wp A) args s mc ms A) (F0 m 0 ls [])) : Met l y ws rm (va_Pc av (PMZ D T W0 sz)) (Qm v D Wp (va_A W0 sz)) mc ms (va_A W0 sz) := by
  unfold Met
  refine MetFree.of_bodyS (code := cc) (maxLocals := maxL) (ret := ret) hy ?_ ?_
  · intro args s m h hn
    obtain ⟨m9, meth, c, hn9, h1, h2, h3, h4, -, h5, h6, -⟩ := Cond.codeWith_spec (atoms_spec (ws := ws) h _ (by rw [hw]; exact List.mem_cons_self))
    cases hn.symm.trans hn9
    exact ⟨meth, c, h1, h2, h3, h4, h5, h6⟩
  · intro p e s m args below meth c s₁ B hml hv _
    have hh0 : s₁.heap = s.heap := by rw [B.state]; rfl
    obtain ⟨rfl, ⟨hsz, hP, hK, hN, hD⟩, hZ⟩ := hv
    subst hsz
    have ht := vx_table (x := y) B (atoms_spec (ws := ws) B.pre _ (by rw [hw]; exact List.mem_cons_self))
    have hl := lv_entry av (n := maxL) hn
    have K : W p l e rm s m av.toArray below meth c s.heap [] 0 0 (MQ below (Qm v D Wp (va_A W0 s.heap.size)) av.toArray s mc ms (va_A W0 s.heap.size)) (entryFrame m av.toArray maxL) := by
      rw [lg_entry_eq]
      exact body p e s m _ below meth c ⟨B.exec, B.bytes, hml, findClass_of_methodNamed B.named, atoms_spec (ws := ws) B.pre, B.returns, B.notSynchronized, hK, hN⟩ ht hZ _ (fun q h => Or.inr h) hP (hD.self) _ hl
    obtain ⟨t, a1, o, b1, b2, b3, b4⟩ := K s₁ hh0 (Stand.of_body B)
    exact ⟨t, o, a1, b1, b2, b3, b4⟩
theorem ZT.at {s U : State} {H : Heap} {locs : List Loc} (h : ZT s) (hS : va_S (fun q => s.heap.size ≤ q) s.heap H locs) (hU : U.heap = H) (hW : s.WarmedH U.vm) : ZT U := by
  obtain ⟨h1, h2, h3, h4, h5, h6⟩ := h
  have hz := hS.1
  refine ⟨?_, ?_, fun q hq => ?_, fun q hq => va_Nw.warmD hW (h4 q hq), fun q hq => va_Nw.warmC hW (h5 q hq), fun q hq => va_Nc.moved hW.alike (h6 q hq)⟩
  · rw [hU]; exact vx_Zq.moved hW.alike ((h1.kept hS.2.1).narrow (fun q hq => Nat.le_trans hz hq))
  · rw [hU]; exact vx_Zq.moved hW.alike ((h2.kept hS.2.1).narrow (fun q hq => Nat.le_trans hz hq))
  · obtain ⟨sa, h⟩ := h3 q hq
    exact ⟨sa, vk_R.warm hW h⟩
theorem frMZ {D : va_G} {T : TY} {W : va_W} {sz : Nat} {av : List Value} : FrameBlind (va_Pc av (PMZ D T W sz)) := fun a U g mk q => by
  obtain ⟨q0, ⟨q1, qP, qK, qN, qD⟩, qZ⟩ := q
  exact ⟨q0, ⟨q1, qP, va_K.moved (u := U) (U := U.calling g mk a) (Vm.Alike.refl U.vm) qK, NW.same (u := U) (U := U.calling g mk a) rfl qN, qD⟩, ZT.same (u := U) (U := U.calling g mk a) rfl rfl qZ⟩
theorem preMZS {s : State} {H : Heap} {D : va_G} {T : TY} {A : Nat → Prop} {W : va_W} {As : List Value} {locs : List Loc} (hP : va_P D vwCl W H) (hD : va_D A W) (hK : va_K D vwCl (tyL T) s) (hN : NW s) (hZ : ZT s) (hS : va_S (fun q => s.heap.size ≤ q) s.heap H locs) : PreS s H (va_Pc As (PMZ D T W H.size)) As :=
  ⟨frMZ, fun U hU hW => ⟨rfl, ⟨by rw [hU], by rw [hU]; exact hP, va_K.moved hW.alike hK, NW.warm hW hN, hD.weaken (fun _ _ _ _ => trivial)⟩, hZ.at hS hU hW⟩⟩
theorem vaP_kept {D : va_G} {W : va_W} {H H1 : Heap} (h : va_P D vwCl W H) (hk : ∀ q : Nat, q < H.size → H1[q]? = H[q]?) : va_P D vwCl W H1 := h.kept (fun k q hq => hk q.1 (vx_lt h hq))
theorem hdV_X6_ribbon : yX6_ribbon.cls = RX6 ∧ yX6_ribbon.cls ≠ "java/lang/invoke/MethodHandle" ∧ yX6_ribbon.cls ≠ "java/lang/invoke/VarHandle" ∧ (parseMethodDescriptor yX6_ribbon.desc).map (fun d => d.parameters.length) = some 3 := hdV_X6_ribbonA
theorem hdV_X6_widen : yX6_widen.cls = RX6 ∧ yX6_widen.cls ≠ "java/lang/invoke/MethodHandle" ∧ yX6_widen.cls ≠ "java/lang/invoke/VarHandle" ∧ (parseMethodDescriptor yX6_widen.desc).map (fun d => d.parameters.length) = some 2 := hdV_X6_widenA
theorem hdV_X6_remove : yX6_remove.cls = RX6 ∧ yX6_remove.cls ≠ "java/lang/invoke/MethodHandle" ∧ yX6_remove.cls ≠ "java/lang/invoke/VarHandle" ∧ (parseMethodDescriptor yX6_remove.desc).map (fun d => d.parameters.length) = some 1 := hdV_X6_removeA
theorem hdV_X6_swap : yX6_swap.cls = RX6 ∧ yX6_swap.cls ≠ "java/lang/invoke/MethodHandle" ∧ yX6_swap.cls ≠ "java/lang/invoke/VarHandle" ∧ (parseMethodDescriptor yX6_swap.desc).map (fun d => d.parameters.length) = some 2 := hdV_X6_swapA
theorem hdV_X6_order : yX6_order.cls = RX6 ∧ yX6_order.cls ≠ "java/lang/invoke/MethodHandle" ∧ yX6_order.cls ≠ "java/lang/invoke/VarHandle" ∧ (parseMethodDescriptor yX6_order.desc).map (fun d => d.parameters.length) = some 1 := hdV_X6_orderA
theorem hdV_X6_trim : yX6_trim.cls = RX6 ∧ yX6_trim.cls ≠ "java/lang/invoke/MethodHandle" ∧ yX6_trim.cls ≠ "java/lang/invoke/VarHandle" ∧ (parseMethodDescriptor yX6_trim.desc).map (fun d => d.parameters.length) = some 1 := hdV_X6_trimA
theorem hdV_X6_undo : yX6_undo.cls = RX6 ∧ yX6_undo.cls ≠ "java/lang/invoke/MethodHandle" ∧ yX6_undo.cls ≠ "java/lang/invoke/VarHandle" ∧ (parseMethodDescriptor yX6_undo.desc).map (fun d => d.parameters.length) = some 0 := hdV_X6_undoB
