/-! ===== the law's methods that hold the class: what holds at their start, behind a call ===== -/
def FUI : Nat := 22
def PMB (D : va_G) (T : TY) (W : va_W) (sz n0 : Nat) : State → Prop := fun U => PM D T W sz U ∧ ZB n0 U ∧ ∀ q, q ∈ W → n0 ≤ q.1
theorem metMB_of {l : Launch} {y : MethodName} {ws ws' : List Cond} {rm : Room} {cc : ByteArray} {maxL mc ms : Nat} {ret : Option FieldType} {av : List Value} {v : Option Value} {D : va_G} {T : TY} {W0 : va_W} {Wp : va_W → Prop} {sz n0 : Nat}
    (hy : plainName y.cls = true) (hw : ws = Cond.code y cc maxL ret :: ws') (hn : (lg_sl av).length ≤ maxL)
    (body : ∀ (p : Program) (e : Env) (s : State) (m : MethodId) (args : Array Value) (below : List Frame) (meth : Method) (c : Code), CX p s m args meth c cc maxL y.cls ws ret D T → ZB n0 s → ∀ A : Nat → Prop, (∀ q, s.heap.size ≤ q → A q) → (∀ q, A q → n0 ≤ q) → va_P D vwCl W0 s.heap → va_D A W0 → ∀ ls : Array Slot, lv_has ls maxL (lv_args 0 av) →
      W p l e rm s m args below meth c s.heap [] 0 0 (MQ below (Qm v D Wp A) args s mc ms A) (F0 m 0 ls [])) : Met l y ws rm (va_Pc av (PMB D T W0 sz n0)) (Qm v D Wp (va_A W0 sz)) mc ms (va_A W0 sz) := by
  refine Met.ofW (cc := cc) (maxL := maxL) (ret := ret) hy hw ?_
  intro p e s m args below meth c s₁ B hml hv
  obtain ⟨rfl, ⟨hsz, hP, hK, hN, hD⟩, hZ, hn0⟩ := hv
  subst hsz
  have hl := lv_entry av (n := maxL) hn
  rw [lg_entry_eq]
  refine body p e s m _ below meth c ⟨B.exec, B.bytes, hml, findClass_of_methodNamed B.named, atoms_spec (ws := ws) B.pre, B.returns, B.notSynchronized, hK, hN⟩ hZ _ (fun q h => Or.inr h) (fun q h => ?_) hP (hD.self) _ hl
  rcases h with ⟨k, e9, he⟩ | h
  · exact hn0 _ (List.mem_of_getElem? he)
  · exact Nat.le_trans hZ.1 h
theorem frMB {D : va_G} {T : TY} {W : va_W} {sz n0 : Nat} {av : List Value} : FrameBlind (va_Pc av (PMB D T W sz n0)) := fun a U g mk q => by
  obtain ⟨q0, ⟨q1, qP, qK, qN, qD⟩, qZ, q9⟩ := q
  exact ⟨q0, ⟨q1, qP, va_K.moved (u := U) (U := U.calling g mk a) (Vm.Alike.refl U.vm) qK, NW.same (u := U) (U := U.calling g mk a) rfl qN, qD⟩, ZB.same (u := U) (U := U.calling g mk a) rfl rfl qZ, q9⟩
theorem preMB {s : State} {H : Heap} {D : va_G} {T : TY} {A : Nat → Prop} {W : va_W} {As : List Value} {locs : List Loc} {n0 : Nat} (hP : va_P D vwCl W H) (hD : va_D A W) (hK : va_K D vwCl (tyL T) s) (hN : NW s) (hZ : ZB n0 s) (hS : va_S A s.heap H locs) (hAn : ∀ q, A q → n0 ≤ q) : PreS s H (va_Pc As (PMB D T W H.size n0)) As :=
  ⟨frMB, fun U hU hW => ⟨rfl, ⟨by rw [hU], by rw [hU]; exact hP, va_K.moved hW.alike hK, NW.warm hW hN, hD.weaken (fun _ _ _ _ => trivial)⟩, hZ.at hS hAn hU hW, fun q hq => hAn _ ((vaD_iff.mp hD).2 q hq)⟩⟩
section KITLL
variable {p : Program} {l : Launch} {e : Env} {R : Room} {s : State} {m : MethodId} {args : Array Value} {below : List Frame} {meth : Method} {c : Code} {H : Heap} {locs : List Loc} {cells slots : Nat} {Q : State → Prop}
variable {pc : Nat} {ls : Array Slot} {rest st0 : List Value} {a : Array Value} {mc ms : Nat}
theorem callLi {v : Int32} {D : va_G} {Wp : va_W → Prop} {A : Nat → Prop} {wc wr : va_W}
    (hr : va_Run p l e R s m args below meth c H locs cells slots mc ms (F0 m pc ls st0) rest (Qm (some (.int v)) D Wp (va_A wc H.size) a) (va_A wc H.size))
    (hW : WD D A (wc ++ wr) H) (hS : va_S A s.heap H locs) (hA : ∀ q, s.heap.size ≤ q → A q)
    (kk : ∀ (W' : va_W) (H1 : Heap) (locs1 : List Loc), Wp W' → WD D A (W' ++ wr) H1 → va_S A s.heap H1 locs1 → W p l e R s m args below meth c H1 locs1 (cells + mc) (slots + ms) Q (F0 m (pc + 3) ls (.int v :: rest))) : W p l e R s m args below meth c H locs cells slots Q (F0 m pc ls st0) := callL hr hW hS hA kk
theorem callLv {D : va_G} {Wp : va_W → Prop} {A : Nat → Prop} {wc wr : va_W}
    (hr : va_Run p l e R s m args below meth c H locs cells slots mc ms (F0 m pc ls st0) rest (Qm none D Wp (va_A wc H.size) a) (va_A wc H.size))
    (hW : WD D A (wc ++ wr) H) (hS : va_S A s.heap H locs) (hA : ∀ q, s.heap.size ≤ q → A q)
    (kk : ∀ (W' : va_W) (H1 : Heap) (locs1 : List Loc), Wp W' → WD D A (W' ++ wr) H1 → va_S A s.heap H1 locs1 → W p l e R s m args below meth c H1 locs1 (cells + mc) (slots + ms) Q (F0 m (pc + 3) ls rest)) : W p l e R s m args below meth c H locs cells slots Q (F0 m pc ls st0) := callL hr hW hS hA kk
theorem callLWi {v : Int32} {D : va_G} {Wp : va_W → Prop} {A : Nat → Prop} {wc : va_W}
    (hr : va_Run p l e R s m args below meth c H locs cells slots mc ms (F0 m pc ls st0) rest (Qm (some (.int v)) D Wp (va_A wc H.size) a) (va_A wc H.size))
    (hW : WD D A wc H) (hS : va_S A s.heap H locs) (hA : ∀ q, s.heap.size ≤ q → A q)
    (kk : ∀ (W' : va_W) (H1 : Heap) (locs1 : List Loc), Wp W' → WD D A W' H1 → va_S A s.heap H1 locs1 → W p l e R s m args below meth c H1 locs1 (cells + mc) (slots + ms) Q (F0 m (pc + 3) ls (.int v :: rest))) : W p l e R s m args below meth c H locs cells slots Q (F0 m pc ls st0) := by
  refine callL (wr := []) hr (by rw [List.append_nil]; exact hW) hS hA (fun W' H1 locs1 hw h1 h2 => kk W' H1 locs1 hw ?_ h2)
  rw [List.append_nil] at h1
  exact h1
end KITLL
