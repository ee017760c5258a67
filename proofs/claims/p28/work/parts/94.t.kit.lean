/-! ===== methods that throw: what holds at their start, what they leave ===== -/
def tb (x y : Option String) : Option String := match x with
  | some e => some e
  | none => y
theorem tb_some {x y : Option String} {E : String} (h : tb x y = some E) : x = some E ∨ y = some E := by
  cases x with
  | none => exact Or.inr h
  | some e => exact Or.inl h
def nr {α : Type} (x : Option (String ⊕ α)) : Option α := match x with
  | some (.inr a) => some a
  | _ => none
theorem nr_some {α : Type} {x : Option (String ⊕ α)} {a : α} (h : nr x = some a) : x = some (.inr a) := by
  match x, h with
  | some (.inr b), h => cases h; rfl
  | some (.inl b), h => cases h
  | none, h => cases h
def eIO : String := "java/lang/IndexOutOfBoundsException"
def eIA : String := "java/lang/IllegalArgumentException"
def eIS : String := "java/lang/IllegalStateException"
def thN : List String := ["java/lang/RuntimeException", "java/lang/Exception"]
def TXl : List (Nat × String) := [(136, "there is no such inner post"), (181, "there is no saved state"), (213, "a post has the properties 0 to 7"), (227, "a ribbon has the properties 0 to 4"), (250, "there are the numbers 0 to 9"), (320, "there is no such post"), (322, "both posts are the same"), (324, "the posts are not in one column"), (326, "there is no such column"), (333, "there is no such ribbon"), (68, "both posts are in one column"), (73, "the width is not 1 to 50"), (81, "there are 20 ribbons"), (95, "the width is not 0 to 50")]
def DCm (C : String) : MethodName := ⟨C, "<init>", "(Ljava/lang/String;)V"⟩
def DCl : List String := ["java/lang/RuntimeException", "java/lang/Exception", "java/lang/Throwable"]
def CAl : List String := [eIO, eIA, eIS]
def NCl : List (String × String) := [(eIA, eIO), (eIS, eIO), (eIS, eIA), (eIA, eIS), (eIO, eIA), (eIO, eIS)]
def DCw : List Cond := DCl.map (fun q => Cond.declares (DCm q)) ++ CAl.map (fun q => Cond.castable q q)
def ZT (U : State) : Prop := vx_Zq Bundle.tN "UNASSIGNED_STACK" Bundle.steD (fun q => U.heap.size ≤ q) U U.heap ∧ vx_Zq Bundle.tN "SUPPRESSED_SENTINEL" Bundle.listD (fun q => U.heap.size ≤ q) U U.heap ∧
  (∀ q ∈ TXl, ∃ sa, vk_R RX6 q.1 q.2 sa U) ∧ (∀ q ∈ DCl, va_Nw (.declares (DCm q)) U) ∧ (∀ q ∈ CAl, va_Nw (.castable q q) U) ∧ ∀ q ∈ NCl, va_Nc q.1 q.2 U
theorem ZT.warm {s U : State} (hh : U.heap = s.heap) (hW : s.WarmedH U.vm) (h : ZT s) : ZT U := by
  obtain ⟨h1, h2, h3, h4, h5, h6⟩ := h
  refine ⟨?_, ?_, fun q hq => ?_, fun q hq => va_Nw.warmD hW (h4 q hq), fun q hq => va_Nw.warmC hW (h5 q hq), fun q hq => va_Nc.moved hW.alike (h6 q hq)⟩
  · rw [hh]; exact vx_Zq.moved hW.alike h1
  · rw [hh]; exact vx_Zq.moved hW.alike h2
  · obtain ⟨sa, h⟩ := h3 q hq
    exact ⟨sa, vk_R.warm hW h⟩
theorem ZT.same {u U : State} (hh : U.heap = u.heap) (hv : u.vm = U.vm) (h : ZT u) : ZT U := by
  obtain ⟨h1, h2, h3, h4, h5, h6⟩ := h
  have ha : u.vm.Alike U.vm := by rw [hv]; exact Vm.Alike.refl U.vm
  refine ⟨?_, ?_, fun q hq => ?_, fun q hq => va_Nw.same rfl hv (h4 q hq), fun q hq => va_Nw.same rfl hv (h5 q hq), fun q hq => va_Nc.moved ha (h6 q hq)⟩
  · rw [hh]; exact vx_Zq.moved ha h1
  · rw [hh]; exact vx_Zq.moved ha h2
  · obtain ⟨sa, h⟩ := h3 q hq
    exact ⟨sa, vk_R.same hv.symm h⟩
def PT (D : va_G) (T : TY) (W : va_W) : State → Prop := fun U => va_P D vwCl W U.heap ∧ va_K D vwCl (tyL T) U ∧ NW U ∧ ZT U
def XT (E : String) : String → State → State → Prop := fun E' st t => E' = E ∧ st.heap.size ≤ t.heap.size ∧ ∀ q : Nat, q < st.heap.size → t.heap[q]? = st.heap[q]?
def QN : Array Value → State → Outcome → State → Prop := fun _ _ _ _ => False
theorem frT {D : va_G} {T : TY} {W : va_W} {av : List Value} : FrameBlind (va_Pc av (PT D T W)) := fun a U g mk q => by
  obtain ⟨q0, qP, qK, qN, qZ⟩ := q
  exact ⟨q0, qP, va_K.moved (u := U) (U := U.calling g mk a) (Vm.Alike.refl U.vm) qK, NW.same (u := U) (U := U.calling g mk a) rfl qN, ZT.same (u := U) (U := U.calling g mk a) rfl rfl qZ⟩
theorem preTV {s : State} {D : va_G} {T : TY} {W : va_W} {b ci : Nat} {fs : List Value} {q : vw_C} {As : List Value} (hP : va_P D vwCl W s.heap) (hK : va_K D vwCl (tyL T) s) (hN : NW s) (hZ : ZT s) (hc : vwCl[ci]? = some q) (q0 : Nat) (he : W[q0]? = some (b, .inr (ci, fs))) : PreV s s.heap q.1 b (va_Pc (.ref b :: As) (PT D T W)) As :=
  ⟨frT, va_recv hK hP hc he, fun U hU hW => ⟨rfl, by rw [hU]; exact hP, va_K.moved hW.alike hK, NW.warm hW hN, ZT.warm hU hW hZ⟩⟩
theorem preTS {s : State} {D : va_G} {T : TY} {W : va_W} {As : List Value} (hP : va_P D vwCl W s.heap) (hK : va_K D vwCl (tyL T) s) (hN : NW s) (hZ : ZT s) : PreS s s.heap (va_Pc As (PT D T W)) As :=
  ⟨frT, fun U hU hW => ⟨rfl, by rw [hU]; exact hP, va_K.moved hW.alike hK, NW.warm hW hN, ZT.warm hU hW hZ⟩⟩
theorem metT_of {l : Launch} {y : MethodName} {ws ws' : List Cond} {rm : Room} {cc : ByteArray} {maxL : Nat} {ret : Option FieldType} {av : List Value} {E : String} {D : va_G} {T : TY} {W0 : va_W}
    (hy : plainName y.cls = true) (hw : ws = Cond.code y cc maxL ret :: ws') (hn : (lg_sl av).length ≤ maxL)
    (body : ∀ (p : Program) (e : Env) (s : State) (m : MethodId) (args : Array Value) (below : List Frame) (meth : Method) (c : Code), CX p s m args meth c cc maxL y.cls ws ret D T → (∀ x ∈ c.exceptionTable.toList, False) → va_P D vwCl W0 s.heap → ZT s → ∀ ls : Array Slot, lv_has ls maxL (lv_args 0 av) →
      W p l e rm s m args below meth c s.heap [] 0 0 (vx_MQ below QN (XT E) args s 1 6 (fun _ => False)) (F0 m 0 ls [])) : vx_Met l y ws rm (va_Pc av (PT D T W0)) QN (XT E) 1 6 (fun _ => False) := by
  refine vx_ofW (cc := cc) (maxL := maxL) (ret := ret) hy hw ?_
  intro p e s m args below meth c s₁ B hml ht hv
  obtain ⟨rfl, hP, hK, hN, hZ⟩ := hv
  have hl := lv_entry av (n := maxL) hn
  rw [lg_entry_eq]
  exact body p e s m _ below meth c ⟨B.exec, B.bytes, hml, findClass_of_methodNamed B.named, atoms_spec (ws := ws) B.pre, B.returns, B.notSynchronized, hK, hN⟩ ht hP hZ _ hl
section KITT
variable {p : Program} {l : Launch} {e : Env} {R : Room} {s : State} {m : MethodId} {args : Array Value} {below : List Frame} {meth : Method} {c : Code} {H : Heap} {locs : List Loc} {cells slots : Nat} {Q : State → Prop}
variable {pc : Nat} {ls : Array Slot} {rest st0 : List Value} {a : Array Value} {mc ms : Nat}
/-- behind the call of a method that throws -/
theorem callT {E : String} (hr : vx_Run p l e R s m args below meth c H locs cells slots mc ms (F0 m pc ls st0) rest (QN a) (XT E) (fun _ => False))
    (kx : ∀ (ce : Cell) (q9 : Addr) (H1 : Heap), H.size ≤ H1.size → (∀ q : Nat, q < H.size → H1[q]? = H[q]?) → H1[q9]? = some ce → ce.vm = .none → s.vm.findClass E = some ce.cls → vx_W p l e R s m args below meth c H1 locs (cells + mc) (slots + ms) Q (F0 m pc ls rest) q9) : W p l e R s m args below meth c H locs cells slots Q (F0 m pc ls st0) := by
  intro T hT X
  rcases hr T hT X with ⟨v, st₀, t, T', L, h0, X', hL, e1, e2, hq, st⟩ | ⟨q, st₀, t, T', L, E', ce, h0, X', hL, e1, e2, ⟨rfl, hz, hk⟩, hce, hcv, hcl, st⟩
  · exact hq.elim
  · have hLn : L = [] := by
      cases L with
      | nil => rfl
      | cons z L => exact (hL z List.mem_cons_self).elim
    subst hLn
    rw [List.append_nil] at X'
    rw [h0] at hz hk
    obtain ⟨t2, a1, b1⟩ := kx ce q T'.heap (by rw [e1]; exact hz) (fun q hq => by rw [e1]; exact hk q hq) (by rw [e1]; exact hce) hcv hcl T' rfl X'
    exact ⟨t2, st.trans a1, b1⟩
/-- it goes on to the caller -/
theorem outT {E : String} {ce : Cell} {q9 : Addr} {H1 : Heap} (ht : ∀ x ∈ c.exceptionTable.toList, False) (hlocks : meth.locks = false) (h1 : s.heap.size ≤ H1.size) (h2 : ∀ q : Nat, q < s.heap.size → H1[q]? = s.heap[q]?) (h3 : H1[q9]? = some ce) (h4 : ce.vm = .none) (h5 : s.vm.findClass E = some ce.cls) (hc : cells ≤ 1) (hs : slots ≤ 6) :
    vx_W p l e R s m args below meth c H1 [] cells slots (vx_MQ below QN (XT E) args s 1 6 (fun _ => False)) (F0 m pc ls rest) q9 :=
  vx_out (fun x hx => (ht x hx).elim) hlocks h3 h4 h5 (fun t h _ => ⟨rfl, by rw [h]; exact h1, fun q hq => by rw [h]; exact h2 q hq⟩) (fun z hz => absurd hz List.not_mem_nil) hc hs
end KITT
theorem thN_fit : ∀ n ∈ thN, Bundle.fit n = true := by decide +kernel
theorem eIO_fit : Bundle.fit eIO = true := by decide +kernel
theorem eIA_fit : Bundle.fit eIA = true := by decide +kernel
theorem eIS_fit : Bundle.fit eIS = true := by decide +kernel
theorem DCw_b {args : Array Value} {s : State} (h : ZT s) : ∀ w ∈ DCw, w.before args s = true := by
  obtain ⟨-, -, -, h4, h5, -⟩ := h
  intro w hw
  rcases List.mem_append.mp hw with hw | hw
  · obtain ⟨q, hq, rfl⟩ := List.mem_map.mp hw
    exact va_Nw.use rfl (h4 q hq)
  · obtain ⟨q, hq, rfl⟩ := List.mem_map.mp hw
    exact va_Nw.use rfl (h5 q hq)
theorem hat70 {args : Array Value} {s : State} (h1 : ∀ w ∈ (vx_atS RX6 70 "java/lang/IllegalArgumentException" ["java/lang/RuntimeException", "java/lang/Exception"]).filter goodWord, w.before args s = true) (h : ZT s) : ∀ w ∈ vx_atS RX6 70 eIA thN, w.before args s = true := vx_hat h1 (B := DCw) (by decide +kernel) (DCw_b h)
theorem hat83 {args : Array Value} {s : State} (h1 : ∀ w ∈ (vx_atS RX6 83 "java/lang/IllegalStateException" ["java/lang/RuntimeException", "java/lang/Exception"]).filter goodWord, w.before args s = true) (h : ZT s) : ∀ w ∈ vx_atS RX6 83 eIS thN, w.before args s = true := vx_hat h1 (B := DCw) (by decide +kernel) (DCw_b h)
theorem hat138 {args : Array Value} {s : State} (h1 : ∀ w ∈ (vx_atS RX6 138 "java/lang/IndexOutOfBoundsException" ["java/lang/RuntimeException", "java/lang/Exception"]).filter goodWord, w.before args s = true) (h : ZT s) : ∀ w ∈ vx_atS RX6 138 eIO thN, w.before args s = true := vx_hat h1 (B := DCw) (by decide +kernel) (DCw_b h)
theorem good70 : ∀ w ∈ Cond.classLink RX6 66 eIA :: Cond.initialized eIA :: vx_atS RX6 70 eIA thN, vx_ot w = true := by decide +kernel
theorem good83 : ∀ w ∈ Cond.classLink RX6 79 eIS :: Cond.initialized eIS :: vx_atS RX6 83 eIS thN, vx_ot w = true := by decide +kernel
theorem good138 : ∀ w ∈ Cond.classLink RX6 134 eIO :: Cond.initialized eIO :: vx_atS RX6 138 eIO thN, vx_ot w = true := by decide +kernel
theorem vaS0 {A : Nat → Prop} {H : Heap} : va_S A H H [] := ⟨Nat.le_refl _, fun _ _ _ => rfl, fun q hq => absurd hq List.not_mem_nil⟩
