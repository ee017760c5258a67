/-! ===== rows of this proof: pure methods (no cell changes), methods that write, and what all contracts share ===== -/
/-- the links between nest mates that the tables give -/
def NWf : List (String × Nat × String × String × String × String) := [(RX6, 178, RX3, "held", "I", RX6), (RX6, 247, RX1, "trimmed", "I", RX6), (RX6, 75, RX1, "ribbons", "I", RX6),
  (RX0, 33, RX1, "ribbons", "I", RX6), (RX2, 49, RX1, "ribbons", "I", RX6), (RX5, 52, RX1, "ribbons", "I", RX6)]
def NWm : List (String × Nat × MethodName × String) := [(RX6, 25, yX3_init, RX6), (RX6, 32, yX4_init, RX6), (RX6, 39, yX0_init, RX6), (RX6, 46, yX2_init, RX6), (RX6, 53, yX5_init, RX6),
  (RX1, 41, yX6_isPost, RX6), (RX1, 55, yX6_columnOf, RX6), (RX2, 96, yX6_columnOf, RX6), (RX5, 62, yX6_isPost, RX6)]
def NW (U : State) : Prop := (∀ q ∈ NWm, va_Nw (.methodLinkNest q.1 q.2.1 q.2.2.1 q.2.2.2) U) ∧ (∀ q ∈ NWf, va_Nw (.fieldLinkNest q.1 q.2.1 q.2.2.1 q.2.2.2.1 q.2.2.2.2.1 q.2.2.2.2.2) U) ∧ va_AO RX1 U
theorem NW.warm {s U : State} (hW : s.WarmedH U.vm) (h : NW s) : NW U := ⟨fun q hq => va_Nw.warmM hW (h.1 q hq), fun q hq => va_Nw.warmF hW (h.2.1 q hq), h.2.2.moved hW.alike⟩
theorem NW.same {u U : State} (hv : u.vm = U.vm) (h : NW u) : NW U := ⟨fun q hq => va_Nw.same rfl hv (h.1 q hq), fun q hq => va_Nw.same rfl hv (h.2.1 q hq), h.2.2.moved (by rw [hv]; exact Vm.Alike.refl U.vm)⟩
theorem NW.m {s : State} (h : NW s) (i : Nat) {a : String} {k : Nat} {y : MethodName} {b : String} (e : NWm[i]? = some (a, k, y, b)) : va_Nw (.methodLinkNest a k y b) s := h.1 _ (List.mem_of_getElem? e)
theorem NW.f {s : State} (h : NW s) (i : Nat) {a : String} {k : Nat} {b n d o : String} (e : NWf[i]? = some (a, k, b, n, d, o)) : va_Nw (.fieldLinkNest a k b n d o) s := h.2.1 _ (List.mem_of_getElem? e)
/-- the array classes: int (twice), Drawing -/
abbrev TY : Type := ClassId × ClassId × ClassId × ClassId
abbrev tyL (T : TY) : List (ClassId × FieldType) := [(T.1, .int), (T.1, .int), (T.2.2.1, .object RX1)]
def PB (D : va_G) (T : TY) (W : va_W) : State → Prop := fun U => va_P D vwCl W U.heap ∧ va_K D vwCl (tyL T) U ∧ NW U
def PM (D : va_G) (T : TY) (W : va_W) (sz : Nat) : State → Prop := fun U => U.heap.size = sz ∧ va_P D vwCl W U.heap ∧ va_K D vwCl (tyL T) U ∧ NW U ∧ va_D (fun _ => True) W
def Qp (v : Option Value) : Array Value → State → Outcome → State → Prop := fun _ st oc t => oc = .returned v ∧ t.heap = st.heap
def Qm (v : Option Value) (D : va_G) (Wp : va_W → Prop) (A : Nat → Prop) : Array Value → State → Outcome → State → Prop := fun _ st oc t => oc = .returned v ∧ (∃ W' : va_W, Wp W' ∧ va_P D vwCl W' t.heap ∧ va_D A W') ∧ va_F A st t
/-- what a method's walk has at hand -/
def CX (p : Program) (s : State) (m : MethodId) (args : Array Value) (meth : Method) (c : Code) (cc : ByteArray) (n : Nat) (own : String) (ws : List Cond) (ret : Option FieldType) (D : va_G) (T : TY) : Prop :=
  p.tables.exec = Jvm.exec ∧ c.code = cc ∧ c.maxLocals = n ∧ s.vm.findClass own = some m.cls ∧ (∀ w ∈ ws, w.before args s = true) ∧ meth.sig.returnType = ret ∧ meth.locks = false ∧ va_K D vwCl (tyL T) s ∧ NW s
theorem frB {D : va_G} {T : TY} {W : va_W} {av : List Value} : FrameBlind (va_Pc av (PB D T W)) := fun a U g mk q => by
  obtain ⟨q0, qP, qK, qN⟩ := q
  exact ⟨q0, qP, va_K.moved (u := U) (U := U.calling g mk a) (Vm.Alike.refl U.vm) qK, NW.same (u := U) (U := U.calling g mk a) rfl qN⟩
theorem frM {D : va_G} {T : TY} {W : va_W} {sz : Nat} {av : List Value} : FrameBlind (va_Pc av (PM D T W sz)) := fun a U g mk q => by
  obtain ⟨q0, q1, qP, qK, qN, qD⟩ := q
  exact ⟨q0, q1, qP, va_K.moved (u := U) (U := U.calling g mk a) (Vm.Alike.refl U.vm) qK, NW.same (u := U) (U := U.calling g mk a) rfl qN, qD⟩
theorem preBV {s : State} {H : Heap} {D : va_G} {T : TY} {W : va_W} {b ci : Nat} {fs : List Value} {q : vw_C} {As : List Value} (hP : va_P D vwCl W H) (hK : va_K D vwCl (tyL T) s) (hN : NW s) (hc : vwCl[ci]? = some q) (q0 : Nat) (he : W[q0]? = some (b, .inr (ci, fs))) : PreV s H q.1 b (va_Pc (.ref b :: As) (PB D T W)) As :=
  ⟨frB, va_recv hK hP hc he, fun U hU hW => ⟨rfl, by rw [hU]; exact hP, va_K.moved hW.alike hK, NW.warm hW hN⟩⟩
theorem preBS {s : State} {H : Heap} {D : va_G} {T : TY} {W : va_W} {As : List Value} (hP : va_P D vwCl W H) (hK : va_K D vwCl (tyL T) s) (hN : NW s) : PreS s H (va_Pc As (PB D T W)) As :=
  ⟨frB, fun U hU hW => ⟨rfl, by rw [hU]; exact hP, va_K.moved hW.alike hK, NW.warm hW hN⟩⟩
theorem preMV {s : State} {H : Heap} {D : va_G} {T : TY} {A : Nat → Prop} {W : va_W} {b ci : Nat} {fs : List Value} {q : vw_C} {As : List Value} (hP : va_P D vwCl W H) (hD : va_D A W) (hK : va_K D vwCl (tyL T) s) (hN : NW s) (hc : vwCl[ci]? = some q) (q0 : Nat) (he : W[q0]? = some (b, .inr (ci, fs))) : PreV s H q.1 b (va_Pc (.ref b :: As) (PM D T W H.size)) As :=
  ⟨frM, va_recv hK hP hc he, fun U hU hW => ⟨rfl, by rw [hU], by rw [hU]; exact hP, va_K.moved hW.alike hK, NW.warm hW hN, hD.weaken (fun _ _ _ _ => trivial)⟩⟩
theorem preMS {s : State} {H : Heap} {D : va_G} {T : TY} {A : Nat → Prop} {W : va_W} {As : List Value} (hP : va_P D vwCl W H) (hD : va_D A W) (hK : va_K D vwCl (tyL T) s) (hN : NW s) : PreS s H (va_Pc As (PM D T W H.size)) As :=
  ⟨frM, fun U hU hW => ⟨rfl, by rw [hU], by rw [hU]; exact hP, va_K.moved hW.alike hK, NW.warm hW hN, hD.weaken (fun _ _ _ _ => trivial)⟩⟩
theorem va_P0 {D : va_G} {H : Heap} : va_P D vwCl [] H := fun k q h => by simp at h
theorem va_D0 {A : Nat → Prop} : va_D A [] := ⟨fun i j p q h => by simp at h, fun k q h => by simp at h⟩
section KITR
variable {p : Program} {l : Launch} {e : Env} {R : Room} {s : State} {m : MethodId} {args : Array Value} {below : List Frame} {meth : Method} {c : Code} {H : Heap} {locs : List Loc} {cells slots : Nat} {Q : State → Prop}
variable {pc : Nat} {ls : Array Slot} {rest st0 : List Value} {a : Array Value} {mc ms : Nat}
/-- behind the call of a pure method: nothing has changed -/
theorem callPo {v : Option Value} (hr : va_Run p l e R s m args below meth c H locs cells slots 0 0 (F0 m pc ls st0) rest (Qp v a) (fun _ => False))
    (kk : W p l e R s m args below meth c H locs cells slots Q (F0 m (pc + 3) ls (v.toList ++ rest))) : W p l e R s m args below meth c H locs cells slots Q (F0 m pc ls st0) := by
  intro T hT X
  obtain ⟨v', st₀, t, T', L, h0, X', hL, e1, e2, ⟨hv, hz⟩, st⟩ := hr T hT X
  cases hv
  have hLn : L = [] := by
    cases L with
    | nil => rfl
    | cons z L => exact (hL z List.mem_cons_self).elim
  subst hLn
  rw [List.append_nil] at X'
  obtain ⟨t2, a1, b1⟩ := kk T' (by rw [e1, hz, h0]) X'
  exact ⟨t2, st t2 a1, b1⟩
theorem callPi {v : Int32} (hr : va_Run p l e R s m args below meth c H locs cells slots 0 0 (F0 m pc ls st0) rest (Qp (some (.int v)) a) (fun _ => False))
    (kk : W p l e R s m args below meth c H locs cells slots Q (F0 m (pc + 3) ls (.int v :: rest))) : W p l e R s m args below meth c H locs cells slots Q (F0 m pc ls st0) := callPo hr kk
theorem callPl {v : Int64} (hr : va_Run p l e R s m args below meth c H locs cells slots 0 0 (F0 m pc ls st0) rest (Qp (some (.long v)) a) (fun _ => False))
    (kk : W p l e R s m args below meth c H locs cells slots Q (F0 m (pc + 3) ls (.long v :: rest))) : W p l e R s m args below meth c H locs cells slots Q (F0 m pc ls st0) := callPo hr kk
theorem callPd {v : UInt64} (hr : va_Run p l e R s m args below meth c H locs cells slots 0 0 (F0 m pc ls st0) rest (Qp (some (.double v)) a) (fun _ => False))
    (kk : W p l e R s m args below meth c H locs cells slots Q (F0 m (pc + 3) ls (.double v :: rest))) : W p l e R s m args below meth c H locs cells slots Q (F0 m pc ls st0) := callPo hr kk
theorem callPv (hr : va_Run p l e R s m args below meth c H locs cells slots 0 0 (F0 m pc ls st0) rest (Qp none a) (fun _ => False))
    (kk : W p l e R s m args below meth c H locs cells slots Q (F0 m (pc + 3) ls rest)) : W p l e R s m args below meth c H locs cells slots Q (F0 m pc ls st0) := callPo hr kk
/-- behind the call of a method that writes (and may make cells): its world at its new form beside the rest -/
theorem callAo {v : Option Value} {D : va_G} {Wp : va_W → Prop} {A : Nat → Prop} {ws wc wr : va_W}
    (hr : va_Run p l e R s m args below meth c H locs cells slots mc ms (F0 m pc ls st0) rest (Qm v D Wp (va_A wc H.size) a) (va_A wc H.size))
    (hP : va_P D vwCl ws H) (hD : va_D A ws) (hS : va_S A s.heap H locs) (hA : ∀ q, s.heap.size ≤ q → A q) (isC isR : List Nat)
    (hC : isC.map (fun i => ws[i]?) = wc.map some) (hR : isR.map (fun i => ws[i]?) = wr.map some) (hn : va_nd isR = true) (hdis : (isR.all fun i => !isC.contains i) = true)
    (kk : ∀ (W' : va_W) (H1 : Heap) (locs1 : List Loc), Wp W' → va_P D vwCl (wr ++ W') H1 → va_D A (wr ++ W') → va_S A s.heap H1 locs1 → W p l e R s m args below meth c H1 locs1 (cells + mc) (slots + ms) Q (F0 m (pc + 3) ls (v.toList ++ rest))) : W p l e R s m args below meth c H locs cells slots Q (F0 m pc ls st0) := by
  have hFc := va_free (wc := wc) hD hS hA isC hC
  intro T hT X
  obtain ⟨v', st₀, t, T', L, h0, X', hL, e1, e2, ⟨hv, ⟨W', hw, hP1, hD1⟩, hz, hk⟩, st⟩ := hr T hT X
  cases hv
  rw [h0] at hz hk
  rw [← e1] at hP1 hz hk
  obtain ⟨j1, j2⟩ := va_join (wr := wr) (w1 := W') hP hD isC isR hC hR hn (fun i hi => by
    have h1 := List.all_eq_true.mp hdis i hi
    simpa using h1) hk hFc hP1 hD1
  obtain ⟨t2, a1, b1⟩ := kk W' T'.heap (locs ++ L) hw j1 j2
    ⟨Nat.le_trans hS.1 hz, fun q h1 h2 => by rw [hk q (Nat.lt_of_lt_of_le h1 hS.1) (fun z => h2 (hFc q z))]; exact hS.2.1 q h1 h2, fun q hq => by
      rcases List.mem_append.mp hq with h | h
      · exact hS.2.2 q h
      · exact hFc _ (hL q h)⟩ T' rfl X'
  exact ⟨t2, st t2 a1, b1⟩
theorem callMo {v : Option Value} {D : va_G} {A : Nat → Prop} {ws wc wr w1 : va_W} (ws' : va_W)
    (hr : va_Run p l e R s m args below meth c H locs cells slots mc ms (F0 m pc ls st0) rest (Qm v D (fun x => x = w1) (va_A wc H.size) a) (va_A wc H.size))
    (hP : va_P D vwCl ws H) (hD : va_D A ws) (hS : va_S A s.heap H locs) (hA : ∀ q, s.heap.size ≤ q → A q) (isC isR isB : List Nat)
    (hC : isC.map (fun i => ws[i]?) = wc.map some) (hR : isR.map (fun i => ws[i]?) = wr.map some) (hn : va_nd isR = true) (hdis : (isR.all fun i => !isC.contains i) = true)
    (hB : isB.map (fun i => (wr ++ w1)[i]?) = ws'.map some) (hnB : va_nd isB = true)
    (kk : ∀ (H1 : Heap) (locs1 : List Loc), va_P D vwCl ws' H1 → va_D A ws' → va_S A s.heap H1 locs1 → W p l e R s m args below meth c H1 locs1 (cells + mc) (slots + ms) Q (F0 m (pc + 3) ls (v.toList ++ rest))) : W p l e R s m args below meth c H locs cells slots Q (F0 m pc ls st0) := by
  refine callAo hr hP hD hS hA isC isR hC hR hn hdis (fun W' H1 locs1 hw hP1 hD1 hS1 => ?_)
  subst hw
  refine kk H1 locs1 (hP1.sub isB ?_) (hD1.sub isB hnB hB) hS1
  have h2 := congrArg (fun z => z.filterMap id) hB
  simpa [List.filterMap_map, Function.comp_def] using h2
theorem lv_nmi {x y : Int32} (h : y = x) (k : W p l e R s m args below meth c H locs cells slots Q (F0 m pc ls (.int y :: rest))) : W p l e R s m args below meth c H locs cells slots Q (F0 m pc ls (.int x :: rest)) := by rw [← h]; exact k
theorem lv_nml {x y : Int64} (h : y = x) (k : W p l e R s m args below meth c H locs cells slots Q (F0 m pc ls (.long y :: rest))) : W p l e R s m args below meth c H locs cells slots Q (F0 m pc ls (.long x :: rest)) := by rw [← h]; exact k
theorem lv_nmd {x y : UInt64} (h : y = x) (k : W p l e R s m args below meth c H locs cells slots Q (F0 m pc ls (.double y :: rest))) : W p l e R s m args below meth c H locs cells slots Q (F0 m pc ls (.double x :: rest)) := by rw [← h]; exact k
end KITR
theorem metP_of {l : Launch} {y : MethodName} {ws ws' : List Cond} {rm : Room} {cc : ByteArray} {maxL : Nat} {ret : Option FieldType} {av : List Value} {v : Option Value} {D : va_G} {T : TY} {W0 : va_W}
    (hy : plainName y.cls = true) (hw : ws = Cond.code y cc maxL ret :: ws') (hn : (lg_sl av).length ≤ maxL)
    (body : ∀ (p : Program) (e : Env) (s : State) (m : MethodId) (args : Array Value) (below : List Frame) (meth : Method) (c : Code), CX p s m args meth c cc maxL y.cls ws ret D T → va_P D vwCl W0 s.heap → ∀ ls : Array Slot, lv_has ls maxL (lv_args 0 av) →
      W p l e rm s m args below meth c s.heap [] 0 0 (MQ below (Qp v) args s 0 0 (fun _ => False)) (F0 m 0 ls [])) : Met l y ws rm (va_Pc av (PB D T W0)) (Qp v) 0 0 (fun _ => False) := by
  refine Met.ofW (cc := cc) (maxL := maxL) (ret := ret) hy hw ?_
  intro p e s m args below meth c s₁ B hml hv
  obtain ⟨rfl, hP, hK, hN⟩ := hv
  have hl := lv_entry av (n := maxL) hn
  rw [lg_entry_eq]
  exact body p e s m _ below meth c ⟨B.exec, B.bytes, hml, findClass_of_methodNamed B.named, atoms_spec (ws := ws) B.pre, B.returns, B.notSynchronized, hK, hN⟩ hP _ hl
theorem metM_of {l : Launch} {y : MethodName} {ws ws' : List Cond} {rm : Room} {cc : ByteArray} {maxL mc ms : Nat} {ret : Option FieldType} {av : List Value} {v : Option Value} {D : va_G} {T : TY} {W0 : va_W} {Wp : va_W → Prop} {sz : Nat}
    (hy : plainName y.cls = true) (hw : ws = Cond.code y cc maxL ret :: ws') (hn : (lg_sl av).length ≤ maxL)
    (body : ∀ (p : Program) (e : Env) (s : State) (m : MethodId) (args : Array Value) (below : List Frame) (meth : Method) (c : Code), CX p s m args meth c cc maxL y.cls ws ret D T → meth.name = y.name → ∀ A : Nat → Prop, (∀ q, s.heap.size ≤ q → A q) → va_P D vwCl W0 s.heap → va_D A W0 → ∀ ls : Array Slot, lv_has ls maxL (lv_args 0 av) →
      W p l e rm s m args below meth c s.heap [] 0 0 (MQ below (Qm v D Wp A) args s mc ms A) (F0 m 0 ls [])) : Met l y ws rm (va_Pc av (PM D T W0 sz)) (Qm v D Wp (va_A W0 sz)) mc ms (va_A W0 sz) := by
  refine Met.ofW (cc := cc) (maxL := maxL) (ret := ret) hy hw ?_
  intro p e s m args below meth c s₁ B hml hv
  obtain ⟨rfl, hsz, hP, hK, hN, hD⟩ := hv
  subst hsz
  have hl := lv_entry av (n := maxL) hn
  rw [lg_entry_eq]
  exact body p e s m _ below meth c ⟨B.exec, B.bytes, hml, findClass_of_methodNamed B.named, atoms_spec (ws := ws) B.pre, B.returns, B.notSynchronized, hK, hN⟩ (name_of_methodNamed B.named B.method).1 _ (fun q h => Or.inr h) hP (hD.self) _ hl
/-! ===== the words in which methods are told ===== -/
def FU : Nat := 6000
def gd (i : Int32) (n : Nat) : Bool := decide (0 ≤ i.toInt) && decide (i.toInt < (n : Int))
theorem gd_in {i : Int32} {n : Nat} (h : gd i n = true) : vp_in i n := by
  unfold gd at h
  rw [Bool.and_eq_true] at h
  exact vp_in_iff.mpr ⟨of_decide_eq_true h.1, of_decide_eq_true h.2⟩
def zb (i : Int32) : Bool := decide (i = 0) || decide (i = 1)
theorem zb_nar {i : Int32} (h : zb i = true) : narrow .boolean (.int i) = .int i := by
  unfold zb at h
  rw [Bool.or_eq_true] at h
  rcases h with h | h
  · rw [of_decide_eq_true h]; decide
  · rw [of_decide_eq_true h]; decide
def nm {α β : Type} (a : α) (f : α → β) : β := f a
theorem gd_some {α : Type} {b : Bool} {x : Option α} {r : α} (h : (if b = true then x else none) = some r) : b = true ∧ x = some r := by
  cases b with
  | false => cases h
  | true => exact ⟨rfl, h⟩
theorem it_pos {α : Type} {P : Prop} {d : Decidable P} {x y : α} {r : α} (hp : P) (h : (@ite α P d x y) = r) : x = r := by rw [if_pos hp] at h; exact h
theorem it_neg {α : Type} {P : Prop} {d : Decidable P} {x y : α} {r : α} (hp : ¬ P) (h : (@ite α P d x y) = r) : y = r := by rw [if_neg hp] at h; exact h
theorem bd_some {α β : Type} {x : Option α} {f : α → Option β} {r : β} (h : x.bind f = some r) : ∃ q, x = some q ∧ f q = some r := by
  cases x with
  | none => cases h
  | some q => exact ⟨q, rfl, h⟩
theorem nm_some {α β : Type} {a : α} {f : α → β} {r : β} (h : nm a f = r) : ∃ v, v = a ∧ f v = r := ⟨a, rfl, h⟩
theorem inr_some {α β : Type} {a b : β} (h : some (Sum.inr (α := α) a) = some (.inr b)) : a = b := by cases h; rfl
/-- on: after a method that may throw -/
def xb {α β : Type} (x : Option (String ⊕ α)) (f : α → Option (String ⊕ β)) : Option (String ⊕ β) := x.bind fun q => match q with
  | .inl e => some (.inl e)
  | .inr a => f a
theorem xb_some {α β : Type} {x : Option (String ⊕ α)} {f : α → Option (String ⊕ β)} {r : β} (h : xb x f = some (.inr r)) : ∃ a, x = some (.inr a) ∧ f a = some (.inr r) := by
  rcases x with _ | (e | a)
  · cases h
  · cases h
  · exact ⟨a, rfl, h⟩
theorem xb_thr {α β : Type} {x : Option (String ⊕ α)} {f : α → Option (String ⊕ β)} {e : String} (h : xb x f = some (.inl e)) : x = some (.inl e) ∨ ∃ a, x = some (.inr a) ∧ f a = some (.inl e) := by
  rcases x with _ | (e' | a)
  · cases h
  · left; cases h; rfl
  · exact Or.inr ⟨a, rfl, h⟩
abbrev iabs (x : Int32) : Int32 := if 0 ≤ x then x else 0 - x
def nn (x : UInt64) : Bool := decide (x &&& 0x7fffffffffffffff ≤ 0x7ff0000000000000)
theorem nn_ok {x : UInt64} (h : nn x = true) : vf_n64 x := by
  have h1 : x &&& 0x7fffffffffffffff ≤ 0x7ff0000000000000 := of_decide_eq_true h
  exact h1
theorem tb_out (x : Int32) (lo hi : Int) (h1 : -2147483648 ≤ lo) (h2 : hi < 2147483648) (h : ∀ k : Nat, (k : Int) ≤ hi - lo → ¬ x = Int32.ofInt (lo + k)) : x.toInt < lo ∨ hi < x.toInt := by
  by_cases ha : x.toInt < lo
  · exact Or.inl ha
  · by_cases hb : hi < x.toInt
    · exact Or.inr hb
    · exfalso
      refine h (x.toInt - lo).toNat (by omega) ?_
      have e : lo + ((x.toInt - lo).toNat : Int) = x.toInt := by omega
      rw [e, Int32.ofInt_toInt]
theorem va_RA_one {U : State} {cA cB : ClassId} {ty : FieldType} (h1 : va_RA U cA ty) (h2 : va_RA U cB ty) : cA = cB := by
  cases ty with
  | object C =>
    obtain ⟨_, _, _, _, _, a⟩ := h1
    obtain ⟨_, _, _, _, _, b⟩ := h2
    exact Option.some.inj (a.symm.trans b)
  | _ => exact Option.some.inj ((show _ = some cA from h1).symm.trans (show _ = some cB from h2))
theorem tyOne {D : va_G} {cl : List vw_C} {tys : List (ClassId × FieldType)} {cA cB : ClassId} {ty : FieldType} {s : State} (h : va_K D cl (tys ++ [(cA, ty)]) s) (i : Nat) (e : tys[i]? = some (cB, ty)) : cA = cB := by
  have hi : i < tys.length := (List.getElem?_eq_some_iff.mp e).1
  have h1 := h.2 i (cB, ty) (by rw [List.getElem?_append_left hi]; exact e)
  have h2 := h.2 tys.length (cA, ty) (by simp)
  exact va_RA_one h2.2 h1.2
theorem fs_okX0 : ∀ j, j < 4 → defaultValue (tyX0 j) = vp_V [.null, .null, .int (0 : Int32), .null] j := fun j hj => by
  match j, hj with
  | 0, _ => rfl
  | 1, _ => rfl
  | 2, _ => rfl
  | 3, _ => rfl
  | k + 4, hj => exact absurd hj (by omega)
theorem fs_okX1 : ∀ j, j < 6 → defaultValue (tyX1 j) = vp_V [.null, .null, .null, .null, .int (0 : Int32), .int (0 : Int32)] j := fun j hj => by
  match j, hj with
  | 0, _ => rfl
  | 1, _ => rfl
  | 2, _ => rfl
  | 3, _ => rfl
  | 4, _ => rfl
  | 5, _ => rfl
  | k + 6, hj => exact absurd hj (by omega)
theorem fs_okX2 : ∀ j, j < 5 → defaultValue (tyX2 j) = vp_V [.null, .null, .null, .null, .null] j := fun j hj => by
  match j, hj with
  | 0, _ => rfl
  | 1, _ => rfl
  | 2, _ => rfl
  | 3, _ => rfl
  | 4, _ => rfl
  | k + 5, hj => exact absurd hj (by omega)
theorem fs_okX3 : ∀ j, j < 3 → defaultValue (tyX3 j) = vp_V [.null, .int (0 : Int32), .int (0 : Int32)] j := fun j hj => by
  match j, hj with
  | 0, _ => rfl
  | 1, _ => rfl
  | 2, _ => rfl
  | k + 3, hj => exact absurd hj (by omega)
theorem fs_okX4 : ∀ j, j < 2 → defaultValue (tyX4 j) = vp_V [.null, .int (0 : Int32)] j := fun j hj => by
  match j, hj with
  | 0, _ => rfl
  | 1, _ => rfl
  | k + 2, hj => exact absurd hj (by omega)
theorem fs_okX5 : ∀ j, j < 8 → defaultValue (tyX5 j) = vp_V [.null, .null, .null, .null, .null, .null, .int (0 : Int32), .null] j := fun j hj => by
  match j, hj with
  | 0, _ => rfl
  | 1, _ => rfl
  | 2, _ => rfl
  | 3, _ => rfl
  | 4, _ => rfl
  | 5, _ => rfl
  | 6, _ => rfl
  | 7, _ => rfl
  | k + 8, hj => exact absurd hj (by omega)
theorem fs_okX6 : ∀ j, j < 8 → defaultValue (tyX6 j) = vp_V [.null, .null, .null, .null, .null, .null, .null, .null] j := fun j hj => by
  match j, hj with
  | 0, _ => rfl
  | 1, _ => rfl
  | 2, _ => rfl
  | 3, _ => rfl
  | 4, _ => rfl
  | 5, _ => rfl
  | 6, _ => rfl
  | 7, _ => rfl
  | k + 8, hj => exact absurd hj (by omega)
section KITC
variable {p : Program} {l : Launch} {e : Env} {R : Room} {s : State} {m : MethodId} {args : Array Value} {below : List Frame} {meth : Method} {c : Code} {H : Heap} {locs : List Loc} {cells slots : Nat} {Q : State → Prop}
variable {pc : Nat} {ls : Array Slot} {rest st0 : List Value} {a : Array Value} {mc ms : Nat}
theorem callMi {v : Int32} {D : va_G} {A : Nat → Prop} {ws wc wr w1 : va_W} (ws' : va_W)
    (hr : va_Run p l e R s m args below meth c H locs cells slots mc ms (F0 m pc ls st0) rest (Qm (some (.int v)) D (fun x => x = w1) (va_A wc H.size) a) (va_A wc H.size))
    (hP : va_P D vwCl ws H) (hD : va_D A ws) (hS : va_S A s.heap H locs) (hA : ∀ q, s.heap.size ≤ q → A q) (isC isR isB : List Nat)
    (hC : isC.map (fun i => ws[i]?) = wc.map some) (hR : isR.map (fun i => ws[i]?) = wr.map some) (hn : va_nd isR = true) (hdis : (isR.all fun i => !isC.contains i) = true)
    (hB : isB.map (fun i => (wr ++ w1)[i]?) = ws'.map some) (hnB : va_nd isB = true)
    (kk : ∀ (H1 : Heap) (locs1 : List Loc), va_P D vwCl ws' H1 → va_D A ws' → va_S A s.heap H1 locs1 → W p l e R s m args below meth c H1 locs1 (cells + mc) (slots + ms) Q (F0 m (pc + 3) ls (.int v :: rest))) : W p l e R s m args below meth c H locs cells slots Q (F0 m pc ls st0) :=
  callMo ws' hr hP hD hS hA isC isR isB hC hR hn hdis hB hnB kk
theorem callAi {v : Int32} {D : va_G} {Wp : va_W → Prop} {A : Nat → Prop} {ws wc wr : va_W}
    (hr : va_Run p l e R s m args below meth c H locs cells slots mc ms (F0 m pc ls st0) rest (Qm (some (.int v)) D Wp (va_A wc H.size) a) (va_A wc H.size))
    (hP : va_P D vwCl ws H) (hD : va_D A ws) (hS : va_S A s.heap H locs) (hA : ∀ q, s.heap.size ≤ q → A q) (isC isR : List Nat)
    (hC : isC.map (fun i => ws[i]?) = wc.map some) (hR : isR.map (fun i => ws[i]?) = wr.map some) (hn : va_nd isR = true) (hdis : (isR.all fun i => !isC.contains i) = true)
    (kk : ∀ (W' : va_W) (H1 : Heap) (locs1 : List Loc), Wp W' → va_P D vwCl (wr ++ W') H1 → va_D A (wr ++ W') → va_S A s.heap H1 locs1 → W p l e R s m args below meth c H1 locs1 (cells + mc) (slots + ms) Q (F0 m (pc + 3) ls (.int v :: rest))) : W p l e R s m args below meth c H locs cells slots Q (F0 m pc ls st0) :=
  callAo hr hP hD hS hA isC isR hC hR hn hdis kk
theorem callMl {v : Int64} {D : va_G} {A : Nat → Prop} {ws wc wr w1 : va_W} (ws' : va_W)
    (hr : va_Run p l e R s m args below meth c H locs cells slots mc ms (F0 m pc ls st0) rest (Qm (some (.long v)) D (fun x => x = w1) (va_A wc H.size) a) (va_A wc H.size))
    (hP : va_P D vwCl ws H) (hD : va_D A ws) (hS : va_S A s.heap H locs) (hA : ∀ q, s.heap.size ≤ q → A q) (isC isR isB : List Nat)
    (hC : isC.map (fun i => ws[i]?) = wc.map some) (hR : isR.map (fun i => ws[i]?) = wr.map some) (hn : va_nd isR = true) (hdis : (isR.all fun i => !isC.contains i) = true)
    (hB : isB.map (fun i => (wr ++ w1)[i]?) = ws'.map some) (hnB : va_nd isB = true)
    (kk : ∀ (H1 : Heap) (locs1 : List Loc), va_P D vwCl ws' H1 → va_D A ws' → va_S A s.heap H1 locs1 → W p l e R s m args below meth c H1 locs1 (cells + mc) (slots + ms) Q (F0 m (pc + 3) ls (.long v :: rest))) : W p l e R s m args below meth c H locs cells slots Q (F0 m pc ls st0) :=
  callMo ws' hr hP hD hS hA isC isR isB hC hR hn hdis hB hnB kk
theorem callAl {v : Int64} {D : va_G} {Wp : va_W → Prop} {A : Nat → Prop} {ws wc wr : va_W}
    (hr : va_Run p l e R s m args below meth c H locs cells slots mc ms (F0 m pc ls st0) rest (Qm (some (.long v)) D Wp (va_A wc H.size) a) (va_A wc H.size))
    (hP : va_P D vwCl ws H) (hD : va_D A ws) (hS : va_S A s.heap H locs) (hA : ∀ q, s.heap.size ≤ q → A q) (isC isR : List Nat)
    (hC : isC.map (fun i => ws[i]?) = wc.map some) (hR : isR.map (fun i => ws[i]?) = wr.map some) (hn : va_nd isR = true) (hdis : (isR.all fun i => !isC.contains i) = true)
    (kk : ∀ (W' : va_W) (H1 : Heap) (locs1 : List Loc), Wp W' → va_P D vwCl (wr ++ W') H1 → va_D A (wr ++ W') → va_S A s.heap H1 locs1 → W p l e R s m args below meth c H1 locs1 (cells + mc) (slots + ms) Q (F0 m (pc + 3) ls (.long v :: rest))) : W p l e R s m args below meth c H locs cells slots Q (F0 m pc ls st0) :=
  callAo hr hP hD hS hA isC isR hC hR hn hdis kk
theorem callMv {D : va_G} {A : Nat → Prop} {ws wc wr w1 : va_W} (ws' : va_W)
    (hr : va_Run p l e R s m args below meth c H locs cells slots mc ms (F0 m pc ls st0) rest (Qm none D (fun x => x = w1) (va_A wc H.size) a) (va_A wc H.size))
    (hP : va_P D vwCl ws H) (hD : va_D A ws) (hS : va_S A s.heap H locs) (hA : ∀ q, s.heap.size ≤ q → A q) (isC isR isB : List Nat)
    (hC : isC.map (fun i => ws[i]?) = wc.map some) (hR : isR.map (fun i => ws[i]?) = wr.map some) (hn : va_nd isR = true) (hdis : (isR.all fun i => !isC.contains i) = true)
    (hB : isB.map (fun i => (wr ++ w1)[i]?) = ws'.map some) (hnB : va_nd isB = true)
    (kk : ∀ (H1 : Heap) (locs1 : List Loc), va_P D vwCl ws' H1 → va_D A ws' → va_S A s.heap H1 locs1 → W p l e R s m args below meth c H1 locs1 (cells + mc) (slots + ms) Q (F0 m (pc + 3) ls (rest))) : W p l e R s m args below meth c H locs cells slots Q (F0 m pc ls st0) :=
  callMo ws' hr hP hD hS hA isC isR isB hC hR hn hdis hB hnB kk
theorem callAv {D : va_G} {Wp : va_W → Prop} {A : Nat → Prop} {ws wc wr : va_W}
    (hr : va_Run p l e R s m args below meth c H locs cells slots mc ms (F0 m pc ls st0) rest (Qm none D Wp (va_A wc H.size) a) (va_A wc H.size))
    (hP : va_P D vwCl ws H) (hD : va_D A ws) (hS : va_S A s.heap H locs) (hA : ∀ q, s.heap.size ≤ q → A q) (isC isR : List Nat)
    (hC : isC.map (fun i => ws[i]?) = wc.map some) (hR : isR.map (fun i => ws[i]?) = wr.map some) (hn : va_nd isR = true) (hdis : (isR.all fun i => !isC.contains i) = true)
    (kk : ∀ (W' : va_W) (H1 : Heap) (locs1 : List Loc), Wp W' → va_P D vwCl (wr ++ W') H1 → va_D A (wr ++ W') → va_S A s.heap H1 locs1 → W p l e R s m args below meth c H1 locs1 (cells + mc) (slots + ms) Q (F0 m (pc + 3) ls (rest))) : W p l e R s m args below meth c H locs cells slots Q (F0 m pc ls st0) :=
  callAo hr hP hD hS hA isC isR hC hR hn hdis kk
end KITC
