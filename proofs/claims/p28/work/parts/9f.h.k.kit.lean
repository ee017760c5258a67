/-! ===== one call of the class at a site: what a site gives, what is kept ===== -/
/-- what a throw needs, the shared objects below a base -/
def ZB (n0 : Nat) (U : State) : Prop := n0 ≤ U.heap.size ∧ vx_Zq Bundle.tN "UNASSIGNED_STACK" Bundle.steD (fun q => n0 ≤ q) U U.heap ∧ vx_Zq Bundle.tN "SUPPRESSED_SENTINEL" Bundle.listD (fun q => n0 ≤ q) U U.heap ∧
  (∀ q ∈ TXl, ∃ sa, vk_R RX6 q.1 q.2 sa U) ∧ (∀ q ∈ DCl, va_Nw (.declares (DCm q)) U) ∧ (∀ q ∈ CAl, va_Nw (.castable q q) U) ∧ ∀ q ∈ NCl, va_Nc q.1 q.2 U
theorem ZT.zb {U : State} (h : ZT U) : ZB U.heap.size U := ⟨Nat.le_refl _, h.1, h.2.1, h.2.2.1, h.2.2.2.1, h.2.2.2.2.1, h.2.2.2.2.2⟩
theorem ZB.zt {n0 : Nat} {U : State} (h : ZB n0 U) : ZT U := by
  obtain ⟨h0, h1, h2, h3, h4, h5, h6⟩ := h
  exact ⟨h1.narrow (fun q hq => Nat.le_trans h0 hq), h2.narrow (fun q hq => Nat.le_trans h0 hq), h3, h4, h5, h6⟩
theorem ZB.at {n0 : Nat} {s U : State} {A : Nat → Prop} {H : Heap} {locs : List Loc} (h : ZB n0 s) (hS : va_S A s.heap H locs) (hAn : ∀ q, A q → n0 ≤ q) (hU : U.heap = H) (hW : s.WarmedH U.vm) : ZB n0 U := by
  obtain ⟨h0, h1, h2, h3, h4, h5, h6⟩ := h
  have hz := hS.1
  have hk : ∀ q : Nat, q < s.heap.size → ¬ n0 ≤ q → H[q]? = s.heap[q]? := fun q hq hn => hS.2.1 q hq (fun z => hn (hAn q z))
  refine ⟨by rw [hU]; omega, ?_, ?_, fun q hq => ?_, fun q hq => va_Nw.warmD hW (h4 q hq), fun q hq => va_Nw.warmC hW (h5 q hq), fun q hq => va_Nc.moved hW.alike (h6 q hq)⟩
  · rw [hU]; exact vx_Zq.moved hW.alike (h1.kept hk)
  · rw [hU]; exact vx_Zq.moved hW.alike (h2.kept hk)
  · obtain ⟨sa, h⟩ := h3 q hq
    exact ⟨sa, vk_R.warm hW h⟩
theorem ZB.same {n0 : Nat} {u U : State} (hh : U.heap = u.heap) (hv : u.vm = U.vm) (h : ZB n0 u) : ZB n0 U := by
  obtain ⟨h0, h1, h2, h3, h4, h5, h6⟩ := h
  have ha : u.vm.Alike U.vm := by rw [hv]; exact Vm.Alike.refl U.vm
  refine ⟨by rw [hh]; exact h0, ?_, ?_, fun q hq => ?_, fun q hq => va_Nw.same rfl hv (h4 q hq), fun q hq => va_Nw.same rfl hv (h5 q hq), fun q hq => va_Nc.moved ha (h6 q hq)⟩
  · rw [hh]; exact vx_Zq.moved ha h1
  · rw [hh]; exact vx_Zq.moved ha h2
  · obtain ⟨sa, h⟩ := h3 q hq
    exact ⟨sa, vk_R.same hv.symm h⟩
theorem preMZB {s : State} {H : Heap} {D : va_G} {T : TY} {A : Nat → Prop} {W : va_W} {As : List Value} {locs : List Loc} {n0 : Nat} (hP : va_P D vwCl W H) (hD : va_D A W) (hK : va_K D vwCl (tyL T) s) (hN : NW s) (hZ : ZB n0 s) (hS : va_S A s.heap H locs) (hAn : ∀ q, A q → n0 ≤ q) : PreS s H (va_Pc As (PMZ D T W H.size)) As :=
  ⟨frMZ, fun U hU hW => ⟨rfl, ⟨by rw [hU], by rw [hU]; exact hP, va_K.moved hW.alike hK, NW.warm hW hN, hD.weaken (fun _ _ _ _ => trivial)⟩, (hZ.at hS hAn hU hW).zt⟩⟩
/-- the site of a call of a static method -/
def CapS (p : Program) (l : Launch) (e : Env) (RM : Room) (s : State) (m : MethodId) (args : Array Value) (below : List Frame) (meth : Method) (cd : Code) (y : MethodName) (ws : List Cond) (maxL : Nat) (As rest st0 : List Value) (pc : Nat) (ls : Array Slot) : Prop :=
  ∀ (H : Heap) (locs : List Loc) (cells slots : Nat) (rm : Room) (mc ms : Nat) (Pc : Array Value → State → Prop) (Qc : Array Value → State → Outcome → State → Prop) (free : Addr → Prop), Met l y ws rm Pc Qc mc ms free → rm.cells = mc → rm.slots = ms → (rm.frames + 1 ≤ RM.frames ∧ 8 + (maxL + 11) + rm.locals ≤ RM.locals) → PreS s H Pc As → (cells + mc ≤ RM.cells ∧ slots + ms ≤ RM.slots) →
    va_Run p l e RM s m args below meth cd H locs cells slots mc ms (F0 m pc ls st0) rest (Qc As.toArray) free
/-- the site of a call of a method of an object -/
def CapV (p : Program) (l : Launch) (e : Env) (RM : Room) (s : State) (m : MethodId) (args : Array Value) (below : List Frame) (meth : Method) (cd : Code) (K : String) (y : MethodName) (ws : List Cond) (maxL : Nat) (q : Nat) (As rest st0 : List Value) (pc : Nat) (ls : Array Slot) : Prop :=
  ∀ (H : Heap) (locs : List Loc) (cells slots : Nat) (rm : Room) (mc ms : Nat) (Pc : Array Value → State → Prop) (Qc : Array Value → State → Outcome → State → Prop) (free : Addr → Prop), Met l y ws rm Pc Qc mc ms free → rm.cells = mc → rm.slots = ms → (rm.frames + 1 ≤ RM.frames ∧ 8 + (maxL + 11) + rm.locals ≤ RM.locals) → PreV s H K q Pc As → (cells + mc ≤ RM.cells ∧ slots + ms ≤ RM.slots) →
    va_Run p l e RM s m args below meth cd H locs cells slots mc ms (F0 m pc ls st0) rest (Qc (Value.ref q :: As).toArray) free
theorem kroom {RM : Room} {cells slots mc ms : Nat} (h : cells + 6 ≤ RM.cells ∧ slots + 88 ≤ RM.slots) (h1 : mc ≤ 6) (h2 : ms ≤ 88) : cells + mc ≤ RM.cells ∧ slots + ms ≤ RM.slots := ⟨Nat.le_trans (Nat.add_le_add_left h1 _) h.1, Nat.le_trans (Nat.add_le_add_left h2 _) h.2⟩
theorem m31 : -nI 31 = (-31 : Int32) := by decide
theorem m32 : -nI 32 = (-32 : Int32) := by decide
theorem m33 : -nI 33 = (-33 : Int32) := by decide
theorem tb_ne {x y : Option String} {E : String} (hx : x ≠ some E) (hy : y ≠ some E) : tb x y ≠ some E := fun h => (tb_some h).elim hx hy
theorem ob_ne {α : Type} {x : Option α} {f : α → Option String} {E : String} (hf : ∀ a, f a ≠ some E) : Option.bind x f ≠ some E := by
  cases x with
  | none => exact fun h => nomatch h
  | some a => exact hf a
theorem no_widen_33 (n x1 x2 : Int32) : f_X6_widenT n x1 x2 ≠ some eIS := by
  have e1 : some eIO ≠ some eIS := by decide +kernel
  have e2 : some eIA ≠ some eIS := by decide +kernel
  unfold f_X6_widenT f_X6_checkRibbonT
  refine tb_ne (ob_ne fun a => ?_) (ob_ne fun b => ?_)
  · by_cases c : a = 0
    · rw [if_pos c]; exact e1
    · rw [if_neg c]; exact fun h => nomatch h
  · by_cases c : x2 < 0
    · rw [if_pos c]; exact e2
    · rw [if_neg c]
      by_cases d : x2 ≤ (50 : Int32)
      · rw [if_pos d]; exact fun h => nomatch h
      · rw [if_neg d]; exact e2
theorem no_swap_33 (x1 x2 : Int32) : f_X6_swapT x1 x2 ≠ some eIS := by
  intro h
  unfold f_X6_swapT at h
  rcases pair_arg x1 x2 with ⟨a, b, ha, hb, hc, hn, rfl, rfl⟩ | ⟨h1, -⟩ | ⟨h1, -⟩
  · rw [checkPair_ab ha hb, if_neg hn, if_pos hc] at h
    exact nomatch h
  · rw [h1, tb_s] at h
    exact absurd (Option.some.inj h) (by decide)
  · rw [h1, tb_s] at h
    exact absurd (Option.some.inj h) (by decide)
section
variable {D : va_G} {A : Nat → Prop} {T : TY} {B : Nat → Option DB} {X P R : va_W} {H : Heap} {j : Nat} {b b' : DB}
theorem WD.rotF (h : WD D A (R ++ (X ++ P)) H) : WD D A (X ++ (P ++ R)) H := by
  refine h.perm ?_
  rw [← List.append_assoc X P R]
  exact List.perm_append_comm
theorem WD.rotB (h : WD D A (X ++ (P ++ R)) H) : WD D A (R ++ (X ++ P)) H := by
  refine h.perm ?_
  rw [← List.append_assoc X P R]
  exact List.perm_append_comm
theorem PB_in0 (hj : j < 8) (h : B j = some b) (hW : WD D A (X ++ (PW T B ++ R)) H) : WD D A ((X ++ blk T b) ++ (PW T (rmB B j) ++ R)) H := PB_in' (O := []) hj h hW
theorem PB_out0 (hj : j < 8) (hW : WD D A ((X ++ blk T b) ++ (PW T (rmB B j) ++ R)) H) : WD D A (X ++ (PW T (setB B j b) ++ R)) H := PB_out' (O := []) hj hW
theorem PB_new0 (hj : j < 8) (h : B j = none) (hW : WD D A ((X ++ blk T b) ++ (PW T B ++ R)) H) : WD D A (X ++ (PW T (setB B j b) ++ R)) H := PB_new' (O := []) hj h hW
end
section
variable {c c' : XC} {B : Nat → Option DB} {o h : Nat} {E E' : DR} {b b' : DB}
theorem XP_same (hX : XP c B o h E) (h1 : c'.2.2.2.2.2.2.2.2.2.2.2.2.2.2.1 = c.2.2.2.2.2.2.2.2.2.2.2.2.2.2.1) (h2 : c'.2.2.2.2.2.2.2.2.2.2.2.2.2.2.2.1 = c.2.2.2.2.2.2.2.2.2.2.2.2.2.2.2.1) (h3 : c'.2.2.2.2.2.2.2.2.2.2.2.2.2.1 = c.2.2.2.2.2.2.2.2.2.2.2.2.2.1) (hD : DC c'.1 c'.2.1 c'.2.2.1 c'.2.2.2.1 c'.2.2.2.2.1 c'.2.2.2.2.2.1 E) : XP c' B o h E := by
  obtain ⟨-, ho, hh, e1, e2, e3⟩ := hX
  exact ⟨hD, ho, hh, h1.trans e1, h2.trans e2, fun j hj => by rw [h3]; exact e3 j hj⟩
theorem XP_saveA (hX : XP c B o h E) (ho : o < 6) (hh : h ≤ 6) (hD : DC c'.1 c'.2.1 c'.2.2.1 c'.2.2.2.1 c'.2.2.2.2.1 c'.2.2.2.2.2.1 E') (h1 : c'.2.2.2.2.2.2.2.2.2.2.2.2.2.2.1 = nI (nO o h)) (h2 : c'.2.2.2.2.2.2.2.2.2.2.2.2.2.2.2.1 = nI (nH h)) (h3 : c'.2.2.2.2.2.2.2.2.2.2.2.2.2.1 = va_up c.2.2.2.2.2.2.2.2.2.2.2.2.2.1 (ix o h) (some (dbA b'))) : XP c' (setB B (ix o h) b') (nO o h) (nH h) E' := by
  obtain ⟨-, -, -, e1, e2, e3⟩ := hX
  refine ⟨hD, nO_lt ho, nH_le hh, h1, h2, fun j hj => ?_⟩
  rw [h3]
  unfold va_up setB
  by_cases q : j = ix o h
  · rw [if_pos q, if_pos q]; rfl
  · rw [if_neg q, if_neg q]; exact e3 j hj
theorem XP_saveB (hX : XP c B o h E) (ho : o < 6) (hh : h ≤ 6) (hB : B (ix o h) = some b) (hD : DC c'.1 c'.2.1 c'.2.2.1 c'.2.2.2.1 c'.2.2.2.2.1 c'.2.2.2.2.2.1 E') (ha : dbA b' = dbA b) (h1 : c'.2.2.2.2.2.2.2.2.2.2.2.2.2.2.1 = nI (nO o h)) (h2 : c'.2.2.2.2.2.2.2.2.2.2.2.2.2.2.2.1 = nI (nH h)) (h3 : c'.2.2.2.2.2.2.2.2.2.2.2.2.2.1 = c.2.2.2.2.2.2.2.2.2.2.2.2.2.1) : XP c' (setB B (ix o h) b') (nO o h) (nH h) E' := by
  obtain ⟨-, -, -, e1, e2, e3⟩ := hX
  refine ⟨hD, nO_lt ho, nH_le hh, h1, h2, fun j hj => ?_⟩
  rw [h3, e3 j hj]
  unfold setB
  by_cases q : j = ix o h
  · rw [if_pos q, q, hB, Option.map_some, Option.map_some, ha]
  · rw [if_neg q]
end
