/-! ===== the law's loop: what holds at its head ===== -/
def LX (p : Program) (l : Launch) (s : State) (m : MethodId) (args : Array Value) (cd : Code) (D : va_G) (T : TY) (b L : Nat) (xs : Nat → Int32) : Prop :=
  p.tables.exec = Jvm.exec ∧ cd.code = cL_law ∧ cd.maxLocals = 9 ∧ s.vm.findClass RL = some m.cls ∧ (∀ w ∈ wsL_law, w.before args s = true) ∧ va_K D vwCl (tyL T) s ∧ NW s ∧ ZT s ∧ l.stackTraces = false ∧ va_X b L xs s s.heap ∧ b < s.heap.size
def LI (T : TY) (D : va_G) (s : State) (a : XA) (ma : MA) (oa : Nat) (H : Heap) : Prop :=
  ∃ (c : XC) (cm : MC) (B : Nat → Option DB) (o : Nat) (S : ST) (out : Nat → Int64), XI c B o S ∧ MRI cm S ∧ WS S ∧ WD D (fun q => s.heap.size ≤ q) (XW T a c ++ (OW T oa out ++ (PW T B ++ MW T ma cm))) H
theorem lg_same (x : Int64) : lg_cmp x x = 0 := by
  unfold lg_cmp
  rw [if_neg (by simp), if_pos rfl]
theorem ik0 {k : Nat} (h : k < 2147483648) (e : nI k = 0) : k = 0 := by
  rw [fa_lit 0, eq_nI h (by omega)] at e
  exact e
