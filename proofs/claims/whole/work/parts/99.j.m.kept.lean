/-! ===== what a call site gives; how the state of the machine is kept ===== -/
/-- the site of a call of a static method with a table -/
def CapS (p : Program) (l : Launch) (e : Env) (s : State) (m : MethodId) (args : Array Value) (below : List Frame) (meth : Method) (cd : Code) (y : MethodName) (ws : List Cond) (maxL : Nat) (As rest st0 : List Value) (pc : Nat) (ls : Array Slot) : Prop :=
  ∀ (H : Heap) (locs : List Loc) (cells slots : Nat) (rm : Room) (mc ms : Nat) (Pc : Array Value → State → Prop) (Qc : Array Value → State → Outcome → State → Prop) (free : Addr → Prop), Met l y ws rm Pc Qc mc ms free → rm.cells = mc → rm.slots = ms → (rm.frames + 1 ≤ room_1.frames ∧ 8 + (maxL + 11) + rm.locals ≤ room_1.locals) → PreS s H Pc As → (cells + mc ≤ room_1.cells ∧ slots + ms ≤ room_1.slots) →
    va_Run p l e room_1 s m args below meth cd H locs cells slots mc ms (F0 m pc ls st0) rest (Qc As.toArray) free
/-- the site of a call of a method of an object -/
def CapV (p : Program) (l : Launch) (e : Env) (s : State) (m : MethodId) (args : Array Value) (below : List Frame) (meth : Method) (cd : Code) (K : String) (y : MethodName) (ws : List Cond) (maxL : Nat) (q : Nat) (As rest st0 : List Value) (pc : Nat) (ls : Array Slot) : Prop :=
  ∀ (H : Heap) (locs : List Loc) (cells slots : Nat) (rm : Room) (mc ms : Nat) (Pc : Array Value → State → Prop) (Qc : Array Value → State → Outcome → State → Prop) (free : Addr → Prop), Met l y ws rm Pc Qc mc ms free → rm.cells = mc → rm.slots = ms → (rm.frames + 1 ≤ room_1.frames ∧ 8 + (maxL + 11) + rm.locals ≤ room_1.locals) → PreV s H K q Pc As → (cells + mc ≤ room_1.cells ∧ slots + ms ≤ room_1.slots) →
    va_Run p l e room_1 s m args below meth cd H locs cells slots mc ms (F0 m pc ls st0) rest (Qc (Value.ref q :: As).toArray) free
theorem KE_le {a b c : Option String} {k : Nat} {E : String} (h : KE a b c k E) : k ≤ 3 := by
  rcases h with ⟨rfl, -⟩ | ⟨rfl, -⟩ | ⟨rfl, -⟩ <;> omega
theorem rm_room {cells slots mc ms : Nat} (h : cells + 6 ≤ room_1.cells ∧ slots + 88 ≤ room_1.slots) (h1 : mc ≤ 6) (h2 : ms ≤ 88) : cells + mc ≤ room_1.cells ∧ slots + ms ≤ room_1.slots := ⟨Nat.le_trans (Nat.add_le_add_left h1 _) h.1, Nat.le_trans (Nat.add_le_add_left h2 _) h.2⟩
/-- the law's array of one long -/
def OW (T : TY) (oa : Nat) (out : Nat → Int64) : va_W := [(oa, .inl (T.2.2.2, (1, .inr (.inl out))))]
theorem out_at (out : Nat → Int64) (v : Int32) : vp_updL out (0 : Int32).toNatClampNeg v.toInt64 0 = v.toInt64 := by
  rw [show (0 : Int32).toNatClampNeg = 0 from by decide]
  exact if_pos rfl
theorem SL_keepB {B : Nat → Option DB} {S S' : ST} {j : Nat} {b : DB} (h : SL B S) (hj : j < 6) (hK : sK S' = sK S) : SL (setB B j b) S' := by
  intro i hi
  rw [hK, set_ne B b (show 6 + i ≠ j by omega)]
  exact h i hi
section
variable {c c' : XC} {B : Nat → Option DB} {o o' : Nat} {S S' : ST} {b b' : DB}
theorem XI_saveA (hX : XI c B o S) (ho : o < 6) (hh : sH S ≤ 6) (hb : dbC b' (sD S)) (hC : XCI c' (nO o (sH S)) S') (hK : sK S' = sK S) (hH : sH S' = nH (sH S)) (hL : sL S' = sv1 (sH S) (sL S) (sD S))
    (hsl : c'.2.2.2.2.2.2.2.2.2.2.2.2.1 = c.2.2.2.2.2.2.2.2.2.2.2.2.1) (hst : c'.2.2.2.2.2.2.2.2.2.2.2.2.2.1 = va_up c.2.2.2.2.2.2.2.2.2.2.2.2.2.1 (ix o (sH S)) (some (dbA b'))) : XI c' (setB B (ix o (sH S)) b') (nO o (sH S)) S' := by
  obtain ⟨h1, h2, h3, h4, h5⟩ := hX
  refine ⟨hC, ?_, SL_keepB h3 (ix_lt _ _) hK, fun j hj => ?_, fun i hi => ?_⟩
  · rw [hH, hL]
    exact RG_save h2 ho hh hb
  · rw [hst]
    unfold va_up setB
    by_cases q : j = ix o (sH S)
    · rw [if_pos q, if_pos q]; rfl
    · rw [if_neg q, if_neg q]; exact h4 j hj
  · rw [hsl, set_ne B b' (show 6 + i ≠ ix o (sH S) by have := ix_lt o (sH S); omega)]
    exact h5 i hi
theorem XI_saveB (hX : XI c B o S) (ho : o < 6) (hh : sH S ≤ 6) (hB : B (ix o (sH S)) = some b) (hb : dbC b' (sD S)) (ha : dbA b' = dbA b) (hC : XCI c' (nO o (sH S)) S') (hK : sK S' = sK S) (hH : sH S' = nH (sH S)) (hL : sL S' = sv1 (sH S) (sL S) (sD S))
    (hsl : c'.2.2.2.2.2.2.2.2.2.2.2.2.1 = c.2.2.2.2.2.2.2.2.2.2.2.2.1) (hst : c'.2.2.2.2.2.2.2.2.2.2.2.2.2.1 = c.2.2.2.2.2.2.2.2.2.2.2.2.2.1) : XI c' (setB B (ix o (sH S)) b') (nO o (sH S)) S' := by
  obtain ⟨h1, h2, h3, h4, h5⟩ := hX
  refine ⟨hC, ?_, SL_keepB h3 (ix_lt _ _) hK, fun j hj => ?_, fun i hi => ?_⟩
  · rw [hH, hL]
    exact RG_save h2 ho hh hb
  · rw [hst, h4 j hj]
    unfold setB
    by_cases q : j = ix o (sH S)
    · rw [if_pos q, q, hB, Option.map_some, Option.map_some, ha]
    · rw [if_neg q]
  · rw [hsl, set_ne B b' (show 6 + i ≠ ix o (sH S) by have := ix_lt o (sH S); omega)]
    exact h5 i hi
/-- the pool and the ring as they were -/
theorem XI_same (hX : XI c B o S) (hC : XCI c' o S') (hK : sK S' = sK S) (hH : sH S' = sH S) (hL : sL S' = sL S) (hsl : c'.2.2.2.2.2.2.2.2.2.2.2.2.1 = c.2.2.2.2.2.2.2.2.2.2.2.2.1) (hst : c'.2.2.2.2.2.2.2.2.2.2.2.2.2.1 = c.2.2.2.2.2.2.2.2.2.2.2.2.2.1) : XI c' B o S' := by
  obtain ⟨h1, h2, h3, h4, h5⟩ := hX
  refine ⟨hC, ?_, fun i hi => ?_, fun j hj => ?_, fun i hi => ?_⟩
  · rw [hH, hL]; exact h2
  · rw [hK]; exact h3 i hi
  · rw [hst]; exact h4 j hj
  · rw [hsl]; exact h5 i hi
/-- undo: the ring is one shorter -/
theorem XI_undo (hX : XI c B o S) (hC : XCI c' o (unS S)) (hsl : c'.2.2.2.2.2.2.2.2.2.2.2.2.1 = c.2.2.2.2.2.2.2.2.2.2.2.2.1) (hst : c'.2.2.2.2.2.2.2.2.2.2.2.2.2.1 = c.2.2.2.2.2.2.2.2.2.2.2.2.2.1) : XI c' B o (unS S) := by
  obtain ⟨h1, h2, h3, h4, h5⟩ := hX
  refine ⟨hC, fun s hs => h2 s ?_, h3, fun j hj => ?_, fun i hi => ?_⟩
  · have hs : s < sH S - 1 := hs
    omega
  · rw [hst]; exact h4 j hj
  · rw [hsl]; exact h5 i hi
theorem SL_kp {i : Nat} (h : SL B S) (hb : dbC b' (sD S)) : SL (setB B (6 + i) b') (kpS S i) := by
  intro k hk
  by_cases q : k = i
  · subst q
    exact Or.inr ⟨sD S, b', if_pos rfl, set_at _ _ _, hb⟩
  · rw [set_ne B b' (show 6 + k ≠ 6 + i by omega), show sK (kpS S i) k = sK S k from if_neg q]
    exact h k hk
theorem XI_keepA {i : Nat} (hX : XI c B o S) (hi : i < 2) (hb : dbC b' (sD S)) (hC : XCI c' o (kpS S i)) (hsl : c'.2.2.2.2.2.2.2.2.2.2.2.2.1 = va_up c.2.2.2.2.2.2.2.2.2.2.2.2.1 i (some (dbA b'))) (hst : c'.2.2.2.2.2.2.2.2.2.2.2.2.2.1 = c.2.2.2.2.2.2.2.2.2.2.2.2.2.1) : XI c' (setB B (6 + i) b') o (kpS S i) := by
  obtain ⟨h1, h2, h3, h4, h5⟩ := hX
  refine ⟨hC, fun s hs => ?_, SL_kp h3 hb, fun j hj => ?_, fun k hk => ?_⟩
  · obtain ⟨b0, e1, e2⟩ := h2 s hs
    exact ⟨b0, by rw [set_ne B b' (show ix o s ≠ 6 + i by have := ix_lt o s; omega)]; exact e1, e2⟩
  · rw [hst, set_ne B b' (show j ≠ 6 + i by omega)]
    exact h4 j hj
  · rw [hsl]
    unfold va_up setB
    by_cases q : k = i
    · rw [if_pos q, if_pos (by rw [q])]; rfl
    · rw [if_neg q, if_neg (by omega)]; exact h5 k hk
theorem XI_keepB {i : Nat} (hX : XI c B o S) (hi : i < 2) (hB : B (6 + i) = some b) (hb : dbC b' (sD S)) (ha : dbA b' = dbA b) (hC : XCI c' o (kpS S i)) (hsl : c'.2.2.2.2.2.2.2.2.2.2.2.2.1 = c.2.2.2.2.2.2.2.2.2.2.2.2.1) (hst : c'.2.2.2.2.2.2.2.2.2.2.2.2.2.1 = c.2.2.2.2.2.2.2.2.2.2.2.2.2.1) : XI c' (setB B (6 + i) b') o (kpS S i) := by
  obtain ⟨h1, h2, h3, h4, h5⟩ := hX
  refine ⟨hC, fun s hs => ?_, SL_kp h3 hb, fun j hj => ?_, fun k hk => ?_⟩
  · obtain ⟨b0, e1, e2⟩ := h2 s hs
    exact ⟨b0, by rw [set_ne B b' (show ix o s ≠ 6 + i by have := ix_lt o s; omega)]; exact e1, e2⟩
  · rw [hst, set_ne B b' (show j ≠ 6 + i by omega)]
    exact h4 j hj
  · rw [hsl, h5 k hk]
    unfold setB
    by_cases q : k = i
    · rw [if_pos (by rw [q]), q, hB, Option.map_some, Option.map_some, ha]
    · rw [if_neg (by omega)]
/-- a slot with a snapshot has its block, one without has none -/
theorem XI_slot (hX : XI c B o S) {i : Nat} (hi : i < 2) : (sK S i = none → c.2.2.2.2.2.2.2.2.2.2.2.2.1 i = none) ∧ ∀ E, sK S i = some E → ∃ b, B (6 + i) = some b ∧ c.2.2.2.2.2.2.2.2.2.2.2.2.1 i = some (dbA b) ∧ dbC b E := by
  obtain ⟨h1, h2, h3, h4, h5⟩ := hX
  refine ⟨fun h => ?_, fun E h => ?_⟩
  · rcases h3 i hi with ⟨-, e⟩ | ⟨E, b, e1, e2, e3⟩
    · rw [h5 i hi, e]; rfl
    · rw [e1] at h; cases h
  · rcases h3 i hi with ⟨e, -⟩ | ⟨E', b, e1, e2, e3⟩
    · rw [e] at h; cases h
    · rw [e1] at h
      cases h
      exact ⟨b, e2, by rw [h5 i hi, e2]; rfl, e3⟩
theorem XI_some (hX : XI c B o S) {i : Nat} (hi : i < 2) : (c.2.2.2.2.2.2.2.2.2.2.2.2.1 i).isSome = (sK S i).isSome := by
  cases h : sK S i with
  | none => rw [(XI_slot hX hi).1 h]; rfl
  | some E =>
    obtain ⟨b, -, e, -⟩ := (XI_slot hX hi).2 E h
    rw [e]; rfl
end
section
variable {D : va_G} {A : Nat → Prop} {T : TY} {B : Nat → Option DB} {X O R : va_W} {H : Heap} {j k : Nat} {b cb : DB}
theorem rm_set_ne (B : Nat → Option DB) (b : DB) (h : k ≠ j) : setB (rmB B k) j b = rmB (setB B j b) k := by
  funext i
  unfold setB rmB
  by_cases q : i = j
  · dsimp only
    rw [if_pos q, if_neg (by omega), if_pos q]
  · dsimp only
    rw [if_neg q, if_neg q]
theorem GB_in (hj : j < 8) (hk : k < 8) (hjk : k ≠ j) (hc : B k = some cb) (hb : B j = some b) (hW : WD D A (X ++ (O ++ (PW T B ++ R))) H) : WD D A ((X ++ (blk T b ++ (blk T cb ++ O))) ++ (PW T (rmB (rmB B k) j) ++ R)) H := by
  have h1 := PB_in hk hc hW
  rw [List.append_assoc] at h1
  exact PB_in hj (by rw [rm_ne B hjk.symm]; exact hb) h1
theorem GB_out (hj : j < 8) (hk : k < 8) (hjk : k ≠ j) (hc : B k = some cb) (hW : WD D A ((X ++ (blk T b ++ (blk T cb ++ O))) ++ (PW T (rmB (rmB B k) j) ++ R)) H) : WD D A (X ++ (O ++ (PW T (setB B j b) ++ R))) H := by
  have h1 := PB_out hj hW
  rw [rm_set_ne B b hjk, ← List.append_assoc] at h1
  have h2 := PB_out hk h1
  rw [set_same (show setB B j b k = some cb by rw [set_ne B b hjk]; exact hc)] at h2
  exact h2
theorem GB_new (hj : j < 8) (hk : k < 8) (hjk : k ≠ j) (hc : B k = some cb) (hb : B j = none) (hW : WD D A ((X ++ (blk T cb ++ (O ++ blk T b))) ++ (PW T (rmB B k) ++ R)) H) : WD D A (X ++ (O ++ (PW T (setB B j b) ++ R))) H := by
  have h1 := PB_out hk hW
  rw [set_same hc, ← List.append_assoc] at h1
  exact PB_new hj hb h1
end
