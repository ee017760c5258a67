/-! ===== walks, laid by wip/gen28/genlaw28.py: L_isThrough ===== -/
def rmL_isThrough : Room := { frames := 10, cells := 46, slots := 828, locals := 200 }
theorem hdS_L_isThrough : yL_isThrough.cls ≠ "java/lang/invoke/MethodHandle" ∧ yL_isThrough.cls ≠ "java/lang/invoke/VarHandle" ∧ (parseMethodDescriptor yL_isThrough.desc).map (fun d => d.parameters.length) = some 3 := by decide +kernel
theorem mw_L_isThrough_0 : Cond.static yL_goesOn ∈ wsL_isThrough := by decide +kernel
set_option maxHeartbeats 4000000 in
set_option maxRecDepth 100000 in
theorem w_L_isThrough_b96 {p : Program} {l : Launch} {e : Env} {s : State} {m : MethodId} {args : Array Value} {below : List Frame} {meth : Method} {c : Code} {D : va_G} {T : TY} {zr_a za_a zg_a : Nat} {xa : XA} {xB : Nat → Option DB} {xo xh : Nat} {zr : Nat → Int32} {za : Nat → Int32} {zg : Nat → Int32} {E : DR} {x2 : Int32} {res : Int32} {K19 : Int32 → Int32 → Int32 → Int32 → Int32 → Option (Int32)} (hw : WF E) (C : CX p s m args meth c cL_isThrough 9 RL wsL_isThrough (some .boolean) D T) {A : Nat → Prop} (hA : ∀ q, s.heap.size ≤ q → A q) {cells slots : Nat} (hcb : cells ≤ rmL_isThrough.cells ∧ slots ≤ rmL_isThrough.slots) (hK19 : ∀ x3 : Int32, ∀ x4 : Int32, ∀ x5 : Int32, ∀ x6 : Int32, ∀ x7 : Int32, K19 x3 x4 x5 x6 x7 = some res → ∀ (xc : XC), XP xc xB xo xh E → ∀ (H : Heap) (locs : List Loc), va_P D vwCl ((zr_a, .inl (T.1, (60, .inl zr))) :: (za_a, .inl (T.1, (16, .inl za))) :: (zg_a, .inl (T.1, (2, .inl zg))) :: (XW T xa xc ++ PW T xB)) H → va_D A ((zr_a, .inl (T.1, (60, .inl zr))) :: (za_a, .inl (T.1, (16, .inl za))) :: (zg_a, .inl (T.1, (2, .inl zg))) :: (XW T xa xc ++ PW T xB)) → va_S A s.heap H locs → ∀ ls : Array Slot, lv_has ls 9 [(0, .ref xa.1), (1, .ref zr_a), (2, .int x2), (3, .int x3), (4, .int x4), (5, .int x5), (6, .int x6), (7, .int x7)] → W p l e rmL_isThrough s m args below meth c H locs cells slots (MQ below (Qm (some (.int res)) D (fun W9 => ∃ xc : XC, XP xc xB xo xh E ∧ W9 = ((zr_a, .inl (T.1, (60, .inl zr))) :: (za_a, .inl (T.1, (16, .inl za))) :: (zg_a, .inl (T.1, (2, .inl zg))) :: (XW T xa xc ++ PW T xB))) A) args s 46 828 A) (F0 m 19 ls [])) : ∀ x3 : Int32, ∀ x4 : Int32, ∀ x5 : Int32, ∀ x6 : Int32, ∀ x7 : Int32, f_L_isThrough_b96 zr E x2 K19 x3 x4 x5 x6 x7 = some res → ∀ (xc : XC), XP xc xB xo xh E → ∀ (H : Heap) (locs : List Loc), va_P D vwCl ((zr_a, .inl (T.1, (60, .inl zr))) :: (za_a, .inl (T.1, (16, .inl za))) :: (zg_a, .inl (T.1, (2, .inl zg))) :: (XW T xa xc ++ PW T xB)) H → va_D A ((zr_a, .inl (T.1, (60, .inl zr))) :: (za_a, .inl (T.1, (16, .inl za))) :: (zg_a, .inl (T.1, (2, .inl zg))) :: (XW T xa xc ++ PW T xB)) → va_S A s.heap H locs → ∀ ls : Array Slot, lv_has ls 9 [(0, .ref xa.1), (1, .ref zr_a), (2, .int x2), (3, .int x3), (4, .int x4), (5, .int x5), (6, .int x6), (7, .int x7)] → W p l e rmL_isThrough s m args below meth c H locs cells slots (MQ below (Qm (some (.int res)) D (fun W9 => ∃ xc : XC, XP xc xB xo xh E ∧ W9 = ((zr_a, .inl (T.1, (60, .inl zr))) :: (za_a, .inl (T.1, (16, .inl za))) :: (zg_a, .inl (T.1, (2, .inl zg))) :: (XW T xa xc ++ PW T xB))) A) args s 46 828 A) (F0 m 96 ls []) := by
  obtain ⟨hx, hb, hml, hown, hts, hr, hlocks, hK, hN⟩ := id C
  intro x3 x4 x5 x6 x7 hf xc hX H locs hP hD hS ls hl
  unfold f_L_isThrough_b96 at hf
  obtain ⟨v96, e_96, hf⟩ := nm_some hf
  refine lv_iinc (v := v96) (lv' := [(7, .int v96), (0, .ref xa.1), (1, .ref zr_a), (2, .int x2), (3, .int x3), (4, .int x4), (5, .int x5), (6, .int x6)]) hx hb dL_isThrough_96 hl (k := 7) rfl (by rw [e_96]; rfl) (by decide) rfl (fun ls hl => ?_)
  refine lv_goto (tgt := 19) hx hb dL_isThrough_99 (by decide) ?_
  exact hK19 _ _ _ _ _ hf _ hX _ _ hP hD hS _ (lv_sub hl [1, 2, 3, 4, 5, 6, 7, 0] rfl)
set_option maxHeartbeats 4000000 in
set_option maxRecDepth 100000 in
theorem w_L_isThrough_b88 {p : Program} {l : Launch} {e : Env} {s : State} {m : MethodId} {args : Array Value} {below : List Frame} {meth : Method} {c : Code} {D : va_G} {T : TY} {zr_a za_a zg_a : Nat} {xa : XA} {xB : Nat → Option DB} {xo xh : Nat} {zr : Nat → Int32} {za : Nat → Int32} {zg : Nat → Int32} {E : DR} {x2 : Int32} {res : Int32} {K19 : Int32 → Int32 → Int32 → Int32 → Int32 → Option (Int32)} (hw : WF E) (C : CX p s m args meth c cL_isThrough 9 RL wsL_isThrough (some .boolean) D T) {A : Nat → Prop} (hA : ∀ q, s.heap.size ≤ q → A q) {cells slots : Nat} (hcb : cells ≤ rmL_isThrough.cells ∧ slots ≤ rmL_isThrough.slots) (hK19 : ∀ x3 : Int32, ∀ x4 : Int32, ∀ x5 : Int32, ∀ x6 : Int32, ∀ x7 : Int32, K19 x3 x4 x5 x6 x7 = some res → ∀ (xc : XC), XP xc xB xo xh E → ∀ (H : Heap) (locs : List Loc), va_P D vwCl ((zr_a, .inl (T.1, (60, .inl zr))) :: (za_a, .inl (T.1, (16, .inl za))) :: (zg_a, .inl (T.1, (2, .inl zg))) :: (XW T xa xc ++ PW T xB)) H → va_D A ((zr_a, .inl (T.1, (60, .inl zr))) :: (za_a, .inl (T.1, (16, .inl za))) :: (zg_a, .inl (T.1, (2, .inl zg))) :: (XW T xa xc ++ PW T xB)) → va_S A s.heap H locs → ∀ ls : Array Slot, lv_has ls 9 [(0, .ref xa.1), (1, .ref zr_a), (2, .int x2), (3, .int x3), (4, .int x4), (5, .int x5), (6, .int x6), (7, .int x7)] → W p l e rmL_isThrough s m args below meth c H locs cells slots (MQ below (Qm (some (.int res)) D (fun W9 => ∃ xc : XC, XP xc xB xo xh E ∧ W9 = ((zr_a, .inl (T.1, (60, .inl zr))) :: (za_a, .inl (T.1, (16, .inl za))) :: (zg_a, .inl (T.1, (2, .inl zg))) :: (XW T xa xc ++ PW T xB))) A) args s 46 828 A) (F0 m 19 ls [])) : ∀ x3 : Int32, ∀ x6 : Int32, ∀ x7 : Int32, ∀ x8 : Int32, f_L_isThrough_b88 zr E x2 K19 x3 x6 x7 x8 = some res → ∀ (xc : XC), XP xc xB xo xh E → ∀ (H : Heap) (locs : List Loc), va_P D vwCl ((zr_a, .inl (T.1, (60, .inl zr))) :: (za_a, .inl (T.1, (16, .inl za))) :: (zg_a, .inl (T.1, (2, .inl zg))) :: (XW T xa xc ++ PW T xB)) H → va_D A ((zr_a, .inl (T.1, (60, .inl zr))) :: (za_a, .inl (T.1, (16, .inl za))) :: (zg_a, .inl (T.1, (2, .inl zg))) :: (XW T xa xc ++ PW T xB)) → va_S A s.heap H locs → ∀ ls : Array Slot, lv_has ls 9 [(0, .ref xa.1), (1, .ref zr_a), (2, .int x2), (3, .int x3), (6, .int x6), (7, .int x7), (8, .int x8)] → W p l e rmL_isThrough s m args below meth c H locs cells slots (MQ below (Qm (some (.int res)) D (fun W9 => ∃ xc : XC, XP xc xB xo xh E ∧ W9 = ((zr_a, .inl (T.1, (60, .inl zr))) :: (za_a, .inl (T.1, (16, .inl za))) :: (zg_a, .inl (T.1, (2, .inl zg))) :: (XW T xa xc ++ PW T xB))) A) args s 46 828 A) (F0 m 88 ls []) := by
  obtain ⟨hx, hb, hml, hown, hts, hr, hlocks, hK, hN⟩ := id C
  intro x3 x6 x7 x8 hf xc hX H locs hP hD hS ls hl
  unfold f_L_isThrough_b88 at hf
  refine lv_iload hx hb dL_isThrough_88 (lv_at hl 5 rfl) ?_
  refine lv_istore (lv' := [(4, .int x7), (0, .ref xa.1), (1, .ref zr_a), (2, .int x2), (3, .int x3), (6, .int x6), (7, .int x7), (8, .int x8)]) hx hb dL_isThrough_90 hl (by decide) rfl (fun ls hl => ?_)
  refine lv_iload hx hb dL_isThrough_92 (lv_at hl 7 rfl) ?_
  refine lv_istore (lv' := [(5, .int x8), (4, .int x7), (0, .ref xa.1), (1, .ref zr_a), (2, .int x2), (3, .int x3), (6, .int x6), (7, .int x7), (8, .int x8)]) hx hb dL_isThrough_94 hl (by decide) rfl (fun ls hl => ?_)
  exact w_L_isThrough_b96 hw C hA hcb hK19 _ _ _ _ _ hf _ hX _ _ hP hD hS _ (lv_sub hl [2, 3, 4, 5, 1, 0, 6, 7] rfl)
set_option maxHeartbeats 4000000 in
set_option maxRecDepth 100000 in
theorem w_L_isThrough_b70 {p : Program} {l : Launch} {e : Env} {s : State} {m : MethodId} {args : Array Value} {below : List Frame} {meth : Method} {c : Code} {D : va_G} {T : TY} {zr_a za_a zg_a : Nat} {xa : XA} {xB : Nat → Option DB} {xo xh : Nat} {zr : Nat → Int32} {za : Nat → Int32} {zg : Nat → Int32} {E : DR} {x2 : Int32} {res : Int32} {K19 : Int32 → Int32 → Int32 → Int32 → Int32 → Option (Int32)} (hw : WF E) (C : CX p s m args meth c cL_isThrough 9 RL wsL_isThrough (some .boolean) D T) {A : Nat → Prop} (hA : ∀ q, s.heap.size ≤ q → A q) {cells slots : Nat} (hcb : cells ≤ rmL_isThrough.cells ∧ slots ≤ rmL_isThrough.slots) (hK19 : ∀ x3 : Int32, ∀ x4 : Int32, ∀ x5 : Int32, ∀ x6 : Int32, ∀ x7 : Int32, K19 x3 x4 x5 x6 x7 = some res → ∀ (xc : XC), XP xc xB xo xh E → ∀ (H : Heap) (locs : List Loc), va_P D vwCl ((zr_a, .inl (T.1, (60, .inl zr))) :: (za_a, .inl (T.1, (16, .inl za))) :: (zg_a, .inl (T.1, (2, .inl zg))) :: (XW T xa xc ++ PW T xB)) H → va_D A ((zr_a, .inl (T.1, (60, .inl zr))) :: (za_a, .inl (T.1, (16, .inl za))) :: (zg_a, .inl (T.1, (2, .inl zg))) :: (XW T xa xc ++ PW T xB)) → va_S A s.heap H locs → ∀ ls : Array Slot, lv_has ls 9 [(0, .ref xa.1), (1, .ref zr_a), (2, .int x2), (3, .int x3), (4, .int x4), (5, .int x5), (6, .int x6), (7, .int x7)] → W p l e rmL_isThrough s m args below meth c H locs cells slots (MQ below (Qm (some (.int res)) D (fun W9 => ∃ xc : XC, XP xc xB xo xh E ∧ W9 = ((zr_a, .inl (T.1, (60, .inl zr))) :: (za_a, .inl (T.1, (16, .inl za))) :: (zg_a, .inl (T.1, (2, .inl zg))) :: (XW T xa xc ++ PW T xB))) A) args s 46 828 A) (F0 m 19 ls [])) : ∀ s0 : Int32, ∀ s1 : Int32, ∀ x3 : Int32, ∀ x4 : Int32, ∀ x5 : Int32, ∀ x7 : Int32, ∀ x8 : Int32, f_L_isThrough_b70 zr E x2 K19 s0 s1 x3 x4 x5 x7 x8 = some res → ∀ (xc : XC), XP xc xB xo xh E → ∀ (H : Heap) (locs : List Loc), va_P D vwCl ((zr_a, .inl (T.1, (60, .inl zr))) :: (za_a, .inl (T.1, (16, .inl za))) :: (zg_a, .inl (T.1, (2, .inl zg))) :: (XW T xa xc ++ PW T xB)) H → va_D A ((zr_a, .inl (T.1, (60, .inl zr))) :: (za_a, .inl (T.1, (16, .inl za))) :: (zg_a, .inl (T.1, (2, .inl zg))) :: (XW T xa xc ++ PW T xB)) → va_S A s.heap H locs → ∀ ls : Array Slot, lv_has ls 9 [(0, .ref xa.1), (1, .ref zr_a), (2, .int x2), (3, .int x3), (4, .int x4), (5, .int x5), (7, .int x7), (8, .int x8)] → W p l e rmL_isThrough s m args below meth c H locs cells slots (MQ below (Qm (some (.int res)) D (fun W9 => ∃ xc : XC, XP xc xB xo xh E ∧ W9 = ((zr_a, .inl (T.1, (60, .inl zr))) :: (za_a, .inl (T.1, (16, .inl za))) :: (zg_a, .inl (T.1, (2, .inl zg))) :: (XW T xa xc ++ PW T xB))) A) args s 46 828 A) (F0 m 70 ls [.int s0, .int s1]) := by
  obtain ⟨hx, hb, hml, hown, hts, hr, hlocks, hK, hN⟩ := id C
  intro s0 s1 x3 x4 x5 x7 x8 hf xc hX H locs hP hD hS ls hl
  unfold f_L_isThrough_b70 at hf
  refine lv_iadd hx hb dL_isThrough_70 ?_
  obtain ⟨v71, e_71, hf⟩ := nm_some hf
  refine lv_nmi e_71 ?_
  refine lv_istore (lv' := [(6, .int v71), (0, .ref xa.1), (1, .ref zr_a), (2, .int x2), (3, .int x3), (4, .int x4), (5, .int x5), (7, .int x7), (8, .int x8)]) hx hb dL_isThrough_71 hl (by decide) rfl (fun ls hl => ?_)
  refine lv_iload hx hb dL_isThrough_73 (lv_at hl 5 rfl) ?_
  refine lv_if_lt (tgt := 88) hx hb dL_isThrough_75 (by decide) (fun c_75 => ?_) (fun c_75 => ?_)
  · have hf := it_pos c_75 hf
    exact w_L_isThrough_b88 hw C hA hcb hK19 _ _ _ _ hf _ hX _ _ hP hD hS _ (lv_sub hl [1, 2, 3, 4, 0, 7, 8] rfl)
  · have hf := it_neg c_75 hf
    refine lv_iload hx hb dL_isThrough_78 (lv_at hl 8 rfl) ?_
    refine lv_iload hx hb dL_isThrough_80 (lv_at hl 6 rfl) ?_
    refine lv_icmp_lt (tgt := 88) hx hb dL_isThrough_82 (by decide) (fun c_82 => ?_) (fun c_82 => ?_)
    · have hf := it_pos c_82 hf
      exact w_L_isThrough_b88 hw C hA hcb hK19 _ _ _ _ hf _ hX _ _ hP hD hS _ (lv_sub hl [1, 2, 3, 4, 0, 7, 8] rfl)
    · have hf := it_neg c_82 hf
      refine lv_goto (tgt := 96) hx hb dL_isThrough_85 (by decide) ?_
      exact w_L_isThrough_b96 hw C hA hcb hK19 _ _ _ _ _ hf _ hX _ _ hP hD hS _ (lv_sub hl [1, 2, 3, 4, 5, 6, 0, 7] rfl)
set_option maxHeartbeats 4000000 in
set_option maxRecDepth 100000 in
theorem w_L_isThrough_b150 {p : Program} {l : Launch} {e : Env} {s : State} {m : MethodId} {args : Array Value} {below : List Frame} {meth : Method} {c : Code} {D : va_G} {T : TY} {zr_a za_a zg_a : Nat} {xa : XA} {xB : Nat → Option DB} {xo xh : Nat} {zr : Nat → Int32} {za : Nat → Int32} {zg : Nat → Int32} {E : DR} {x2 : Int32} {res : Int32} (hw : WF E) (C : CX p s m args meth c cL_isThrough 9 RL wsL_isThrough (some .boolean) D T) {A : Nat → Prop} (hA : ∀ q, s.heap.size ≤ q → A q) {cells slots : Nat} (hcb : cells ≤ rmL_isThrough.cells ∧ slots ≤ rmL_isThrough.slots) : ∀ s0 : UInt64, ∀ s1 : UInt64, f_L_isThrough_b150 zr E x2 s0 s1 = some res → ∀ (xc : XC), XP xc xB xo xh E → ∀ (H : Heap) (locs : List Loc), va_P D vwCl ((zr_a, .inl (T.1, (60, .inl zr))) :: (za_a, .inl (T.1, (16, .inl za))) :: (zg_a, .inl (T.1, (2, .inl zg))) :: (XW T xa xc ++ PW T xB)) H → va_D A ((zr_a, .inl (T.1, (60, .inl zr))) :: (za_a, .inl (T.1, (16, .inl za))) :: (zg_a, .inl (T.1, (2, .inl zg))) :: (XW T xa xc ++ PW T xB)) → va_S A s.heap H locs → ∀ ls : Array Slot, lv_has ls 9 [] → W p l e rmL_isThrough s m args below meth c H locs cells slots (MQ below (Qm (some (.int res)) D (fun W9 => ∃ xc : XC, XP xc xB xo xh E ∧ W9 = ((zr_a, .inl (T.1, (60, .inl zr))) :: (za_a, .inl (T.1, (16, .inl za))) :: (zg_a, .inl (T.1, (2, .inl zg))) :: (XW T xa xc ++ PW T xB))) A) args s 46 828 A) (F0 m 150 ls [.double s0, .double s1]) := by
  obtain ⟨hx, hb, hml, hown, hts, hr, hlocks, hK, hN⟩ := id C
  intro s0 s1 hf xc hX H locs hP hD hS ls hl
  unfold f_L_isThrough_b150 at hf
  refine lv_dcmp hx hb dL_isThrough_150 ?_
  refine lv_if_ne (tgt := 158) hx hb dL_isThrough_151 (by decide) (fun c_151 => ?_) (fun c_151 => ?_)
  · have hf := it_neg c_151 hf
    refine lv_iconst (v := (0 : Int32)) hx hb dL_isThrough_158 (by decide) ?_
    obtain rfl := Option.some.inj hf
    refine W.widen (k := 46) (n := 828) (by have q1 : rmL_isThrough.cells = 46 := rfl; have q2 : rmL_isThrough.slots = 828 := rfl; omega) (by have q1 : rmL_isThrough.cells = 46 := rfl; have q2 : rmL_isThrough.slots = 828 := rfl; omega) ?_
    exact W.zret hx hb hr (by decide) (fun t ht hW => ⟨rfl, ⟨_, ⟨_, hX, rfl⟩, by rw [ht]; exact hP, hD⟩, hS.F ht⟩) hS.2.2 dL_isThrough_159 hlocks
  · have hf := it_pos c_151 hf
    refine lv_iconst (v := (1 : Int32)) hx hb dL_isThrough_154 (by decide) ?_
    refine lv_goto (tgt := 159) hx hb dL_isThrough_155 (by decide) ?_
    obtain rfl := Option.some.inj hf
    refine W.widen (k := 46) (n := 828) (by have q1 : rmL_isThrough.cells = 46 := rfl; have q2 : rmL_isThrough.slots = 828 := rfl; omega) (by have q1 : rmL_isThrough.cells = 46 := rfl; have q2 : rmL_isThrough.slots = 828 := rfl; omega) ?_
    exact W.zret hx hb hr (by decide) (fun t ht hW => ⟨rfl, ⟨_, ⟨_, hX, rfl⟩, by rw [ht]; exact hP, hD⟩, hS.F ht⟩) hS.2.2 dL_isThrough_159 hlocks
set_option maxHeartbeats 4000000 in
set_option maxRecDepth 100000 in
theorem w_L_isThrough_b19 {p : Program} {l : Launch} {e : Env} {s : State} {m : MethodId} {args : Array Value} {below : List Frame} {meth : Method} {c : Code} {D : va_G} {T : TY} {zr_a za_a zg_a : Nat} {xa : XA} {xB : Nat → Option DB} {xo xh : Nat} {zr : Nat → Int32} {za : Nat → Int32} {zg : Nat → Int32} {E : DR} {x2 : Int32} {res : Int32} (hw : WF E) (C : CX p s m args meth c cL_isThrough 9 RL wsL_isThrough (some .boolean) D T) {A : Nat → Prop} (hA : ∀ q, s.heap.size ≤ q → A q) : ∀ F : Nat, ∀ x3 : Int32, ∀ x4 : Int32, ∀ x5 : Int32, ∀ x6 : Int32, ∀ x7 : Int32, f_L_isThrough_b19 zr E x2 F x3 x4 x5 x6 x7 = some res → ∀ (cells slots : Nat), cells + 2 * F ≤ 46 → slots + 36 * F ≤ 828 → ∀ (xc : XC), XP xc xB xo xh E → ∀ (H : Heap) (locs : List Loc), va_P D vwCl ((zr_a, .inl (T.1, (60, .inl zr))) :: (za_a, .inl (T.1, (16, .inl za))) :: (zg_a, .inl (T.1, (2, .inl zg))) :: (XW T xa xc ++ PW T xB)) H → va_D A ((zr_a, .inl (T.1, (60, .inl zr))) :: (za_a, .inl (T.1, (16, .inl za))) :: (zg_a, .inl (T.1, (2, .inl zg))) :: (XW T xa xc ++ PW T xB)) → va_S A s.heap H locs → ∀ ls : Array Slot, lv_has ls 9 [(0, .ref xa.1), (1, .ref zr_a), (2, .int x2), (3, .int x3), (4, .int x4), (5, .int x5), (6, .int x6), (7, .int x7)] → W p l e rmL_isThrough s m args below meth c H locs cells slots (MQ below (Qm (some (.int res)) D (fun W9 => ∃ xc : XC, XP xc xB xo xh E ∧ W9 = ((zr_a, .inl (T.1, (60, .inl zr))) :: (za_a, .inl (T.1, (16, .inl za))) :: (zg_a, .inl (T.1, (2, .inl zg))) :: (XW T xa xc ++ PW T xB))) A) args s 46 828 A) (F0 m 19 ls []) := by
  obtain ⟨hx, hb, hml, hown, hts, hr, hlocks, hK, hN⟩ := id C
  intro F
  induction F with
  | zero => intro _ _ _ _ _ hf; cases hf
  | succ F ih =>
    intro x3 x4 x5 x6 x7 hf cells slots hc1 hc2 xc hX H locs hP hD hS ls hl
    unfold f_L_isThrough_b19 at hf
    have hcb : cells ≤ rmL_isThrough.cells ∧ slots ≤ rmL_isThrough.slots := by have q1 : rmL_isThrough.cells = 46 := rfl; have q2 : rmL_isThrough.slots = 828 := rfl; omega
    refine lv_iload hx hb dL_isThrough_19 (lv_at hl 7 rfl) ?_
    refine lv_iload_n hx hb dL_isThrough_21 rfl (lv_at hl 2 rfl) ?_
    refine lv_icmp_ge (tgt := 102) hx hb dL_isThrough_22 (by decide) (fun c_22 => ?_) (fun c_22 => ?_)
    · have hf := it_pos c_22 hf
      refine lv_aload_n hx hb dL_isThrough_102 rfl (lv_at hl 0 rfl) ?_
      refine lv_bipush (v := (6 : Int32)) hx hb dL_isThrough_103 (by decide) ?_
      obtain ⟨q105, e_105, hf⟩ := bd_some hf
      refine k_count ⟨by decide, by decide⟩ hK hN hA (a := xa) (R := [(zr_a, .inl (T.1, (60, .inl zr))), (za_a, .inl (T.1, (16, .inl za))), (zg_a, .inl (T.1, (2, .inl zg)))]) hX hw e_105 (fun H locs cells slots rm mc ms Pc Qc free hMt hrc hrs hR hpre hroom => va_runV (n := 1) (C := RX6) (b := xa.1) (As := [.int (6 : Int32)]) (rest := []) ⟨hx, hb, hml, hown, hts⟩ hMt (cwV 1 hts gL_isThrough_X6_count rfl hrc hrs hdV_X6_count hR) hpre rfl rfl hl.1 rfl (lv_room (Nat.le_of_ble_eq_true rfl)) dL_isThrough_105 hroom) ⟨hP, hD⟩ hS (by have q1 : rmL_isThrough.cells = 46 := rfl; have q2 : rmL_isThrough.slots = 828 := rfl; omega) (fun xc H locs hX hW hS => ?_)
      obtain ⟨hP, hD⟩ := hW
      have hP : va_P D vwCl ((zr_a, .inl (T.1, (60, .inl zr))) :: (za_a, .inl (T.1, (16, .inl za))) :: (zg_a, .inl (T.1, (2, .inl zg))) :: (XW T xa xc ++ PW T xB)) H := hP
      have hD : va_D A ((zr_a, .inl (T.1, (60, .inl zr))) :: (za_a, .inl (T.1, (16, .inl za))) :: (zg_a, .inl (T.1, (2, .inl zg))) :: (XW T xa xc ++ PW T xB)) := hD
      refine lv_iload_n hx hb dL_isThrough_108 rfl (lv_at hl 3 rfl) ?_
      refine lv_icmp_ne (tgt := 158) hx hb dL_isThrough_109 (by decide) (fun c_109 => ?_) (fun c_109 => ?_)
      · have hf := it_neg c_109 hf
        refine lv_iconst (v := (0 : Int32)) hx hb dL_isThrough_158 (by decide) ?_
        obtain rfl := Option.some.inj hf
        refine W.widen (k := 46) (n := 828) (by have q1 : rmL_isThrough.cells = 46 := rfl; have q2 : rmL_isThrough.slots = 828 := rfl; omega) (by have q1 : rmL_isThrough.cells = 46 := rfl; have q2 : rmL_isThrough.slots = 828 := rfl; omega) ?_
        exact W.zret hx hb hr (by decide) (fun t ht hW => ⟨rfl, ⟨_, ⟨_, hX, rfl⟩, by rw [ht]; exact hP, hD⟩, hS.F ht⟩) hS.2.2 dL_isThrough_159 hlocks
      · have hf := it_pos c_109 hf
        refine lv_aload_n hx hb dL_isThrough_112 rfl (lv_at hl 0 rfl) ?_
        refine lv_bipush (v := (7 : Int32)) hx hb dL_isThrough_113 (by decide) ?_
        obtain ⟨q115, e_115, hf⟩ := bd_some hf
        refine k_count ⟨by decide, by decide⟩ hK hN hA (a := xa) (R := [(zr_a, .inl (T.1, (60, .inl zr))), (za_a, .inl (T.1, (16, .inl za))), (zg_a, .inl (T.1, (2, .inl zg)))]) hX hw e_115 (fun H locs cells slots rm mc ms Pc Qc free hMt hrc hrs hR hpre hroom => va_runV (n := 1) (C := RX6) (b := xa.1) (As := [.int (7 : Int32)]) (rest := []) ⟨hx, hb, hml, hown, hts⟩ hMt (cwV 1 hts gL_isThrough_X6_count rfl hrc hrs hdV_X6_count hR) hpre rfl rfl hl.1 rfl (lv_room (Nat.le_of_ble_eq_true rfl)) dL_isThrough_115 hroom) ⟨hP, hD⟩ hS (by have q1 : rmL_isThrough.cells = 46 := rfl; have q2 : rmL_isThrough.slots = 828 := rfl; omega) (fun xc H locs hX hW hS => ?_)
        obtain ⟨hP, hD⟩ := hW
        have hP : va_P D vwCl ((zr_a, .inl (T.1, (60, .inl zr))) :: (za_a, .inl (T.1, (16, .inl za))) :: (zg_a, .inl (T.1, (2, .inl zg))) :: (XW T xa xc ++ PW T xB)) H := hP
        have hD : va_D A ((zr_a, .inl (T.1, (60, .inl zr))) :: (za_a, .inl (T.1, (16, .inl za))) :: (zg_a, .inl (T.1, (2, .inl zg))) :: (XW T xa xc ++ PW T xB)) := hD
        refine lv_iload_n hx hb dL_isThrough_118 rfl (lv_at hl 3 rfl) ?_
        refine lv_icmp_ne (tgt := 158) hx hb dL_isThrough_119 (by decide) (fun c_119 => ?_) (fun c_119 => ?_)
        · have hf := it_neg c_119 hf
          refine lv_iconst (v := (0 : Int32)) hx hb dL_isThrough_158 (by decide) ?_
          obtain rfl := Option.some.inj hf
          refine W.widen (k := 46) (n := 828) (by have q1 : rmL_isThrough.cells = 46 := rfl; have q2 : rmL_isThrough.slots = 828 := rfl; omega) (by have q1 : rmL_isThrough.cells = 46 := rfl; have q2 : rmL_isThrough.slots = 828 := rfl; omega) ?_
          exact W.zret hx hb hr (by decide) (fun t ht hW => ⟨rfl, ⟨_, ⟨_, hX, rfl⟩, by rw [ht]; exact hP, hD⟩, hS.F ht⟩) hS.2.2 dL_isThrough_159 hlocks
        · have hf := it_pos c_119 hf
          refine lv_aload_n hx hb dL_isThrough_122 rfl (lv_at hl 0 rfl) ?_
          obtain ⟨q123, e_123, hf⟩ := bd_some hf
          refine k_mainRibbon ⟨by decide, by decide⟩ hK hN hA (a := xa) (R := [(zr_a, .inl (T.1, (60, .inl zr))), (za_a, .inl (T.1, (16, .inl za))), (zg_a, .inl (T.1, (2, .inl zg)))]) hX hw e_123 (fun H locs cells slots rm mc ms Pc Qc free hMt hrc hrs hR hpre hroom => va_runV (n := 0) (C := RX6) (b := xa.1) (As := []) (rest := []) ⟨hx, hb, hml, hown, hts⟩ hMt (cwV 0 hts gL_isThrough_X6_mainRibbon rfl hrc hrs hdV_X6_mainRibbon hR) hpre rfl rfl hl.1 rfl (lv_room (Nat.le_of_ble_eq_true rfl)) dL_isThrough_123 hroom) ⟨hP, hD⟩ hS (by have q1 : rmL_isThrough.cells = 46 := rfl; have q2 : rmL_isThrough.slots = 828 := rfl; omega) (fun xc H locs hX hW hS => ?_)
          obtain ⟨hP, hD⟩ := hW
          have hP : va_P D vwCl ((zr_a, .inl (T.1, (60, .inl zr))) :: (za_a, .inl (T.1, (16, .inl za))) :: (zg_a, .inl (T.1, (2, .inl zg))) :: (XW T xa xc ++ PW T xB)) H := hP
          have hD : va_D A ((zr_a, .inl (T.1, (60, .inl zr))) :: (za_a, .inl (T.1, (16, .inl za))) :: (zg_a, .inl (T.1, (2, .inl zg))) :: (XW T xa xc ++ PW T xB)) := hD
          refine lv_iload hx hb dL_isThrough_126 (lv_at hl 4 rfl) ?_
          refine lv_icmp_ne (tgt := 158) hx hb dL_isThrough_128 (by decide) (fun c_128 => ?_) (fun c_128 => ?_)
          · have hf := it_neg c_128 hf
            refine lv_iconst (v := (0 : Int32)) hx hb dL_isThrough_158 (by decide) ?_
            obtain rfl := Option.some.inj hf
            refine W.widen (k := 46) (n := 828) (by have q1 : rmL_isThrough.cells = 46 := rfl; have q2 : rmL_isThrough.slots = 828 := rfl; omega) (by have q1 : rmL_isThrough.cells = 46 := rfl; have q2 : rmL_isThrough.slots = 828 := rfl; omega) ?_
            exact W.zret hx hb hr (by decide) (fun t ht hW => ⟨rfl, ⟨_, ⟨_, hX, rfl⟩, by rw [ht]; exact hP, hD⟩, hS.F ht⟩) hS.2.2 dL_isThrough_159 hlocks
          · have hf := it_pos c_128 hf
            refine lv_aload_n hx hb dL_isThrough_131 rfl (lv_at hl 0 rfl) ?_
            obtain ⟨q132, e_132, hf⟩ := bd_some hf
            refine k_throughShare ⟨by decide, by decide⟩ hK hN hA (a := xa) (R := [(zr_a, .inl (T.1, (60, .inl zr))), (za_a, .inl (T.1, (16, .inl za))), (zg_a, .inl (T.1, (2, .inl zg)))]) hX hw e_132 (fun H locs cells slots rm mc ms Pc Qc free hMt hrc hrs hR hpre hroom => va_runV (n := 0) (C := RX6) (b := xa.1) (As := []) (rest := []) ⟨hx, hb, hml, hown, hts⟩ hMt (cwV 0 hts gL_isThrough_X6_throughShare rfl hrc hrs hdV_X6_throughShare hR) hpre rfl rfl hl.1 rfl (lv_room (Nat.le_of_ble_eq_true rfl)) dL_isThrough_132 hroom) ⟨hP, hD⟩ hS (by have q1 : rmL_isThrough.cells = 46 := rfl; have q2 : rmL_isThrough.slots = 828 := rfl; omega) (fun xc H locs hX hW hS => ?_)
            obtain ⟨hP, hD⟩ := hW
            have hP : va_P D vwCl ((zr_a, .inl (T.1, (60, .inl zr))) :: (za_a, .inl (T.1, (16, .inl za))) :: (zg_a, .inl (T.1, (2, .inl zg))) :: (XW T xa xc ++ PW T xB)) H := hP
            have hD : va_D A ((zr_a, .inl (T.1, (60, .inl zr))) :: (za_a, .inl (T.1, (16, .inl za))) :: (zg_a, .inl (T.1, (2, .inl zg))) :: (XW T xa xc ++ PW T xB)) := hD
            refine lv_iload hx hb dL_isThrough_135 (lv_at hl 6 rfl) ?_
            refine lv_if_ne (tgt := 144) hx hb dL_isThrough_137 (by decide) (fun c_137 => ?_) (fun c_137 => ?_)
            · have hf := it_neg c_137 hf
              refine lv_iload_n hx hb dL_isThrough_144 rfl (lv_at hl 3 rfl) ?_
              refine lv_i2d hx hb dL_isThrough_145 ?_
              refine lv_iload hx hb dL_isThrough_146 (lv_at hl 6 rfl) ?_
              refine lv_i2d hx hb dL_isThrough_148 ?_
              obtain ⟨g_149, hf⟩ := gd_some hf
              refine lv_ddiv hx hb dL_isThrough_149 (nn_ok g_149) ?_
              exact w_L_isThrough_b150 hw C hA (by have q1 : rmL_isThrough.cells = 46 := rfl; have q2 : rmL_isThrough.slots = 828 := rfl; omega) _ _ hf _ hX _ _ hP hD hS _ (lv_sub hl [] rfl)
            · have hf := it_pos c_137 hf
              refine lv_dconst1 hx hb dL_isThrough_140 ?_
              refine lv_goto (tgt := 150) hx hb dL_isThrough_141 (by decide) ?_
              exact w_L_isThrough_b150 hw C hA (by have q1 : rmL_isThrough.cells = 46 := rfl; have q2 : rmL_isThrough.slots = 828 := rfl; omega) _ _ hf _ hX _ _ hP hD hS _ (lv_sub hl [] rfl)
    · have hf := it_neg c_22 hf
      refine lv_aload_n hx hb dL_isThrough_25 rfl (lv_at hl 1 rfl) ?_
      refine lv_iload hx hb dL_isThrough_26 (lv_at hl 7 rfl) ?_
      obtain ⟨q28, e_28, hf⟩ := bd_some hf
      refine callPi (va_runS (As := [.ref zr_a, .int x7]) (rest := []) ⟨hx, hb, hml, hown, hts⟩ (c_L_goesOn l D T zr_a zr x7 q28 e_28) (va_cwS 2 hts gL_isThrough_L_goesOn rfl rfl rfl hdS_L_goesOn ⟨Nat.le_of_ble_eq_true rfl, Nat.le_of_ble_eq_true rfl⟩) (preBS (hP.sub (ws' := [(zr_a, .inl (T.1, (60, .inl zr)))]) [0] rfl) hK hN) rfl rfl hl.1 rfl (lv_room (Nat.le_of_ble_eq_true rfl)) dL_isThrough_28 hcb) ?_
      refine lv_if_ne (tgt := 37) hx hb dL_isThrough_31 (by decide) (fun c_31 => ?_) (fun c_31 => ?_)
      · have hf := it_neg c_31 hf
        refine lv_aload_n hx hb dL_isThrough_37 rfl (lv_at hl 1 rfl) ?_
        refine lv_iload_n hx hb dL_isThrough_38 rfl (lv_at hl 2 rfl) ?_
        refine lv_iload hx hb dL_isThrough_39 (lv_at hl 7 rfl) ?_
        obtain ⟨q41, e_41, hf⟩ := bd_some hf
        refine callLi (wr := ((za_a, .inl (T.1, (16, .inl za))) :: (zg_a, .inl (T.1, (2, .inl zg))) :: (XW T xa xc ++ PW T xB))) (va_runS (As := [.ref zr_a, .int x2, .int x7]) (rest := []) ⟨hx, hb, hml, hown, hts⟩ (c_L_through l D T zr_a zr x2 x7 q41 e_41 H.size) (va_cwS 3 hts gL_isThrough_L_through rfl rfl rfl hdS_L_through ⟨Nat.le_of_ble_eq_true rfl, Nat.le_of_ble_eq_true rfl⟩) (preMS (hP.sub [0] rfl) (hD.sub [0] rfl rfl) hK hN) rfl rfl hl.1 rfl (lv_room (Nat.le_of_ble_eq_true rfl)) dL_isThrough_41 (by have q1 : rmL_isThrough.cells = 46 := rfl; have q2 : rmL_isThrough.slots = 828 := rfl; omega)) ⟨hP, hD⟩ hS hA (fun W9 H locs hw9 hW hS => ?_)
        subst hw9
        obtain ⟨hP, hD⟩ := hW
        have hP : va_P D vwCl ((zr_a, .inl (T.1, (60, .inl zr))) :: (za_a, .inl (T.1, (16, .inl za))) :: (zg_a, .inl (T.1, (2, .inl zg))) :: (XW T xa xc ++ PW T xB)) H := hP
        have hD : va_D A ((zr_a, .inl (T.1, (60, .inl zr))) :: (za_a, .inl (T.1, (16, .inl za))) :: (zg_a, .inl (T.1, (2, .inl zg))) :: (XW T xa xc ++ PW T xB)) := hD
        refine W.widen (k := cells + 2) (n := slots + 36) (by omega) (by omega) ?_
        refine lv_istore (lv' := [(8, .int q41), (0, .ref xa.1), (1, .ref zr_a), (2, .int x2), (3, .int x3), (4, .int x4), (5, .int x5), (6, .int x6), (7, .int x7)]) hx hb dL_isThrough_44 hl (by decide) rfl (fun ls hl => ?_)
        refine lv_iload hx hb dL_isThrough_46 (lv_at hl 7 rfl) ?_
        refine lv_aload_n hx hb dL_isThrough_48 rfl (lv_at hl 2 rfl) ?_
        refine lv_iconst (v := (3 : Int32)) hx hb dL_isThrough_49 (by decide) ?_
        refine lv_iload hx hb dL_isThrough_50 (lv_at hl 8 rfl) ?_
        refine lv_imul hx hb dL_isThrough_52 ?_
        obtain ⟨g_53, hf⟩ := gd_some hf
        refine va_iald (D := D) hx hb hK hP 0 0 rfl rfl (gd_in g_53) dL_isThrough_53 ?_
        refine lv_iconst (v := (4 : Int32)) hx hb dL_isThrough_54 (by decide) ?_
        refine lv_icmp_ge (tgt := 69) hx hb dL_isThrough_55 (by decide) (fun c_55 => ?_) (fun c_55 => ?_)
        · have hf := it_pos c_55 hf
          refine lv_iconst (v := (0 : Int32)) hx hb dL_isThrough_69 (by decide) ?_
          exact w_L_isThrough_b70 hw C hA (by have q1 : rmL_isThrough.cells = 46 := rfl; have q2 : rmL_isThrough.slots = 828 := rfl; omega) (fun v0 v1 v2 v3 v4 hf c9 X9 H1 l1 p1 d1 s1 ls hl => ih v0 v1 v2 v3 v4 hf _ _ (by omega) (by omega) c9 X9 H1 l1 p1 d1 s1 ls hl) _ _ _ _ _ _ _ hf _ hX _ _ hP hD hS _ (lv_sub hl [1, 2, 3, 4, 5, 6, 8, 0] rfl)
        · have hf := it_neg c_55 hf
          refine lv_aload_n hx hb dL_isThrough_58 rfl (lv_at hl 2 rfl) ?_
          refine lv_iconst (v := (3 : Int32)) hx hb dL_isThrough_59 (by decide) ?_
          refine lv_iload hx hb dL_isThrough_60 (lv_at hl 8 rfl) ?_
          refine lv_imul hx hb dL_isThrough_62 ?_
          refine lv_iconst (v := (2 : Int32)) hx hb dL_isThrough_63 (by decide) ?_
          refine lv_iadd hx hb dL_isThrough_64 ?_
          obtain ⟨g_65, hf⟩ := gd_some hf
          refine va_iald (D := D) hx hb hK hP 0 0 rfl rfl (gd_in g_65) dL_isThrough_65 ?_
          refine lv_goto (tgt := 70) hx hb dL_isThrough_66 (by decide) ?_
          exact w_L_isThrough_b70 hw C hA (by have q1 : rmL_isThrough.cells = 46 := rfl; have q2 : rmL_isThrough.slots = 828 := rfl; omega) (fun v0 v1 v2 v3 v4 hf c9 X9 H1 l1 p1 d1 s1 ls hl => ih v0 v1 v2 v3 v4 hf _ _ (by omega) (by omega) c9 X9 H1 l1 p1 d1 s1 ls hl) _ _ _ _ _ _ _ hf _ hX _ _ hP hD hS _ (lv_sub hl [1, 2, 3, 4, 5, 6, 8, 0] rfl)
      · have hf := it_pos c_31 hf
        refine lv_goto (tgt := 96) hx hb dL_isThrough_34 (by decide) ?_
        exact w_L_isThrough_b96 hw C hA (by have q1 : rmL_isThrough.cells = 46 := rfl; have q2 : rmL_isThrough.slots = 828 := rfl; omega) (fun v0 v1 v2 v3 v4 hf c9 X9 H1 l1 p1 d1 s1 ls hl => ih v0 v1 v2 v3 v4 hf _ _ (by omega) (by omega) c9 X9 H1 l1 p1 d1 s1 ls hl) _ _ _ _ _ hf _ hX _ _ hP hD hS _ (lv_sub hl [0, 1, 2, 3, 4, 5, 6, 7] rfl)
set_option maxHeartbeats 4000000 in
set_option maxRecDepth 100000 in
theorem w_L_isThrough_b0 {p : Program} {l : Launch} {e : Env} {s : State} {m : MethodId} {args : Array Value} {below : List Frame} {meth : Method} {c : Code} {D : va_G} {T : TY} {zr_a za_a zg_a : Nat} {xa : XA} {xB : Nat → Option DB} {xo xh : Nat} {zr : Nat → Int32} {za : Nat → Int32} {zg : Nat → Int32} {E : DR} {x2 : Int32} {res : Int32} (hw : WF E) (C : CX p s m args meth c cL_isThrough 9 RL wsL_isThrough (some .boolean) D T) {A : Nat → Prop} (hA : ∀ q, s.heap.size ≤ q → A q) : f_L_isThrough zr E x2 = some res → ∀ (xc : XC), XP xc xB xo xh E → ∀ (H : Heap) (locs : List Loc), va_P D vwCl ((zr_a, .inl (T.1, (60, .inl zr))) :: (za_a, .inl (T.1, (16, .inl za))) :: (zg_a, .inl (T.1, (2, .inl zg))) :: (XW T xa xc ++ PW T xB)) H → va_D A ((zr_a, .inl (T.1, (60, .inl zr))) :: (za_a, .inl (T.1, (16, .inl za))) :: (zg_a, .inl (T.1, (2, .inl zg))) :: (XW T xa xc ++ PW T xB)) → va_S A s.heap H locs → ∀ ls : Array Slot, lv_has ls 9 [(0, .ref xa.1), (1, .ref zr_a), (2, .int x2)] → W p l e rmL_isThrough s m args below meth c H locs 0 0 (MQ below (Qm (some (.int res)) D (fun W9 => ∃ xc : XC, XP xc xB xo xh E ∧ W9 = ((zr_a, .inl (T.1, (60, .inl zr))) :: (za_a, .inl (T.1, (16, .inl za))) :: (zg_a, .inl (T.1, (2, .inl zg))) :: (XW T xa xc ++ PW T xB))) A) args s 46 828 A) (F0 m 0 ls []) := by
  obtain ⟨hx, hb, hml, hown, hts, hr, hlocks, hK, hN⟩ := id C
  intro  hf xc hX H locs hP hD hS ls hl
  unfold f_L_isThrough at hf
  refine lv_aload_n hx hb dL_isThrough_0 rfl (lv_at hl 1 rfl) ?_
  refine lv_iload_n hx hb dL_isThrough_1 rfl (lv_at hl 2 rfl) ?_
  refine lv_iconst (v := (-1 : Int32)) hx hb dL_isThrough_2 (by decide) ?_
  obtain ⟨q3, e_3, hf⟩ := bd_some hf
  refine callLi (wr := ((za_a, .inl (T.1, (16, .inl za))) :: (zg_a, .inl (T.1, (2, .inl zg))) :: (XW T xa xc ++ PW T xB))) (va_runS (As := [.ref zr_a, .int x2, .int (-1 : Int32)]) (rest := []) ⟨hx, hb, hml, hown, hts⟩ (c_L_through l D T zr_a zr x2 (-1 : Int32) q3 e_3 H.size) (va_cwS 3 hts gL_isThrough_L_through rfl rfl rfl hdS_L_through ⟨Nat.le_of_ble_eq_true rfl, Nat.le_of_ble_eq_true rfl⟩) (preMS (hP.sub [0] rfl) (hD.sub [0] rfl rfl) hK hN) rfl rfl hl.1 rfl (lv_room (Nat.le_of_ble_eq_true rfl)) dL_isThrough_3 ⟨Nat.le_of_ble_eq_true rfl, Nat.le_of_ble_eq_true rfl⟩) ⟨hP, hD⟩ hS hA (fun W9 H locs hw9 hW hS => ?_)
  subst hw9
  obtain ⟨hP, hD⟩ := hW
  have hP : va_P D vwCl ((zr_a, .inl (T.1, (60, .inl zr))) :: (za_a, .inl (T.1, (16, .inl za))) :: (zg_a, .inl (T.1, (2, .inl zg))) :: (XW T xa xc ++ PW T xB)) H := hP
  have hD : va_D A ((zr_a, .inl (T.1, (60, .inl zr))) :: (za_a, .inl (T.1, (16, .inl za))) :: (zg_a, .inl (T.1, (2, .inl zg))) :: (XW T xa xc ++ PW T xB)) := hD
  refine W.widen (k := 2) (n := 36) (by decide) (by decide) ?_
  refine lv_istore_n (lv' := [(3, .int q3), (0, .ref xa.1), (1, .ref zr_a), (2, .int x2)]) hx hb dL_isThrough_6 rfl hl (by decide) rfl (fun ls hl => ?_)
  refine lv_iconst (v := (-1 : Int32)) hx hb dL_isThrough_7 (by decide) ?_
  refine lv_istore (lv' := [(4, .int (-1 : Int32)), (3, .int q3), (0, .ref xa.1), (1, .ref zr_a), (2, .int x2)]) hx hb dL_isThrough_8 hl (by decide) rfl (fun ls hl => ?_)
  refine lv_iconst (v := (0 : Int32)) hx hb dL_isThrough_10 (by decide) ?_
  refine lv_istore (lv' := [(5, .int (0 : Int32)), (4, .int (-1 : Int32)), (3, .int q3), (0, .ref xa.1), (1, .ref zr_a), (2, .int x2)]) hx hb dL_isThrough_11 hl (by decide) rfl (fun ls hl => ?_)
  refine lv_iconst (v := (0 : Int32)) hx hb dL_isThrough_13 (by decide) ?_
  refine lv_istore (lv' := [(6, .int (0 : Int32)), (5, .int (0 : Int32)), (4, .int (-1 : Int32)), (3, .int q3), (0, .ref xa.1), (1, .ref zr_a), (2, .int x2)]) hx hb dL_isThrough_14 hl (by decide) rfl (fun ls hl => ?_)
  refine lv_iconst (v := (0 : Int32)) hx hb dL_isThrough_16 (by decide) ?_
  refine lv_istore (lv' := [(7, .int (0 : Int32)), (6, .int (0 : Int32)), (5, .int (0 : Int32)), (4, .int (-1 : Int32)), (3, .int q3), (0, .ref xa.1), (1, .ref zr_a), (2, .int x2)]) hx hb dL_isThrough_17 hl (by decide) rfl (fun ls hl => ?_)
  exact w_L_isThrough_b19 hw C hA _ _ _ _ _ _ hf 2 36 (by decide) (by decide) _ hX _ _ hP hD hS _ (lv_sub hl [5, 6, 7, 4, 3, 2, 1, 0] rfl)
theorem c_L_isThrough (l : Launch) (D : va_G) (T : TY) (zr_a za_a zg_a : Nat) (xa : XA) (zr : Nat → Int32) (za : Nat → Int32) (zg : Nat → Int32) (E : DR) (x2 : Int32) (res : Int32) (hf : f_L_isThrough zr E x2 = some res) (xc : XC) (xB : Nat → Option DB) (xo xh : Nat) (hX : XP xc xB xo xh E) (hw : WF E) (sz : Nat) : Met l yL_isThrough wsL_isThrough rmL_isThrough (va_Pc [.ref xa.1, .ref zr_a, .int x2] (PM D T ((zr_a, .inl (T.1, (60, .inl zr))) :: (za_a, .inl (T.1, (16, .inl za))) :: (zg_a, .inl (T.1, (2, .inl zg))) :: (XW T xa xc ++ PW T xB)) sz)) (Qm (some (.int res)) D (fun W9 => ∃ xc : XC, XP xc xB xo xh E ∧ W9 = ((zr_a, .inl (T.1, (60, .inl zr))) :: (za_a, .inl (T.1, (16, .inl za))) :: (zg_a, .inl (T.1, (2, .inl zg))) :: (XW T xa xc ++ PW T xB))) (va_A ((zr_a, .inl (T.1, (60, .inl zr))) :: (za_a, .inl (T.1, (16, .inl za))) :: (zg_a, .inl (T.1, (2, .inl zg))) :: (XW T xa xc ++ PW T xB)) sz)) 46 828 (va_A ((zr_a, .inl (T.1, (60, .inl zr))) :: (za_a, .inl (T.1, (16, .inl za))) :: (zg_a, .inl (T.1, (2, .inl zg))) :: (XW T xa xc ++ PW T xB)) sz) :=
  metM_of (by decide +kernel) rfl (Nat.le_of_ble_eq_true rfl) (fun p e s m args below meth c C hnm A hA hP hD ls hl => w_L_isThrough_b0 hw C hA hf _ hX _ _ hP hD va_S.rf ls hl)
