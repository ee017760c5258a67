/-! ===== walks, laid by wip/gen28/genlaw28.py: L_arePosts ===== -/
def rmL_arePosts : Room := { frames := 10, cells := 0, slots := 0, locals := 200 }
theorem hdS_L_arePosts : yL_arePosts.cls ≠ "java/lang/invoke/MethodHandle" ∧ yL_arePosts.cls ≠ "java/lang/invoke/VarHandle" ∧ (parseMethodDescriptor yL_arePosts.desc).map (fun d => d.parameters.length) = some 4 := by decide +kernel
theorem mw_L_arePosts_0 : Cond.static yL_goesOn ∈ wsL_arePosts := by decide +kernel
theorem mw_L_arePosts_1 : Cond.static yL_side ∈ wsL_arePosts := by decide +kernel
set_option maxHeartbeats 4000000 in
set_option maxRecDepth 100000 in
theorem w_L_arePosts_b150 {p : Program} {l : Launch} {e : Env} {s : State} {m : MethodId} {args : Array Value} {below : List Frame} {meth : Method} {c : Code} {D : va_G} {T : TY} {zr_a za_a zg_a : Nat} {xa : XA} {xB : Nat → Option DB} {xo xh : Nat} {zr : Nat → Int32} {za : Nat → Int32} {zg : Nat → Int32} {E : DR} {x3 : Int32} {res : Int32} {K3 : Int32 → Option (Int32)} {K42 : Int32 → Int32 → Int32 → Int32 → Int32 → Int32 → Int32 → Option (Int32)} (hw : WF E) (C : CX p s m args meth c cL_arePosts 11 RL wsL_arePosts (some .boolean) D T) {A : Nat → Prop} (hA : ∀ q, s.heap.size ≤ q → A q) (hK3 : ∀ x4 : Int32, K3 x4 = some res → ∀ (xc : XC), XP xc xB xo xh E → ∀ (H : Heap) (locs : List Loc), va_P D vwCl ((zr_a, .inl (T.1, (60, .inl zr))) :: (za_a, .inl (T.1, (16, .inl za))) :: (zg_a, .inl (T.1, (2, .inl zg))) :: (XW T xa xc ++ PW T xB)) H → va_D A ((zr_a, .inl (T.1, (60, .inl zr))) :: (za_a, .inl (T.1, (16, .inl za))) :: (zg_a, .inl (T.1, (2, .inl zg))) :: (XW T xa xc ++ PW T xB)) → va_S A s.heap H locs → ∀ ls : Array Slot, lv_has ls 11 [(0, .ref xa.1), (1, .ref zr_a), (2, .ref za_a), (3, .int x3), (4, .int x4)] → W p l e rmL_arePosts s m args below meth c H locs 0 0 (MQ below (Qm (some (.int res)) D (fun W9 => ∃ xc : XC, XP xc xB xo xh E ∧ W9 = ((zr_a, .inl (T.1, (60, .inl zr))) :: (za_a, .inl (T.1, (16, .inl za))) :: (zg_a, .inl (T.1, (2, .inl zg))) :: (XW T xa xc ++ PW T xB))) A) args s 0 0 A) (F0 m 3 ls [])) (hK42 : ∀ x4 : Int32, ∀ x5 : Int32, ∀ x6 : Int32, ∀ x7 : Int32, ∀ x8 : Int32, ∀ x9 : Int32, ∀ x10 : Int32, K42 x4 x5 x6 x7 x8 x9 x10 = some res → ∀ (xc : XC), XP xc xB xo xh E → ∀ (H : Heap) (locs : List Loc), va_P D vwCl ((zr_a, .inl (T.1, (60, .inl zr))) :: (za_a, .inl (T.1, (16, .inl za))) :: (zg_a, .inl (T.1, (2, .inl zg))) :: (XW T xa xc ++ PW T xB)) H → va_D A ((zr_a, .inl (T.1, (60, .inl zr))) :: (za_a, .inl (T.1, (16, .inl za))) :: (zg_a, .inl (T.1, (2, .inl zg))) :: (XW T xa xc ++ PW T xB)) → va_S A s.heap H locs → ∀ ls : Array Slot, lv_has ls 11 [(0, .ref xa.1), (1, .ref zr_a), (2, .ref za_a), (3, .int x3), (4, .int x4), (5, .int x5), (6, .int x6), (7, .int x7), (8, .int x8), (9, .int x9), (10, .int x10)] → W p l e rmL_arePosts s m args below meth c H locs 0 0 (MQ below (Qm (some (.int res)) D (fun W9 => ∃ xc : XC, XP xc xB xo xh E ∧ W9 = ((zr_a, .inl (T.1, (60, .inl zr))) :: (za_a, .inl (T.1, (16, .inl za))) :: (zg_a, .inl (T.1, (2, .inl zg))) :: (XW T xa xc ++ PW T xB))) A) args s 0 0 A) (F0 m 42 ls [])) : ∀ s0 : Int32, ∀ s1 : Int32, ∀ x4 : Int32, ∀ x5 : Int32, ∀ x6 : Int32, ∀ x7 : Int32, ∀ x8 : Int32, ∀ x10 : Int32, f_L_arePosts_b150 zr za E x3 K3 K42 s0 s1 x4 x5 x6 x7 x8 x10 = some res → ∀ (xc : XC), XP xc xB xo xh E → ∀ (H : Heap) (locs : List Loc), va_P D vwCl ((zr_a, .inl (T.1, (60, .inl zr))) :: (za_a, .inl (T.1, (16, .inl za))) :: (zg_a, .inl (T.1, (2, .inl zg))) :: (XW T xa xc ++ PW T xB)) H → va_D A ((zr_a, .inl (T.1, (60, .inl zr))) :: (za_a, .inl (T.1, (16, .inl za))) :: (zg_a, .inl (T.1, (2, .inl zg))) :: (XW T xa xc ++ PW T xB)) → va_S A s.heap H locs → ∀ ls : Array Slot, lv_has ls 11 [(0, .ref xa.1), (1, .ref zr_a), (2, .ref za_a), (3, .int x3), (4, .int x4), (5, .int x5), (6, .int x6), (7, .int x7), (8, .int x8), (10, .int x10)] → W p l e rmL_arePosts s m args below meth c H locs 0 0 (MQ below (Qm (some (.int res)) D (fun W9 => ∃ xc : XC, XP xc xB xo xh E ∧ W9 = ((zr_a, .inl (T.1, (60, .inl zr))) :: (za_a, .inl (T.1, (16, .inl za))) :: (zg_a, .inl (T.1, (2, .inl zg))) :: (XW T xa xc ++ PW T xB))) A) args s 0 0 A) (F0 m 150 ls [.int s0, .int s1]) := by
  obtain ⟨hx, hb, hml, hown, hts, hr, hlocks, hK, hN⟩ := id C
  intro s0 s1 x4 x5 x6 x7 x8 x10 hf xc hX H locs hP hD hS ls hl
  unfold f_L_arePosts_b150 at hf
  refine lv_iadd hx hb dL_arePosts_150 ?_
  obtain ⟨v151, e_151, hf⟩ := nm_some hf
  refine lv_nmi e_151 ?_
  refine lv_istore (lv' := [(9, .int v151), (0, .ref xa.1), (1, .ref zr_a), (2, .ref za_a), (3, .int x3), (4, .int x4), (5, .int x5), (6, .int x6), (7, .int x7), (8, .int x8), (10, .int x10)]) hx hb dL_arePosts_151 hl (by decide) rfl (fun ls hl => ?_)
  obtain ⟨v153, e_153, hf⟩ := nm_some hf
  refine lv_iinc (v := v153) (lv' := [(10, .int v153), (9, .int v151), (0, .ref xa.1), (1, .ref zr_a), (2, .ref za_a), (3, .int x3), (4, .int x4), (5, .int x5), (6, .int x6), (7, .int x7), (8, .int x8)]) hx hb dL_arePosts_153 hl (k := 10) rfl (by rw [e_153]; rfl) (by decide) rfl (fun ls hl => ?_)
  refine lv_goto (tgt := 42) hx hb dL_arePosts_156 (by decide) ?_
  exact hK42 _ _ _ _ _ _ _ hf _ hX _ _ hP hD hS _ (lv_sub hl [2, 3, 4, 5, 6, 7, 8, 9, 10, 1, 0] rfl)
set_option maxHeartbeats 4000000 in
set_option maxRecDepth 100000 in
theorem w_L_arePosts_b145 {p : Program} {l : Launch} {e : Env} {s : State} {m : MethodId} {args : Array Value} {below : List Frame} {meth : Method} {c : Code} {D : va_G} {T : TY} {zr_a za_a zg_a : Nat} {xa : XA} {xB : Nat → Option DB} {xo xh : Nat} {zr : Nat → Int32} {za : Nat → Int32} {zg : Nat → Int32} {E : DR} {x3 : Int32} {res : Int32} {K3 : Int32 → Option (Int32)} {K42 : Int32 → Int32 → Int32 → Int32 → Int32 → Int32 → Int32 → Option (Int32)} (hw : WF E) (C : CX p s m args meth c cL_arePosts 11 RL wsL_arePosts (some .boolean) D T) {A : Nat → Prop} (hA : ∀ q, s.heap.size ≤ q → A q) (hK3 : ∀ x4 : Int32, K3 x4 = some res → ∀ (xc : XC), XP xc xB xo xh E → ∀ (H : Heap) (locs : List Loc), va_P D vwCl ((zr_a, .inl (T.1, (60, .inl zr))) :: (za_a, .inl (T.1, (16, .inl za))) :: (zg_a, .inl (T.1, (2, .inl zg))) :: (XW T xa xc ++ PW T xB)) H → va_D A ((zr_a, .inl (T.1, (60, .inl zr))) :: (za_a, .inl (T.1, (16, .inl za))) :: (zg_a, .inl (T.1, (2, .inl zg))) :: (XW T xa xc ++ PW T xB)) → va_S A s.heap H locs → ∀ ls : Array Slot, lv_has ls 11 [(0, .ref xa.1), (1, .ref zr_a), (2, .ref za_a), (3, .int x3), (4, .int x4)] → W p l e rmL_arePosts s m args below meth c H locs 0 0 (MQ below (Qm (some (.int res)) D (fun W9 => ∃ xc : XC, XP xc xB xo xh E ∧ W9 = ((zr_a, .inl (T.1, (60, .inl zr))) :: (za_a, .inl (T.1, (16, .inl za))) :: (zg_a, .inl (T.1, (2, .inl zg))) :: (XW T xa xc ++ PW T xB))) A) args s 0 0 A) (F0 m 3 ls [])) (hK42 : ∀ x4 : Int32, ∀ x5 : Int32, ∀ x6 : Int32, ∀ x7 : Int32, ∀ x8 : Int32, ∀ x9 : Int32, ∀ x10 : Int32, K42 x4 x5 x6 x7 x8 x9 x10 = some res → ∀ (xc : XC), XP xc xB xo xh E → ∀ (H : Heap) (locs : List Loc), va_P D vwCl ((zr_a, .inl (T.1, (60, .inl zr))) :: (za_a, .inl (T.1, (16, .inl za))) :: (zg_a, .inl (T.1, (2, .inl zg))) :: (XW T xa xc ++ PW T xB)) H → va_D A ((zr_a, .inl (T.1, (60, .inl zr))) :: (za_a, .inl (T.1, (16, .inl za))) :: (zg_a, .inl (T.1, (2, .inl zg))) :: (XW T xa xc ++ PW T xB)) → va_S A s.heap H locs → ∀ ls : Array Slot, lv_has ls 11 [(0, .ref xa.1), (1, .ref zr_a), (2, .ref za_a), (3, .int x3), (4, .int x4), (5, .int x5), (6, .int x6), (7, .int x7), (8, .int x8), (9, .int x9), (10, .int x10)] → W p l e rmL_arePosts s m args below meth c H locs 0 0 (MQ below (Qm (some (.int res)) D (fun W9 => ∃ xc : XC, XP xc xB xo xh E ∧ W9 = ((zr_a, .inl (T.1, (60, .inl zr))) :: (za_a, .inl (T.1, (16, .inl za))) :: (zg_a, .inl (T.1, (2, .inl zg))) :: (XW T xa xc ++ PW T xB))) A) args s 0 0 A) (F0 m 42 ls [])) : ∀ s0 : Int32, ∀ x4 : Int32, ∀ x5 : Int32, ∀ x6 : Int32, ∀ x7 : Int32, ∀ x8 : Int32, ∀ x10 : Int32, f_L_arePosts_b145 zr za E x3 K3 K42 s0 x4 x5 x6 x7 x8 x10 = some res → ∀ (xc : XC), XP xc xB xo xh E → ∀ (H : Heap) (locs : List Loc), va_P D vwCl ((zr_a, .inl (T.1, (60, .inl zr))) :: (za_a, .inl (T.1, (16, .inl za))) :: (zg_a, .inl (T.1, (2, .inl zg))) :: (XW T xa xc ++ PW T xB)) H → va_D A ((zr_a, .inl (T.1, (60, .inl zr))) :: (za_a, .inl (T.1, (16, .inl za))) :: (zg_a, .inl (T.1, (2, .inl zg))) :: (XW T xa xc ++ PW T xB)) → va_S A s.heap H locs → ∀ ls : Array Slot, lv_has ls 11 [(0, .ref xa.1), (1, .ref zr_a), (2, .ref za_a), (3, .int x3), (4, .int x4), (5, .int x5), (6, .int x6), (7, .int x7), (8, .int x8), (10, .int x10)] → W p l e rmL_arePosts s m args below meth c H locs 0 0 (MQ below (Qm (some (.int res)) D (fun W9 => ∃ xc : XC, XP xc xB xo xh E ∧ W9 = ((zr_a, .inl (T.1, (60, .inl zr))) :: (za_a, .inl (T.1, (16, .inl za))) :: (zg_a, .inl (T.1, (2, .inl zg))) :: (XW T xa xc ++ PW T xB))) A) args s 0 0 A) (F0 m 145 ls [.int s0]) := by
  obtain ⟨hx, hb, hml, hown, hts, hr, hlocks, hK, hN⟩ := id C
  intro s0 x4 x5 x6 x7 x8 x10 hf xc hX H locs hP hD hS ls hl
  unfold f_L_arePosts_b145 at hf
  refine lv_iconst (v := (1 : Int32)) hx hb dL_arePosts_145 (by decide) ?_
  refine lv_goto (tgt := 150) hx hb dL_arePosts_146 (by decide) ?_
  exact w_L_arePosts_b150 hw C hA hK3 hK42 _ _ _ _ _ _ _ _ hf _ hX _ _ hP hD hS _ (lv_sub hl [0, 1, 2, 3, 4, 5, 6, 7, 8, 9] rfl)
set_option maxHeartbeats 4000000 in
set_option maxRecDepth 100000 in
theorem w_L_arePosts_b149 {p : Program} {l : Launch} {e : Env} {s : State} {m : MethodId} {args : Array Value} {below : List Frame} {meth : Method} {c : Code} {D : va_G} {T : TY} {zr_a za_a zg_a : Nat} {xa : XA} {xB : Nat → Option DB} {xo xh : Nat} {zr : Nat → Int32} {za : Nat → Int32} {zg : Nat → Int32} {E : DR} {x3 : Int32} {res : Int32} {K3 : Int32 → Option (Int32)} {K42 : Int32 → Int32 → Int32 → Int32 → Int32 → Int32 → Int32 → Option (Int32)} (hw : WF E) (C : CX p s m args meth c cL_arePosts 11 RL wsL_arePosts (some .boolean) D T) {A : Nat → Prop} (hA : ∀ q, s.heap.size ≤ q → A q) (hK3 : ∀ x4 : Int32, K3 x4 = some res → ∀ (xc : XC), XP xc xB xo xh E → ∀ (H : Heap) (locs : List Loc), va_P D vwCl ((zr_a, .inl (T.1, (60, .inl zr))) :: (za_a, .inl (T.1, (16, .inl za))) :: (zg_a, .inl (T.1, (2, .inl zg))) :: (XW T xa xc ++ PW T xB)) H → va_D A ((zr_a, .inl (T.1, (60, .inl zr))) :: (za_a, .inl (T.1, (16, .inl za))) :: (zg_a, .inl (T.1, (2, .inl zg))) :: (XW T xa xc ++ PW T xB)) → va_S A s.heap H locs → ∀ ls : Array Slot, lv_has ls 11 [(0, .ref xa.1), (1, .ref zr_a), (2, .ref za_a), (3, .int x3), (4, .int x4)] → W p l e rmL_arePosts s m args below meth c H locs 0 0 (MQ below (Qm (some (.int res)) D (fun W9 => ∃ xc : XC, XP xc xB xo xh E ∧ W9 = ((zr_a, .inl (T.1, (60, .inl zr))) :: (za_a, .inl (T.1, (16, .inl za))) :: (zg_a, .inl (T.1, (2, .inl zg))) :: (XW T xa xc ++ PW T xB))) A) args s 0 0 A) (F0 m 3 ls [])) (hK42 : ∀ x4 : Int32, ∀ x5 : Int32, ∀ x6 : Int32, ∀ x7 : Int32, ∀ x8 : Int32, ∀ x9 : Int32, ∀ x10 : Int32, K42 x4 x5 x6 x7 x8 x9 x10 = some res → ∀ (xc : XC), XP xc xB xo xh E → ∀ (H : Heap) (locs : List Loc), va_P D vwCl ((zr_a, .inl (T.1, (60, .inl zr))) :: (za_a, .inl (T.1, (16, .inl za))) :: (zg_a, .inl (T.1, (2, .inl zg))) :: (XW T xa xc ++ PW T xB)) H → va_D A ((zr_a, .inl (T.1, (60, .inl zr))) :: (za_a, .inl (T.1, (16, .inl za))) :: (zg_a, .inl (T.1, (2, .inl zg))) :: (XW T xa xc ++ PW T xB)) → va_S A s.heap H locs → ∀ ls : Array Slot, lv_has ls 11 [(0, .ref xa.1), (1, .ref zr_a), (2, .ref za_a), (3, .int x3), (4, .int x4), (5, .int x5), (6, .int x6), (7, .int x7), (8, .int x8), (9, .int x9), (10, .int x10)] → W p l e rmL_arePosts s m args below meth c H locs 0 0 (MQ below (Qm (some (.int res)) D (fun W9 => ∃ xc : XC, XP xc xB xo xh E ∧ W9 = ((zr_a, .inl (T.1, (60, .inl zr))) :: (za_a, .inl (T.1, (16, .inl za))) :: (zg_a, .inl (T.1, (2, .inl zg))) :: (XW T xa xc ++ PW T xB))) A) args s 0 0 A) (F0 m 42 ls [])) : ∀ s0 : Int32, ∀ x4 : Int32, ∀ x5 : Int32, ∀ x6 : Int32, ∀ x7 : Int32, ∀ x8 : Int32, ∀ x10 : Int32, f_L_arePosts_b149 zr za E x3 K3 K42 s0 x4 x5 x6 x7 x8 x10 = some res → ∀ (xc : XC), XP xc xB xo xh E → ∀ (H : Heap) (locs : List Loc), va_P D vwCl ((zr_a, .inl (T.1, (60, .inl zr))) :: (za_a, .inl (T.1, (16, .inl za))) :: (zg_a, .inl (T.1, (2, .inl zg))) :: (XW T xa xc ++ PW T xB)) H → va_D A ((zr_a, .inl (T.1, (60, .inl zr))) :: (za_a, .inl (T.1, (16, .inl za))) :: (zg_a, .inl (T.1, (2, .inl zg))) :: (XW T xa xc ++ PW T xB)) → va_S A s.heap H locs → ∀ ls : Array Slot, lv_has ls 11 [(0, .ref xa.1), (1, .ref zr_a), (2, .ref za_a), (3, .int x3), (4, .int x4), (5, .int x5), (6, .int x6), (7, .int x7), (8, .int x8), (10, .int x10)] → W p l e rmL_arePosts s m args below meth c H locs 0 0 (MQ below (Qm (some (.int res)) D (fun W9 => ∃ xc : XC, XP xc xB xo xh E ∧ W9 = ((zr_a, .inl (T.1, (60, .inl zr))) :: (za_a, .inl (T.1, (16, .inl za))) :: (zg_a, .inl (T.1, (2, .inl zg))) :: (XW T xa xc ++ PW T xB))) A) args s 0 0 A) (F0 m 149 ls [.int s0]) := by
  obtain ⟨hx, hb, hml, hown, hts, hr, hlocks, hK, hN⟩ := id C
  intro s0 x4 x5 x6 x7 x8 x10 hf xc hX H locs hP hD hS ls hl
  unfold f_L_arePosts_b149 at hf
  refine lv_iconst (v := (0 : Int32)) hx hb dL_arePosts_149 (by decide) ?_
  exact w_L_arePosts_b150 hw C hA hK3 hK42 _ _ _ _ _ _ _ _ hf _ hX _ _ hP hD hS _ (lv_sub hl [0, 1, 2, 3, 4, 5, 6, 7, 8, 9] rfl)
set_option maxHeartbeats 4000000 in
set_option maxRecDepth 100000 in
theorem w_L_arePosts_b107 {p : Program} {l : Launch} {e : Env} {s : State} {m : MethodId} {args : Array Value} {below : List Frame} {meth : Method} {c : Code} {D : va_G} {T : TY} {zr_a za_a zg_a : Nat} {xa : XA} {xB : Nat → Option DB} {xo xh : Nat} {zr : Nat → Int32} {za : Nat → Int32} {zg : Nat → Int32} {E : DR} {x3 : Int32} {res : Int32} {K3 : Int32 → Option (Int32)} {K42 : Int32 → Int32 → Int32 → Int32 → Int32 → Int32 → Int32 → Option (Int32)} (hw : WF E) (C : CX p s m args meth c cL_arePosts 11 RL wsL_arePosts (some .boolean) D T) {A : Nat → Prop} (hA : ∀ q, s.heap.size ≤ q → A q) (hK3 : ∀ x4 : Int32, K3 x4 = some res → ∀ (xc : XC), XP xc xB xo xh E → ∀ (H : Heap) (locs : List Loc), va_P D vwCl ((zr_a, .inl (T.1, (60, .inl zr))) :: (za_a, .inl (T.1, (16, .inl za))) :: (zg_a, .inl (T.1, (2, .inl zg))) :: (XW T xa xc ++ PW T xB)) H → va_D A ((zr_a, .inl (T.1, (60, .inl zr))) :: (za_a, .inl (T.1, (16, .inl za))) :: (zg_a, .inl (T.1, (2, .inl zg))) :: (XW T xa xc ++ PW T xB)) → va_S A s.heap H locs → ∀ ls : Array Slot, lv_has ls 11 [(0, .ref xa.1), (1, .ref zr_a), (2, .ref za_a), (3, .int x3), (4, .int x4)] → W p l e rmL_arePosts s m args below meth c H locs 0 0 (MQ below (Qm (some (.int res)) D (fun W9 => ∃ xc : XC, XP xc xB xo xh E ∧ W9 = ((zr_a, .inl (T.1, (60, .inl zr))) :: (za_a, .inl (T.1, (16, .inl za))) :: (zg_a, .inl (T.1, (2, .inl zg))) :: (XW T xa xc ++ PW T xB))) A) args s 0 0 A) (F0 m 3 ls [])) (hK42 : ∀ x4 : Int32, ∀ x5 : Int32, ∀ x6 : Int32, ∀ x7 : Int32, ∀ x8 : Int32, ∀ x9 : Int32, ∀ x10 : Int32, K42 x4 x5 x6 x7 x8 x9 x10 = some res → ∀ (xc : XC), XP xc xB xo xh E → ∀ (H : Heap) (locs : List Loc), va_P D vwCl ((zr_a, .inl (T.1, (60, .inl zr))) :: (za_a, .inl (T.1, (16, .inl za))) :: (zg_a, .inl (T.1, (2, .inl zg))) :: (XW T xa xc ++ PW T xB)) H → va_D A ((zr_a, .inl (T.1, (60, .inl zr))) :: (za_a, .inl (T.1, (16, .inl za))) :: (zg_a, .inl (T.1, (2, .inl zg))) :: (XW T xa xc ++ PW T xB)) → va_S A s.heap H locs → ∀ ls : Array Slot, lv_has ls 11 [(0, .ref xa.1), (1, .ref zr_a), (2, .ref za_a), (3, .int x3), (4, .int x4), (5, .int x5), (6, .int x6), (7, .int x7), (8, .int x8), (9, .int x9), (10, .int x10)] → W p l e rmL_arePosts s m args below meth c H locs 0 0 (MQ below (Qm (some (.int res)) D (fun W9 => ∃ xc : XC, XP xc xB xo xh E ∧ W9 = ((zr_a, .inl (T.1, (60, .inl zr))) :: (za_a, .inl (T.1, (16, .inl za))) :: (zg_a, .inl (T.1, (2, .inl zg))) :: (XW T xa xc ++ PW T xB))) A) args s 0 0 A) (F0 m 42 ls [])) : ∀ s0 : Int32, ∀ s1 : Int32, ∀ x4 : Int32, ∀ x5 : Int32, ∀ x6 : Int32, ∀ x7 : Int32, ∀ x9 : Int32, ∀ x10 : Int32, f_L_arePosts_b107 zr za E x3 K3 K42 s0 s1 x4 x5 x6 x7 x9 x10 = some res → ∀ (xc : XC), XP xc xB xo xh E → ∀ (H : Heap) (locs : List Loc), va_P D vwCl ((zr_a, .inl (T.1, (60, .inl zr))) :: (za_a, .inl (T.1, (16, .inl za))) :: (zg_a, .inl (T.1, (2, .inl zg))) :: (XW T xa xc ++ PW T xB)) H → va_D A ((zr_a, .inl (T.1, (60, .inl zr))) :: (za_a, .inl (T.1, (16, .inl za))) :: (zg_a, .inl (T.1, (2, .inl zg))) :: (XW T xa xc ++ PW T xB)) → va_S A s.heap H locs → ∀ ls : Array Slot, lv_has ls 11 [(0, .ref xa.1), (1, .ref zr_a), (2, .ref za_a), (3, .int x3), (4, .int x4), (5, .int x5), (6, .int x6), (7, .int x7), (9, .int x9), (10, .int x10)] → W p l e rmL_arePosts s m args below meth c H locs 0 0 (MQ below (Qm (some (.int res)) D (fun W9 => ∃ xc : XC, XP xc xB xo xh E ∧ W9 = ((zr_a, .inl (T.1, (60, .inl zr))) :: (za_a, .inl (T.1, (16, .inl za))) :: (zg_a, .inl (T.1, (2, .inl zg))) :: (XW T xa xc ++ PW T xB))) A) args s 0 0 A) (F0 m 107 ls [.int s0, .int s1]) := by
  obtain ⟨hx, hb, hml, hown, hts, hr, hlocks, hK, hN⟩ := id C
  intro s0 s1 x4 x5 x6 x7 x9 x10 hf xc hX H locs hP hD hS ls hl
  unfold f_L_arePosts_b107 at hf
  refine lv_iadd hx hb dL_arePosts_107 ?_
  obtain ⟨v108, e_108, hf⟩ := nm_some hf
  refine lv_nmi e_108 ?_
  refine lv_istore (lv' := [(8, .int v108), (0, .ref xa.1), (1, .ref zr_a), (2, .ref za_a), (3, .int x3), (4, .int x4), (5, .int x5), (6, .int x6), (7, .int x7), (9, .int x9), (10, .int x10)]) hx hb dL_arePosts_108 hl (by decide) rfl (fun ls hl => ?_)
  refine lv_iload hx hb dL_arePosts_110 (lv_at hl 9 rfl) ?_
  refine lv_aload_n hx hb dL_arePosts_112 rfl (lv_at hl 2 rfl) ?_
  refine lv_iload hx hb dL_arePosts_113 (lv_at hl 10 rfl) ?_
  obtain ⟨q115, e_115, hf⟩ := bd_some hf
  refine callPi (va_runS (As := [.ref zr_a, .int x10]) (rest := [.int x9]) ⟨hx, hb, hml, hown, hts⟩ (c_L_goesOn l D T zr_a zr x10 q115 e_115) (va_cwS 2 hts gL_arePosts_L_goesOn rfl rfl rfl hdS_L_goesOn ⟨Nat.le_of_ble_eq_true rfl, Nat.le_of_ble_eq_true rfl⟩) (preBS (hP.sub (ws' := [(zr_a, .inl (T.1, (60, .inl zr)))]) [0] rfl) hK hN) rfl rfl hl.1 rfl (lv_room (Nat.le_of_ble_eq_true rfl)) dL_arePosts_115 ⟨Nat.le_of_ble_eq_true rfl, Nat.le_of_ble_eq_true rfl⟩) ?_
  refine lv_if_ne (tgt := 149) hx hb dL_arePosts_118 (by decide) (fun c_118 => ?_) (fun c_118 => ?_)
  · have hf := it_neg c_118 hf
    exact w_L_arePosts_b149 hw C hA hK3 hK42 _ _ _ _ _ _ _ hf _ hX _ _ hP hD hS _ (lv_sub hl [1, 2, 3, 4, 5, 6, 7, 8, 0, 10] rfl)
  · have hf := it_pos c_118 hf
    refine lv_aload_n hx hb dL_arePosts_121 rfl (lv_at hl 2 rfl) ?_
    refine lv_iconst (v := (3 : Int32)) hx hb dL_arePosts_122 (by decide) ?_
    refine lv_iload hx hb dL_arePosts_123 (lv_at hl 10 rfl) ?_
    refine lv_imul hx hb dL_arePosts_125 ?_
    obtain ⟨g_126, hf⟩ := gd_some hf
    refine va_iald (D := D) hx hb hK hP 0 0 rfl rfl (gd_in g_126) dL_arePosts_126 ?_
    refine lv_iload hx hb dL_arePosts_127 (lv_at hl 5 rfl) ?_
    refine lv_icmp_eq (tgt := 145) hx hb dL_arePosts_129 (by decide) (fun c_129 => ?_) (fun c_129 => ?_)
    · have hf := it_pos c_129 hf
      exact w_L_arePosts_b145 hw C hA hK3 hK42 _ _ _ _ _ _ _ hf _ hX _ _ hP hD hS _ (lv_sub hl [1, 2, 3, 4, 5, 6, 7, 8, 0, 10] rfl)
    · have hf := it_neg c_129 hf
      refine lv_aload_n hx hb dL_arePosts_132 rfl (lv_at hl 2 rfl) ?_
      refine lv_iconst (v := (3 : Int32)) hx hb dL_arePosts_133 (by decide) ?_
      refine lv_iload hx hb dL_arePosts_134 (lv_at hl 10 rfl) ?_
      refine lv_imul hx hb dL_arePosts_136 ?_
      refine lv_iconst (v := (1 : Int32)) hx hb dL_arePosts_137 (by decide) ?_
      refine lv_iadd hx hb dL_arePosts_138 ?_
      obtain ⟨g_139, hf⟩ := gd_some hf
      refine va_iald (D := D) hx hb hK hP 0 0 rfl rfl (gd_in g_139) dL_arePosts_139 ?_
      refine lv_iload hx hb dL_arePosts_140 (lv_at hl 5 rfl) ?_
      refine lv_icmp_ne (tgt := 149) hx hb dL_arePosts_142 (by decide) (fun c_142 => ?_) (fun c_142 => ?_)
      · have hf := it_neg c_142 hf
        exact w_L_arePosts_b149 hw C hA hK3 hK42 _ _ _ _ _ _ _ hf _ hX _ _ hP hD hS _ (lv_sub hl [1, 2, 3, 4, 5, 6, 7, 8, 0, 10] rfl)
      · have hf := it_pos c_142 hf
        exact w_L_arePosts_b145 hw C hA hK3 hK42 _ _ _ _ _ _ _ hf _ hX _ _ hP hD hS _ (lv_sub hl [1, 2, 3, 4, 5, 6, 7, 8, 0, 10] rfl)
set_option maxHeartbeats 4000000 in
set_option maxRecDepth 100000 in
theorem w_L_arePosts_b106 {p : Program} {l : Launch} {e : Env} {s : State} {m : MethodId} {args : Array Value} {below : List Frame} {meth : Method} {c : Code} {D : va_G} {T : TY} {zr_a za_a zg_a : Nat} {xa : XA} {xB : Nat → Option DB} {xo xh : Nat} {zr : Nat → Int32} {za : Nat → Int32} {zg : Nat → Int32} {E : DR} {x3 : Int32} {res : Int32} {K3 : Int32 → Option (Int32)} {K42 : Int32 → Int32 → Int32 → Int32 → Int32 → Int32 → Int32 → Option (Int32)} (hw : WF E) (C : CX p s m args meth c cL_arePosts 11 RL wsL_arePosts (some .boolean) D T) {A : Nat → Prop} (hA : ∀ q, s.heap.size ≤ q → A q) (hK3 : ∀ x4 : Int32, K3 x4 = some res → ∀ (xc : XC), XP xc xB xo xh E → ∀ (H : Heap) (locs : List Loc), va_P D vwCl ((zr_a, .inl (T.1, (60, .inl zr))) :: (za_a, .inl (T.1, (16, .inl za))) :: (zg_a, .inl (T.1, (2, .inl zg))) :: (XW T xa xc ++ PW T xB)) H → va_D A ((zr_a, .inl (T.1, (60, .inl zr))) :: (za_a, .inl (T.1, (16, .inl za))) :: (zg_a, .inl (T.1, (2, .inl zg))) :: (XW T xa xc ++ PW T xB)) → va_S A s.heap H locs → ∀ ls : Array Slot, lv_has ls 11 [(0, .ref xa.1), (1, .ref zr_a), (2, .ref za_a), (3, .int x3), (4, .int x4)] → W p l e rmL_arePosts s m args below meth c H locs 0 0 (MQ below (Qm (some (.int res)) D (fun W9 => ∃ xc : XC, XP xc xB xo xh E ∧ W9 = ((zr_a, .inl (T.1, (60, .inl zr))) :: (za_a, .inl (T.1, (16, .inl za))) :: (zg_a, .inl (T.1, (2, .inl zg))) :: (XW T xa xc ++ PW T xB))) A) args s 0 0 A) (F0 m 3 ls [])) (hK42 : ∀ x4 : Int32, ∀ x5 : Int32, ∀ x6 : Int32, ∀ x7 : Int32, ∀ x8 : Int32, ∀ x9 : Int32, ∀ x10 : Int32, K42 x4 x5 x6 x7 x8 x9 x10 = some res → ∀ (xc : XC), XP xc xB xo xh E → ∀ (H : Heap) (locs : List Loc), va_P D vwCl ((zr_a, .inl (T.1, (60, .inl zr))) :: (za_a, .inl (T.1, (16, .inl za))) :: (zg_a, .inl (T.1, (2, .inl zg))) :: (XW T xa xc ++ PW T xB)) H → va_D A ((zr_a, .inl (T.1, (60, .inl zr))) :: (za_a, .inl (T.1, (16, .inl za))) :: (zg_a, .inl (T.1, (2, .inl zg))) :: (XW T xa xc ++ PW T xB)) → va_S A s.heap H locs → ∀ ls : Array Slot, lv_has ls 11 [(0, .ref xa.1), (1, .ref zr_a), (2, .ref za_a), (3, .int x3), (4, .int x4), (5, .int x5), (6, .int x6), (7, .int x7), (8, .int x8), (9, .int x9), (10, .int x10)] → W p l e rmL_arePosts s m args below meth c H locs 0 0 (MQ below (Qm (some (.int res)) D (fun W9 => ∃ xc : XC, XP xc xB xo xh E ∧ W9 = ((zr_a, .inl (T.1, (60, .inl zr))) :: (za_a, .inl (T.1, (16, .inl za))) :: (zg_a, .inl (T.1, (2, .inl zg))) :: (XW T xa xc ++ PW T xB))) A) args s 0 0 A) (F0 m 42 ls [])) : ∀ s0 : Int32, ∀ x4 : Int32, ∀ x5 : Int32, ∀ x6 : Int32, ∀ x7 : Int32, ∀ x9 : Int32, ∀ x10 : Int32, f_L_arePosts_b106 zr za E x3 K3 K42 s0 x4 x5 x6 x7 x9 x10 = some res → ∀ (xc : XC), XP xc xB xo xh E → ∀ (H : Heap) (locs : List Loc), va_P D vwCl ((zr_a, .inl (T.1, (60, .inl zr))) :: (za_a, .inl (T.1, (16, .inl za))) :: (zg_a, .inl (T.1, (2, .inl zg))) :: (XW T xa xc ++ PW T xB)) H → va_D A ((zr_a, .inl (T.1, (60, .inl zr))) :: (za_a, .inl (T.1, (16, .inl za))) :: (zg_a, .inl (T.1, (2, .inl zg))) :: (XW T xa xc ++ PW T xB)) → va_S A s.heap H locs → ∀ ls : Array Slot, lv_has ls 11 [(0, .ref xa.1), (1, .ref zr_a), (2, .ref za_a), (3, .int x3), (4, .int x4), (5, .int x5), (6, .int x6), (7, .int x7), (9, .int x9), (10, .int x10)] → W p l e rmL_arePosts s m args below meth c H locs 0 0 (MQ below (Qm (some (.int res)) D (fun W9 => ∃ xc : XC, XP xc xB xo xh E ∧ W9 = ((zr_a, .inl (T.1, (60, .inl zr))) :: (za_a, .inl (T.1, (16, .inl za))) :: (zg_a, .inl (T.1, (2, .inl zg))) :: (XW T xa xc ++ PW T xB))) A) args s 0 0 A) (F0 m 106 ls [.int s0]) := by
  obtain ⟨hx, hb, hml, hown, hts, hr, hlocks, hK, hN⟩ := id C
  intro s0 x4 x5 x6 x7 x9 x10 hf xc hX H locs hP hD hS ls hl
  unfold f_L_arePosts_b106 at hf
  refine lv_iconst (v := (0 : Int32)) hx hb dL_arePosts_106 (by decide) ?_
  exact w_L_arePosts_b107 hw C hA hK3 hK42 _ _ _ _ _ _ _ _ hf _ hX _ _ hP hD hS _ (lv_sub hl [0, 1, 2, 3, 4, 5, 6, 7, 8, 9] rfl)
set_option maxHeartbeats 4000000 in
set_option maxRecDepth 100000 in
theorem w_L_arePosts_b77 {p : Program} {l : Launch} {e : Env} {s : State} {m : MethodId} {args : Array Value} {below : List Frame} {meth : Method} {c : Code} {D : va_G} {T : TY} {zr_a za_a zg_a : Nat} {xa : XA} {xB : Nat → Option DB} {xo xh : Nat} {zr : Nat → Int32} {za : Nat → Int32} {zg : Nat → Int32} {E : DR} {x3 : Int32} {res : Int32} {K3 : Int32 → Option (Int32)} {K42 : Int32 → Int32 → Int32 → Int32 → Int32 → Int32 → Int32 → Option (Int32)} (hw : WF E) (C : CX p s m args meth c cL_arePosts 11 RL wsL_arePosts (some .boolean) D T) {A : Nat → Prop} (hA : ∀ q, s.heap.size ≤ q → A q) (hK3 : ∀ x4 : Int32, K3 x4 = some res → ∀ (xc : XC), XP xc xB xo xh E → ∀ (H : Heap) (locs : List Loc), va_P D vwCl ((zr_a, .inl (T.1, (60, .inl zr))) :: (za_a, .inl (T.1, (16, .inl za))) :: (zg_a, .inl (T.1, (2, .inl zg))) :: (XW T xa xc ++ PW T xB)) H → va_D A ((zr_a, .inl (T.1, (60, .inl zr))) :: (za_a, .inl (T.1, (16, .inl za))) :: (zg_a, .inl (T.1, (2, .inl zg))) :: (XW T xa xc ++ PW T xB)) → va_S A s.heap H locs → ∀ ls : Array Slot, lv_has ls 11 [(0, .ref xa.1), (1, .ref zr_a), (2, .ref za_a), (3, .int x3), (4, .int x4)] → W p l e rmL_arePosts s m args below meth c H locs 0 0 (MQ below (Qm (some (.int res)) D (fun W9 => ∃ xc : XC, XP xc xB xo xh E ∧ W9 = ((zr_a, .inl (T.1, (60, .inl zr))) :: (za_a, .inl (T.1, (16, .inl za))) :: (zg_a, .inl (T.1, (2, .inl zg))) :: (XW T xa xc ++ PW T xB))) A) args s 0 0 A) (F0 m 3 ls [])) (hK42 : ∀ x4 : Int32, ∀ x5 : Int32, ∀ x6 : Int32, ∀ x7 : Int32, ∀ x8 : Int32, ∀ x9 : Int32, ∀ x10 : Int32, K42 x4 x5 x6 x7 x8 x9 x10 = some res → ∀ (xc : XC), XP xc xB xo xh E → ∀ (H : Heap) (locs : List Loc), va_P D vwCl ((zr_a, .inl (T.1, (60, .inl zr))) :: (za_a, .inl (T.1, (16, .inl za))) :: (zg_a, .inl (T.1, (2, .inl zg))) :: (XW T xa xc ++ PW T xB)) H → va_D A ((zr_a, .inl (T.1, (60, .inl zr))) :: (za_a, .inl (T.1, (16, .inl za))) :: (zg_a, .inl (T.1, (2, .inl zg))) :: (XW T xa xc ++ PW T xB)) → va_S A s.heap H locs → ∀ ls : Array Slot, lv_has ls 11 [(0, .ref xa.1), (1, .ref zr_a), (2, .ref za_a), (3, .int x3), (4, .int x4), (5, .int x5), (6, .int x6), (7, .int x7), (8, .int x8), (9, .int x9), (10, .int x10)] → W p l e rmL_arePosts s m args below meth c H locs 0 0 (MQ below (Qm (some (.int res)) D (fun W9 => ∃ xc : XC, XP xc xB xo xh E ∧ W9 = ((zr_a, .inl (T.1, (60, .inl zr))) :: (za_a, .inl (T.1, (16, .inl za))) :: (zg_a, .inl (T.1, (2, .inl zg))) :: (XW T xa xc ++ PW T xB))) A) args s 0 0 A) (F0 m 42 ls [])) : ∀ s0 : Int32, ∀ s1 : Int32, ∀ x4 : Int32, ∀ x5 : Int32, ∀ x6 : Int32, ∀ x8 : Int32, ∀ x9 : Int32, ∀ x10 : Int32, f_L_arePosts_b77 zr za E x3 K3 K42 s0 s1 x4 x5 x6 x8 x9 x10 = some res → ∀ (xc : XC), XP xc xB xo xh E → ∀ (H : Heap) (locs : List Loc), va_P D vwCl ((zr_a, .inl (T.1, (60, .inl zr))) :: (za_a, .inl (T.1, (16, .inl za))) :: (zg_a, .inl (T.1, (2, .inl zg))) :: (XW T xa xc ++ PW T xB)) H → va_D A ((zr_a, .inl (T.1, (60, .inl zr))) :: (za_a, .inl (T.1, (16, .inl za))) :: (zg_a, .inl (T.1, (2, .inl zg))) :: (XW T xa xc ++ PW T xB)) → va_S A s.heap H locs → ∀ ls : Array Slot, lv_has ls 11 [(0, .ref xa.1), (1, .ref zr_a), (2, .ref za_a), (3, .int x3), (4, .int x4), (5, .int x5), (6, .int x6), (8, .int x8), (9, .int x9), (10, .int x10)] → W p l e rmL_arePosts s m args below meth c H locs 0 0 (MQ below (Qm (some (.int res)) D (fun W9 => ∃ xc : XC, XP xc xB xo xh E ∧ W9 = ((zr_a, .inl (T.1, (60, .inl zr))) :: (za_a, .inl (T.1, (16, .inl za))) :: (zg_a, .inl (T.1, (2, .inl zg))) :: (XW T xa xc ++ PW T xB))) A) args s 0 0 A) (F0 m 77 ls [.int s0, .int s1]) := by
  obtain ⟨hx, hb, hml, hown, hts, hr, hlocks, hK, hN⟩ := id C
  intro s0 s1 x4 x5 x6 x8 x9 x10 hf xc hX H locs hP hD hS ls hl
  unfold f_L_arePosts_b77 at hf
  refine lv_iadd hx hb dL_arePosts_77 ?_
  obtain ⟨v78, e_78, hf⟩ := nm_some hf
  refine lv_nmi e_78 ?_
  refine lv_istore (lv' := [(7, .int v78), (0, .ref xa.1), (1, .ref zr_a), (2, .ref za_a), (3, .int x3), (4, .int x4), (5, .int x5), (6, .int x6), (8, .int x8), (9, .int x9), (10, .int x10)]) hx hb dL_arePosts_78 hl (by decide) rfl (fun ls hl => ?_)
  refine lv_iload hx hb dL_arePosts_80 (lv_at hl 8 rfl) ?_
  refine lv_aload_n hx hb dL_arePosts_82 rfl (lv_at hl 2 rfl) ?_
  refine lv_iload hx hb dL_arePosts_83 (lv_at hl 10 rfl) ?_
  obtain ⟨q85, e_85, hf⟩ := bd_some hf
  refine callPi (va_runS (As := [.ref zr_a, .int x10]) (rest := [.int x8]) ⟨hx, hb, hml, hown, hts⟩ (c_L_goesOn l D T zr_a zr x10 q85 e_85) (va_cwS 2 hts gL_arePosts_L_goesOn rfl rfl rfl hdS_L_goesOn ⟨Nat.le_of_ble_eq_true rfl, Nat.le_of_ble_eq_true rfl⟩) (preBS (hP.sub (ws' := [(zr_a, .inl (T.1, (60, .inl zr)))]) [0] rfl) hK hN) rfl rfl hl.1 rfl (lv_room (Nat.le_of_ble_eq_true rfl)) dL_arePosts_85 ⟨Nat.le_of_ble_eq_true rfl, Nat.le_of_ble_eq_true rfl⟩) ?_
  refine lv_if_eq (tgt := 106) hx hb dL_arePosts_88 (by decide) (fun c_88 => ?_) (fun c_88 => ?_)
  · have hf := it_pos c_88 hf
    exact w_L_arePosts_b106 hw C hA hK3 hK42 _ _ _ _ _ _ _ hf _ hX _ _ hP hD hS _ (lv_sub hl [1, 2, 3, 4, 5, 6, 7, 0, 9, 10] rfl)
  · have hf := it_neg c_88 hf
    refine lv_aload_n hx hb dL_arePosts_91 rfl (lv_at hl 2 rfl) ?_
    refine lv_iconst (v := (3 : Int32)) hx hb dL_arePosts_92 (by decide) ?_
    refine lv_iload hx hb dL_arePosts_93 (lv_at hl 10 rfl) ?_
    refine lv_imul hx hb dL_arePosts_95 ?_
    obtain ⟨g_96, hf⟩ := gd_some hf
    refine va_iald (D := D) hx hb hK hP 0 0 rfl rfl (gd_in g_96) dL_arePosts_96 ?_
    refine lv_iload hx hb dL_arePosts_97 (lv_at hl 5 rfl) ?_
    refine lv_icmp_ne (tgt := 106) hx hb dL_arePosts_99 (by decide) (fun c_99 => ?_) (fun c_99 => ?_)
    · have hf := it_neg c_99 hf
      exact w_L_arePosts_b106 hw C hA hK3 hK42 _ _ _ _ _ _ _ hf _ hX _ _ hP hD hS _ (lv_sub hl [1, 2, 3, 4, 5, 6, 7, 0, 9, 10] rfl)
    · have hf := it_pos c_99 hf
      refine lv_iconst (v := (1 : Int32)) hx hb dL_arePosts_102 (by decide) ?_
      refine lv_goto (tgt := 107) hx hb dL_arePosts_103 (by decide) ?_
      exact w_L_arePosts_b107 hw C hA hK3 hK42 _ _ _ _ _ _ _ _ hf _ hX _ _ hP hD hS _ (lv_sub hl [1, 2, 3, 4, 5, 6, 7, 0, 9, 10] rfl)
set_option maxHeartbeats 4000000 in
set_option maxRecDepth 100000 in
theorem w_L_arePosts_b76 {p : Program} {l : Launch} {e : Env} {s : State} {m : MethodId} {args : Array Value} {below : List Frame} {meth : Method} {c : Code} {D : va_G} {T : TY} {zr_a za_a zg_a : Nat} {xa : XA} {xB : Nat → Option DB} {xo xh : Nat} {zr : Nat → Int32} {za : Nat → Int32} {zg : Nat → Int32} {E : DR} {x3 : Int32} {res : Int32} {K3 : Int32 → Option (Int32)} {K42 : Int32 → Int32 → Int32 → Int32 → Int32 → Int32 → Int32 → Option (Int32)} (hw : WF E) (C : CX p s m args meth c cL_arePosts 11 RL wsL_arePosts (some .boolean) D T) {A : Nat → Prop} (hA : ∀ q, s.heap.size ≤ q → A q) (hK3 : ∀ x4 : Int32, K3 x4 = some res → ∀ (xc : XC), XP xc xB xo xh E → ∀ (H : Heap) (locs : List Loc), va_P D vwCl ((zr_a, .inl (T.1, (60, .inl zr))) :: (za_a, .inl (T.1, (16, .inl za))) :: (zg_a, .inl (T.1, (2, .inl zg))) :: (XW T xa xc ++ PW T xB)) H → va_D A ((zr_a, .inl (T.1, (60, .inl zr))) :: (za_a, .inl (T.1, (16, .inl za))) :: (zg_a, .inl (T.1, (2, .inl zg))) :: (XW T xa xc ++ PW T xB)) → va_S A s.heap H locs → ∀ ls : Array Slot, lv_has ls 11 [(0, .ref xa.1), (1, .ref zr_a), (2, .ref za_a), (3, .int x3), (4, .int x4)] → W p l e rmL_arePosts s m args below meth c H locs 0 0 (MQ below (Qm (some (.int res)) D (fun W9 => ∃ xc : XC, XP xc xB xo xh E ∧ W9 = ((zr_a, .inl (T.1, (60, .inl zr))) :: (za_a, .inl (T.1, (16, .inl za))) :: (zg_a, .inl (T.1, (2, .inl zg))) :: (XW T xa xc ++ PW T xB))) A) args s 0 0 A) (F0 m 3 ls [])) (hK42 : ∀ x4 : Int32, ∀ x5 : Int32, ∀ x6 : Int32, ∀ x7 : Int32, ∀ x8 : Int32, ∀ x9 : Int32, ∀ x10 : Int32, K42 x4 x5 x6 x7 x8 x9 x10 = some res → ∀ (xc : XC), XP xc xB xo xh E → ∀ (H : Heap) (locs : List Loc), va_P D vwCl ((zr_a, .inl (T.1, (60, .inl zr))) :: (za_a, .inl (T.1, (16, .inl za))) :: (zg_a, .inl (T.1, (2, .inl zg))) :: (XW T xa xc ++ PW T xB)) H → va_D A ((zr_a, .inl (T.1, (60, .inl zr))) :: (za_a, .inl (T.1, (16, .inl za))) :: (zg_a, .inl (T.1, (2, .inl zg))) :: (XW T xa xc ++ PW T xB)) → va_S A s.heap H locs → ∀ ls : Array Slot, lv_has ls 11 [(0, .ref xa.1), (1, .ref zr_a), (2, .ref za_a), (3, .int x3), (4, .int x4), (5, .int x5), (6, .int x6), (7, .int x7), (8, .int x8), (9, .int x9), (10, .int x10)] → W p l e rmL_arePosts s m args below meth c H locs 0 0 (MQ below (Qm (some (.int res)) D (fun W9 => ∃ xc : XC, XP xc xB xo xh E ∧ W9 = ((zr_a, .inl (T.1, (60, .inl zr))) :: (za_a, .inl (T.1, (16, .inl za))) :: (zg_a, .inl (T.1, (2, .inl zg))) :: (XW T xa xc ++ PW T xB))) A) args s 0 0 A) (F0 m 42 ls [])) : ∀ s0 : Int32, ∀ x4 : Int32, ∀ x5 : Int32, ∀ x6 : Int32, ∀ x8 : Int32, ∀ x9 : Int32, ∀ x10 : Int32, f_L_arePosts_b76 zr za E x3 K3 K42 s0 x4 x5 x6 x8 x9 x10 = some res → ∀ (xc : XC), XP xc xB xo xh E → ∀ (H : Heap) (locs : List Loc), va_P D vwCl ((zr_a, .inl (T.1, (60, .inl zr))) :: (za_a, .inl (T.1, (16, .inl za))) :: (zg_a, .inl (T.1, (2, .inl zg))) :: (XW T xa xc ++ PW T xB)) H → va_D A ((zr_a, .inl (T.1, (60, .inl zr))) :: (za_a, .inl (T.1, (16, .inl za))) :: (zg_a, .inl (T.1, (2, .inl zg))) :: (XW T xa xc ++ PW T xB)) → va_S A s.heap H locs → ∀ ls : Array Slot, lv_has ls 11 [(0, .ref xa.1), (1, .ref zr_a), (2, .ref za_a), (3, .int x3), (4, .int x4), (5, .int x5), (6, .int x6), (8, .int x8), (9, .int x9), (10, .int x10)] → W p l e rmL_arePosts s m args below meth c H locs 0 0 (MQ below (Qm (some (.int res)) D (fun W9 => ∃ xc : XC, XP xc xB xo xh E ∧ W9 = ((zr_a, .inl (T.1, (60, .inl zr))) :: (za_a, .inl (T.1, (16, .inl za))) :: (zg_a, .inl (T.1, (2, .inl zg))) :: (XW T xa xc ++ PW T xB))) A) args s 0 0 A) (F0 m 76 ls [.int s0]) := by
  obtain ⟨hx, hb, hml, hown, hts, hr, hlocks, hK, hN⟩ := id C
  intro s0 x4 x5 x6 x8 x9 x10 hf xc hX H locs hP hD hS ls hl
  unfold f_L_arePosts_b76 at hf
  refine lv_iconst (v := (0 : Int32)) hx hb dL_arePosts_76 (by decide) ?_
  exact w_L_arePosts_b77 hw C hA hK3 hK42 _ _ _ _ _ _ _ _ hf _ hX _ _ hP hD hS _ (lv_sub hl [0, 1, 2, 3, 4, 5, 6, 7, 8, 9] rfl)
set_option maxHeartbeats 4000000 in
set_option maxRecDepth 100000 in
theorem w_L_arePosts_b303 {p : Program} {l : Launch} {e : Env} {s : State} {m : MethodId} {args : Array Value} {below : List Frame} {meth : Method} {c : Code} {D : va_G} {T : TY} {zr_a za_a zg_a : Nat} {xa : XA} {xB : Nat → Option DB} {xo xh : Nat} {zr : Nat → Int32} {za : Nat → Int32} {zg : Nat → Int32} {E : DR} {x3 : Int32} {res : Int32} {K3 : Int32 → Option (Int32)} (hw : WF E) (C : CX p s m args meth c cL_arePosts 11 RL wsL_arePosts (some .boolean) D T) {A : Nat → Prop} (hA : ∀ q, s.heap.size ≤ q → A q) (hK3 : ∀ x4 : Int32, K3 x4 = some res → ∀ (xc : XC), XP xc xB xo xh E → ∀ (H : Heap) (locs : List Loc), va_P D vwCl ((zr_a, .inl (T.1, (60, .inl zr))) :: (za_a, .inl (T.1, (16, .inl za))) :: (zg_a, .inl (T.1, (2, .inl zg))) :: (XW T xa xc ++ PW T xB)) H → va_D A ((zr_a, .inl (T.1, (60, .inl zr))) :: (za_a, .inl (T.1, (16, .inl za))) :: (zg_a, .inl (T.1, (2, .inl zg))) :: (XW T xa xc ++ PW T xB)) → va_S A s.heap H locs → ∀ ls : Array Slot, lv_has ls 11 [(0, .ref xa.1), (1, .ref zr_a), (2, .ref za_a), (3, .int x3), (4, .int x4)] → W p l e rmL_arePosts s m args below meth c H locs 0 0 (MQ below (Qm (some (.int res)) D (fun W9 => ∃ xc : XC, XP xc xB xo xh E ∧ W9 = ((zr_a, .inl (T.1, (60, .inl zr))) :: (za_a, .inl (T.1, (16, .inl za))) :: (zg_a, .inl (T.1, (2, .inl zg))) :: (XW T xa xc ++ PW T xB))) A) args s 0 0 A) (F0 m 3 ls [])) : ∀ s0 : Int32, ∀ s1 : Int32, ∀ x4 : Int32, f_L_arePosts_b303 zr za E x3 K3 s0 s1 x4 = some res → ∀ (xc : XC), XP xc xB xo xh E → ∀ (H : Heap) (locs : List Loc), va_P D vwCl ((zr_a, .inl (T.1, (60, .inl zr))) :: (za_a, .inl (T.1, (16, .inl za))) :: (zg_a, .inl (T.1, (2, .inl zg))) :: (XW T xa xc ++ PW T xB)) H → va_D A ((zr_a, .inl (T.1, (60, .inl zr))) :: (za_a, .inl (T.1, (16, .inl za))) :: (zg_a, .inl (T.1, (2, .inl zg))) :: (XW T xa xc ++ PW T xB)) → va_S A s.heap H locs → ∀ ls : Array Slot, lv_has ls 11 [(0, .ref xa.1), (1, .ref zr_a), (2, .ref za_a), (3, .int x3), (4, .int x4)] → W p l e rmL_arePosts s m args below meth c H locs 0 0 (MQ below (Qm (some (.int res)) D (fun W9 => ∃ xc : XC, XP xc xB xo xh E ∧ W9 = ((zr_a, .inl (T.1, (60, .inl zr))) :: (za_a, .inl (T.1, (16, .inl za))) :: (zg_a, .inl (T.1, (2, .inl zg))) :: (XW T xa xc ++ PW T xB))) A) args s 0 0 A) (F0 m 303 ls [.int s0, .int s1]) := by
  obtain ⟨hx, hb, hml, hown, hts, hr, hlocks, hK, hN⟩ := id C
  intro s0 s1 x4 hf xc hX H locs hP hD hS ls hl
  unfold f_L_arePosts_b303 at hf
  refine lv_icmp_eq (tgt := 308) hx hb dL_arePosts_303 (by decide) (fun c_303 => ?_) (fun c_303 => ?_)
  · have hf := it_pos c_303 hf
    obtain ⟨v308, e_308, hf⟩ := nm_some hf
    refine lv_iinc (v := v308) (lv' := [(4, .int v308), (0, .ref xa.1), (1, .ref zr_a), (2, .ref za_a), (3, .int x3)]) hx hb dL_arePosts_308 hl (k := 4) rfl (by rw [e_308]; rfl) (by decide) rfl (fun ls hl => ?_)
    refine lv_goto (tgt := 3) hx hb dL_arePosts_311 (by decide) ?_
    exact hK3 _ hf _ hX _ _ hP hD hS _ (lv_sub hl [1, 2, 3, 4, 0] rfl)
  · have hf := it_neg c_303 hf
    refine lv_iconst (v := (0 : Int32)) hx hb dL_arePosts_306 (by decide) ?_
    obtain rfl := Option.some.inj hf
    exact W.zret hx hb hr (by decide) (fun t ht hW => ⟨rfl, ⟨_, ⟨_, hX, rfl⟩, by rw [ht]; exact hP, hD⟩, hS.F ht⟩) hS.2.2 dL_arePosts_307 hlocks
set_option maxHeartbeats 4000000 in
set_option maxRecDepth 100000 in
theorem w_L_arePosts_b278 {p : Program} {l : Launch} {e : Env} {s : State} {m : MethodId} {args : Array Value} {below : List Frame} {meth : Method} {c : Code} {D : va_G} {T : TY} {zr_a za_a zg_a : Nat} {xa : XA} {xB : Nat → Option DB} {xo xh : Nat} {zr : Nat → Int32} {za : Nat → Int32} {zg : Nat → Int32} {E : DR} {x3 : Int32} {res : Int32} {K3 : Int32 → Option (Int32)} (hw : WF E) (C : CX p s m args meth c cL_arePosts 11 RL wsL_arePosts (some .boolean) D T) {A : Nat → Prop} (hA : ∀ q, s.heap.size ≤ q → A q) (hK3 : ∀ x4 : Int32, K3 x4 = some res → ∀ (xc : XC), XP xc xB xo xh E → ∀ (H : Heap) (locs : List Loc), va_P D vwCl ((zr_a, .inl (T.1, (60, .inl zr))) :: (za_a, .inl (T.1, (16, .inl za))) :: (zg_a, .inl (T.1, (2, .inl zg))) :: (XW T xa xc ++ PW T xB)) H → va_D A ((zr_a, .inl (T.1, (60, .inl zr))) :: (za_a, .inl (T.1, (16, .inl za))) :: (zg_a, .inl (T.1, (2, .inl zg))) :: (XW T xa xc ++ PW T xB)) → va_S A s.heap H locs → ∀ ls : Array Slot, lv_has ls 11 [(0, .ref xa.1), (1, .ref zr_a), (2, .ref za_a), (3, .int x3), (4, .int x4)] → W p l e rmL_arePosts s m args below meth c H locs 0 0 (MQ below (Qm (some (.int res)) D (fun W9 => ∃ xc : XC, XP xc xB xo xh E ∧ W9 = ((zr_a, .inl (T.1, (60, .inl zr))) :: (za_a, .inl (T.1, (16, .inl za))) :: (zg_a, .inl (T.1, (2, .inl zg))) :: (XW T xa xc ++ PW T xB))) A) args s 0 0 A) (F0 m 3 ls [])) : ∀ s0 : Int32, ∀ s1 : Int32, ∀ x4 : Int32, ∀ x5 : Int32, ∀ x6 : Int32, f_L_arePosts_b278 zr za E x3 K3 s0 s1 x4 x5 x6 = some res → ∀ (xc : XC), XP xc xB xo xh E → ∀ (H : Heap) (locs : List Loc), va_P D vwCl ((zr_a, .inl (T.1, (60, .inl zr))) :: (za_a, .inl (T.1, (16, .inl za))) :: (zg_a, .inl (T.1, (2, .inl zg))) :: (XW T xa xc ++ PW T xB)) H → va_D A ((zr_a, .inl (T.1, (60, .inl zr))) :: (za_a, .inl (T.1, (16, .inl za))) :: (zg_a, .inl (T.1, (2, .inl zg))) :: (XW T xa xc ++ PW T xB)) → va_S A s.heap H locs → ∀ ls : Array Slot, lv_has ls 11 [(0, .ref xa.1), (1, .ref zr_a), (2, .ref za_a), (3, .int x3), (4, .int x4), (5, .int x5), (6, .int x6)] → W p l e rmL_arePosts s m args below meth c H locs 0 0 (MQ below (Qm (some (.int res)) D (fun W9 => ∃ xc : XC, XP xc xB xo xh E ∧ W9 = ((zr_a, .inl (T.1, (60, .inl zr))) :: (za_a, .inl (T.1, (16, .inl za))) :: (zg_a, .inl (T.1, (2, .inl zg))) :: (XW T xa xc ++ PW T xB))) A) args s 0 0 A) (F0 m 278 ls [.int s0, .int s1]) := by
  obtain ⟨hx, hb, hml, hown, hts, hr, hlocks, hK, hN⟩ := id C
  intro s0 s1 x4 x5 x6 hf xc hX H locs hP hD hS ls hl
  unfold f_L_arePosts_b278 at hf
  refine lv_icmp_ne (tgt := 306) hx hb dL_arePosts_278 (by decide) (fun c_278 => ?_) (fun c_278 => ?_)
  · have hf := it_neg c_278 hf
    refine lv_iconst (v := (0 : Int32)) hx hb dL_arePosts_306 (by decide) ?_
    obtain rfl := Option.some.inj hf
    exact W.zret hx hb hr (by decide) (fun t ht hW => ⟨rfl, ⟨_, ⟨_, hX, rfl⟩, by rw [ht]; exact hP, hD⟩, hS.F ht⟩) hS.2.2 dL_arePosts_307 hlocks
  · have hf := it_pos c_278 hf
    refine lv_aload_n hx hb dL_arePosts_281 rfl (lv_at hl 0 rfl) ?_
    refine lv_iload hx hb dL_arePosts_282 (lv_at hl 4 rfl) ?_
    refine lv_bipush (v := (7 : Int32)) hx hb dL_arePosts_284 (by decide) ?_
    obtain ⟨q286, e_286, hf⟩ := bd_some hf
    refine k_postOf ⟨by decide, by decide⟩ hK hN hA (a := xa) (R := [(zr_a, .inl (T.1, (60, .inl zr))), (za_a, .inl (T.1, (16, .inl za))), (zg_a, .inl (T.1, (2, .inl zg)))]) hX hw e_286 (fun H locs cells slots rm mc ms Pc Qc free hMt hrc hrs hR hpre hroom => va_runV (n := 2) (C := RX6) (b := xa.1) (As := [.int x4, .int (7 : Int32)]) (rest := []) ⟨hx, hb, hml, hown, hts⟩ hMt (cwV 2 hts gL_arePosts_X6_postOf rfl hrc hrs hdV_X6_postOf hR) hpre rfl rfl hl.1 rfl (lv_room (Nat.le_of_ble_eq_true rfl)) dL_arePosts_286 hroom) ⟨hP, hD⟩ hS ⟨Nat.le_of_ble_eq_true rfl, Nat.le_of_ble_eq_true rfl⟩ ?_
    refine lv_iload hx hb dL_arePosts_289 (lv_at hl 5 rfl) ?_
    refine lv_iload hx hb dL_arePosts_291 (lv_at hl 6 rfl) ?_
    refine lv_icmp_le (tgt := 301) hx hb dL_arePosts_293 (by decide) (fun c_293 => ?_) (fun c_293 => ?_)
    · have hf := it_pos c_293 hf
      refine lv_iload hx hb dL_arePosts_301 (lv_at hl 6 rfl) ?_
      exact w_L_arePosts_b303 hw C hA hK3 _ _ _ hf _ hX _ _ hP hD hS _ (lv_sub hl [0, 1, 2, 3, 4] rfl)
    · have hf := it_neg c_293 hf
      refine lv_iload hx hb dL_arePosts_296 (lv_at hl 5 rfl) ?_
      refine lv_goto (tgt := 303) hx hb dL_arePosts_298 (by decide) ?_
      exact w_L_arePosts_b303 hw C hA hK3 _ _ _ hf _ hX _ _ hP hD hS _ (lv_sub hl [0, 1, 2, 3, 4] rfl)
set_option maxHeartbeats 4000000 in
set_option maxRecDepth 100000 in
theorem w_L_arePosts_b184 {p : Program} {l : Launch} {e : Env} {s : State} {m : MethodId} {args : Array Value} {below : List Frame} {meth : Method} {c : Code} {D : va_G} {T : TY} {zr_a za_a zg_a : Nat} {xa : XA} {xB : Nat → Option DB} {xo xh : Nat} {zr : Nat → Int32} {za : Nat → Int32} {zg : Nat → Int32} {E : DR} {x3 : Int32} {res : Int32} {K3 : Int32 → Option (Int32)} (hw : WF E) (C : CX p s m args meth c cL_arePosts 11 RL wsL_arePosts (some .boolean) D T) {A : Nat → Prop} (hA : ∀ q, s.heap.size ≤ q → A q) (hK3 : ∀ x4 : Int32, K3 x4 = some res → ∀ (xc : XC), XP xc xB xo xh E → ∀ (H : Heap) (locs : List Loc), va_P D vwCl ((zr_a, .inl (T.1, (60, .inl zr))) :: (za_a, .inl (T.1, (16, .inl za))) :: (zg_a, .inl (T.1, (2, .inl zg))) :: (XW T xa xc ++ PW T xB)) H → va_D A ((zr_a, .inl (T.1, (60, .inl zr))) :: (za_a, .inl (T.1, (16, .inl za))) :: (zg_a, .inl (T.1, (2, .inl zg))) :: (XW T xa xc ++ PW T xB)) → va_S A s.heap H locs → ∀ ls : Array Slot, lv_has ls 11 [(0, .ref xa.1), (1, .ref zr_a), (2, .ref za_a), (3, .int x3), (4, .int x4)] → W p l e rmL_arePosts s m args below meth c H locs 0 0 (MQ below (Qm (some (.int res)) D (fun W9 => ∃ xc : XC, XP xc xB xo xh E ∧ W9 = ((zr_a, .inl (T.1, (60, .inl zr))) :: (za_a, .inl (T.1, (16, .inl za))) :: (zg_a, .inl (T.1, (2, .inl zg))) :: (XW T xa xc ++ PW T xB))) A) args s 0 0 A) (F0 m 3 ls [])) : ∀ s0 : Int32, ∀ x4 : Int32, ∀ x5 : Int32, ∀ x6 : Int32, ∀ x7 : Int32, ∀ x8 : Int32, ∀ x9 : Int32, f_L_arePosts_b184 zr za E x3 K3 s0 x4 x5 x6 x7 x8 x9 = some res → ∀ (xc : XC), XP xc xB xo xh E → ∀ (H : Heap) (locs : List Loc), va_P D vwCl ((zr_a, .inl (T.1, (60, .inl zr))) :: (za_a, .inl (T.1, (16, .inl za))) :: (zg_a, .inl (T.1, (2, .inl zg))) :: (XW T xa xc ++ PW T xB)) H → va_D A ((zr_a, .inl (T.1, (60, .inl zr))) :: (za_a, .inl (T.1, (16, .inl za))) :: (zg_a, .inl (T.1, (2, .inl zg))) :: (XW T xa xc ++ PW T xB)) → va_S A s.heap H locs → ∀ ls : Array Slot, lv_has ls 11 [(0, .ref xa.1), (1, .ref zr_a), (2, .ref za_a), (3, .int x3), (4, .int x4), (5, .int x5), (6, .int x6), (7, .int x7), (8, .int x8), (9, .int x9)] → W p l e rmL_arePosts s m args below meth c H locs 0 0 (MQ below (Qm (some (.int res)) D (fun W9 => ∃ xc : XC, XP xc xB xo xh E ∧ W9 = ((zr_a, .inl (T.1, (60, .inl zr))) :: (za_a, .inl (T.1, (16, .inl za))) :: (zg_a, .inl (T.1, (2, .inl zg))) :: (XW T xa xc ++ PW T xB))) A) args s 0 0 A) (F0 m 184 ls [.int s0]) := by
  obtain ⟨hx, hb, hml, hown, hts, hr, hlocks, hK, hN⟩ := id C
  intro s0 x4 x5 x6 x7 x8 x9 hf xc hX H locs hP hD hS ls hl
  unfold f_L_arePosts_b184 at hf
  refine lv_istore (lv' := [(10, .int s0), (0, .ref xa.1), (1, .ref zr_a), (2, .ref za_a), (3, .int x3), (4, .int x4), (5, .int x5), (6, .int x6), (7, .int x7), (8, .int x8), (9, .int x9)]) hx hb dL_arePosts_184 hl (by decide) rfl (fun ls hl => ?_)
  refine lv_aload_n hx hb dL_arePosts_186 rfl (lv_at hl 1 rfl) ?_
  refine lv_iload hx hb dL_arePosts_187 (lv_at hl 5 rfl) ?_
  refine lv_iconst (v := (0 : Int32)) hx hb dL_arePosts_189 (by decide) ?_
  obtain ⟨q190, e_190, hf⟩ := bd_some hf
  refine k_postOf ⟨by decide, by decide⟩ hK hN hA (a := xa) (R := [(zr_a, .inl (T.1, (60, .inl zr))), (za_a, .inl (T.1, (16, .inl za))), (zg_a, .inl (T.1, (2, .inl zg)))]) hX hw e_190 (fun H locs cells slots rm mc ms Pc Qc free hMt hrc hrs hR hpre hroom => va_runV (n := 2) (C := RX6) (b := xa.1) (As := [.int x4, .int (0 : Int32)]) (rest := []) ⟨hx, hb, hml, hown, hts⟩ hMt (cwV 2 hts gL_arePosts_X6_postOf rfl hrc hrs hdV_X6_postOf hR) hpre rfl rfl hl.1 rfl (lv_room (Nat.le_of_ble_eq_true rfl)) dL_arePosts_190 hroom) ⟨hP, hD⟩ hS ⟨Nat.le_of_ble_eq_true rfl, Nat.le_of_ble_eq_true rfl⟩ ?_
  refine lv_aload_n hx hb dL_arePosts_193 rfl (lv_at hl 3 rfl) ?_
  refine lv_iload hx hb dL_arePosts_194 (lv_at hl 5 rfl) ?_
  obtain ⟨g_196, hf⟩ := gd_some hf
  refine va_iald (D := D) hx hb hK hP 1 0 rfl rfl (gd_in g_196) dL_arePosts_196 ?_
  refine lv_icmp_ne (tgt := 306) hx hb dL_arePosts_197 (by decide) (fun c_197 => ?_) (fun c_197 => ?_)
  · have hf := it_neg c_197 hf
    refine lv_iconst (v := (0 : Int32)) hx hb dL_arePosts_306 (by decide) ?_
    obtain rfl := Option.some.inj hf
    exact W.zret hx hb hr (by decide) (fun t ht hW => ⟨rfl, ⟨_, ⟨_, hX, rfl⟩, by rw [ht]; exact hP, hD⟩, hS.F ht⟩) hS.2.2 dL_arePosts_307 hlocks
  · have hf := it_pos c_197 hf
    refine lv_aload_n hx hb dL_arePosts_200 rfl (lv_at hl 1 rfl) ?_
    refine lv_iload hx hb dL_arePosts_201 (lv_at hl 5 rfl) ?_
    refine lv_iconst (v := (1 : Int32)) hx hb dL_arePosts_203 (by decide) ?_
    obtain ⟨q204, e_204, hf⟩ := bd_some hf
    refine k_postOf ⟨by decide, by decide⟩ hK hN hA (a := xa) (R := [(zr_a, .inl (T.1, (60, .inl zr))), (za_a, .inl (T.1, (16, .inl za))), (zg_a, .inl (T.1, (2, .inl zg)))]) hX hw e_204 (fun H locs cells slots rm mc ms Pc Qc free hMt hrc hrs hR hpre hroom => va_runV (n := 2) (C := RX6) (b := xa.1) (As := [.int x4, .int (1 : Int32)]) (rest := []) ⟨hx, hb, hml, hown, hts⟩ hMt (cwV 2 hts gL_arePosts_X6_postOf rfl hrc hrs hdV_X6_postOf hR) hpre rfl rfl hl.1 rfl (lv_room (Nat.le_of_ble_eq_true rfl)) dL_arePosts_204 hroom) ⟨hP, hD⟩ hS ⟨Nat.le_of_ble_eq_true rfl, Nat.le_of_ble_eq_true rfl⟩ ?_
    refine lv_iload hx hb dL_arePosts_207 (lv_at hl 6 rfl) ?_
    refine lv_icmp_ne (tgt := 306) hx hb dL_arePosts_209 (by decide) (fun c_209 => ?_) (fun c_209 => ?_)
    · have hf := it_neg c_209 hf
      refine lv_iconst (v := (0 : Int32)) hx hb dL_arePosts_306 (by decide) ?_
      obtain rfl := Option.some.inj hf
      exact W.zret hx hb hr (by decide) (fun t ht hW => ⟨rfl, ⟨_, ⟨_, hX, rfl⟩, by rw [ht]; exact hP, hD⟩, hS.F ht⟩) hS.2.2 dL_arePosts_307 hlocks
    · have hf := it_pos c_209 hf
      refine lv_aload_n hx hb dL_arePosts_212 rfl (lv_at hl 1 rfl) ?_
      refine lv_iload hx hb dL_arePosts_213 (lv_at hl 5 rfl) ?_
      refine lv_iconst (v := (2 : Int32)) hx hb dL_arePosts_215 (by decide) ?_
      obtain ⟨q216, e_216, hf⟩ := bd_some hf
      refine k_postOf ⟨by decide, by decide⟩ hK hN hA (a := xa) (R := [(zr_a, .inl (T.1, (60, .inl zr))), (za_a, .inl (T.1, (16, .inl za))), (zg_a, .inl (T.1, (2, .inl zg)))]) hX hw e_216 (fun H locs cells slots rm mc ms Pc Qc free hMt hrc hrs hR hpre hroom => va_runV (n := 2) (C := RX6) (b := xa.1) (As := [.int x4, .int (2 : Int32)]) (rest := []) ⟨hx, hb, hml, hown, hts⟩ hMt (cwV 2 hts gL_arePosts_X6_postOf rfl hrc hrs hdV_X6_postOf hR) hpre rfl rfl hl.1 rfl (lv_room (Nat.le_of_ble_eq_true rfl)) dL_arePosts_216 hroom) ⟨hP, hD⟩ hS ⟨Nat.le_of_ble_eq_true rfl, Nat.le_of_ble_eq_true rfl⟩ ?_
      refine lv_iload hx hb dL_arePosts_219 (lv_at hl 7 rfl) ?_
      refine lv_icmp_ne (tgt := 306) hx hb dL_arePosts_221 (by decide) (fun c_221 => ?_) (fun c_221 => ?_)
      · have hf := it_neg c_221 hf
        refine lv_iconst (v := (0 : Int32)) hx hb dL_arePosts_306 (by decide) ?_
        obtain rfl := Option.some.inj hf
        exact W.zret hx hb hr (by decide) (fun t ht hW => ⟨rfl, ⟨_, ⟨_, hX, rfl⟩, by rw [ht]; exact hP, hD⟩, hS.F ht⟩) hS.2.2 dL_arePosts_307 hlocks
      · have hf := it_pos c_221 hf
        refine lv_aload_n hx hb dL_arePosts_224 rfl (lv_at hl 1 rfl) ?_
        refine lv_iload hx hb dL_arePosts_225 (lv_at hl 5 rfl) ?_
        refine lv_iconst (v := (3 : Int32)) hx hb dL_arePosts_227 (by decide) ?_
        obtain ⟨q228, e_228, hf⟩ := bd_some hf
        refine k_postOf ⟨by decide, by decide⟩ hK hN hA (a := xa) (R := [(zr_a, .inl (T.1, (60, .inl zr))), (za_a, .inl (T.1, (16, .inl za))), (zg_a, .inl (T.1, (2, .inl zg)))]) hX hw e_228 (fun H locs cells slots rm mc ms Pc Qc free hMt hrc hrs hR hpre hroom => va_runV (n := 2) (C := RX6) (b := xa.1) (As := [.int x4, .int (3 : Int32)]) (rest := []) ⟨hx, hb, hml, hown, hts⟩ hMt (cwV 2 hts gL_arePosts_X6_postOf rfl hrc hrs hdV_X6_postOf hR) hpre rfl rfl hl.1 rfl (lv_room (Nat.le_of_ble_eq_true rfl)) dL_arePosts_228 hroom) ⟨hP, hD⟩ hS ⟨Nat.le_of_ble_eq_true rfl, Nat.le_of_ble_eq_true rfl⟩ ?_
        refine lv_iload hx hb dL_arePosts_231 (lv_at hl 8 rfl) ?_
        refine lv_icmp_ne (tgt := 306) hx hb dL_arePosts_233 (by decide) (fun c_233 => ?_) (fun c_233 => ?_)
        · have hf := it_neg c_233 hf
          refine lv_iconst (v := (0 : Int32)) hx hb dL_arePosts_306 (by decide) ?_
          obtain rfl := Option.some.inj hf
          exact W.zret hx hb hr (by decide) (fun t ht hW => ⟨rfl, ⟨_, ⟨_, hX, rfl⟩, by rw [ht]; exact hP, hD⟩, hS.F ht⟩) hS.2.2 dL_arePosts_307 hlocks
        · have hf := it_pos c_233 hf
          refine lv_aload_n hx hb dL_arePosts_236 rfl (lv_at hl 1 rfl) ?_
          refine lv_iload hx hb dL_arePosts_237 (lv_at hl 5 rfl) ?_
          refine lv_iconst (v := (4 : Int32)) hx hb dL_arePosts_239 (by decide) ?_
          obtain ⟨q240, e_240, hf⟩ := bd_some hf
          refine k_postOf ⟨by decide, by decide⟩ hK hN hA (a := xa) (R := [(zr_a, .inl (T.1, (60, .inl zr))), (za_a, .inl (T.1, (16, .inl za))), (zg_a, .inl (T.1, (2, .inl zg)))]) hX hw e_240 (fun H locs cells slots rm mc ms Pc Qc free hMt hrc hrs hR hpre hroom => va_runV (n := 2) (C := RX6) (b := xa.1) (As := [.int x4, .int (4 : Int32)]) (rest := []) ⟨hx, hb, hml, hown, hts⟩ hMt (cwV 2 hts gL_arePosts_X6_postOf rfl hrc hrs hdV_X6_postOf hR) hpre rfl rfl hl.1 rfl (lv_room (Nat.le_of_ble_eq_true rfl)) dL_arePosts_240 hroom) ⟨hP, hD⟩ hS ⟨Nat.le_of_ble_eq_true rfl, Nat.le_of_ble_eq_true rfl⟩ ?_
          refine lv_iload hx hb dL_arePosts_243 (lv_at hl 9 rfl) ?_
          refine lv_icmp_ne (tgt := 306) hx hb dL_arePosts_245 (by decide) (fun c_245 => ?_) (fun c_245 => ?_)
          · have hf := it_neg c_245 hf
            refine lv_iconst (v := (0 : Int32)) hx hb dL_arePosts_306 (by decide) ?_
            obtain rfl := Option.some.inj hf
            exact W.zret hx hb hr (by decide) (fun t ht hW => ⟨rfl, ⟨_, ⟨_, hX, rfl⟩, by rw [ht]; exact hP, hD⟩, hS.F ht⟩) hS.2.2 dL_arePosts_307 hlocks
          · have hf := it_pos c_245 hf
            refine lv_aload_n hx hb dL_arePosts_248 rfl (lv_at hl 1 rfl) ?_
            refine lv_iload hx hb dL_arePosts_249 (lv_at hl 5 rfl) ?_
            refine lv_iconst (v := (5 : Int32)) hx hb dL_arePosts_251 (by decide) ?_
            obtain ⟨q252, e_252, hf⟩ := bd_some hf
            refine k_postOf ⟨by decide, by decide⟩ hK hN hA (a := xa) (R := [(zr_a, .inl (T.1, (60, .inl zr))), (za_a, .inl (T.1, (16, .inl za))), (zg_a, .inl (T.1, (2, .inl zg)))]) hX hw e_252 (fun H locs cells slots rm mc ms Pc Qc free hMt hrc hrs hR hpre hroom => va_runV (n := 2) (C := RX6) (b := xa.1) (As := [.int x4, .int (5 : Int32)]) (rest := []) ⟨hx, hb, hml, hown, hts⟩ hMt (cwV 2 hts gL_arePosts_X6_postOf rfl hrc hrs hdV_X6_postOf hR) hpre rfl rfl hl.1 rfl (lv_room (Nat.le_of_ble_eq_true rfl)) dL_arePosts_252 hroom) ⟨hP, hD⟩ hS ⟨Nat.le_of_ble_eq_true rfl, Nat.le_of_ble_eq_true rfl⟩ ?_
            refine lv_iload hx hb dL_arePosts_255 (lv_at hl 10 rfl) ?_
            refine lv_icmp_ne (tgt := 306) hx hb dL_arePosts_257 (by decide) (fun c_257 => ?_) (fun c_257 => ?_)
            · have hf := it_neg c_257 hf
              refine lv_iconst (v := (0 : Int32)) hx hb dL_arePosts_306 (by decide) ?_
              obtain rfl := Option.some.inj hf
              exact W.zret hx hb hr (by decide) (fun t ht hW => ⟨rfl, ⟨_, ⟨_, hX, rfl⟩, by rw [ht]; exact hP, hD⟩, hS.F ht⟩) hS.2.2 dL_arePosts_307 hlocks
            · have hf := it_pos c_257 hf
              refine lv_aload_n hx hb dL_arePosts_260 rfl (lv_at hl 1 rfl) ?_
              refine lv_iload hx hb dL_arePosts_261 (lv_at hl 5 rfl) ?_
              refine lv_bipush (v := (6 : Int32)) hx hb dL_arePosts_263 (by decide) ?_
              obtain ⟨q265, e_265, hf⟩ := bd_some hf
              refine k_postOf ⟨by decide, by decide⟩ hK hN hA (a := xa) (R := [(zr_a, .inl (T.1, (60, .inl zr))), (za_a, .inl (T.1, (16, .inl za))), (zg_a, .inl (T.1, (2, .inl zg)))]) hX hw e_265 (fun H locs cells slots rm mc ms Pc Qc free hMt hrc hrs hR hpre hroom => va_runV (n := 2) (C := RX6) (b := xa.1) (As := [.int x4, .int (6 : Int32)]) (rest := []) ⟨hx, hb, hml, hown, hts⟩ hMt (cwV 2 hts gL_arePosts_X6_postOf rfl hrc hrs hdV_X6_postOf hR) hpre rfl rfl hl.1 rfl (lv_room (Nat.le_of_ble_eq_true rfl)) dL_arePosts_265 hroom) ⟨hP, hD⟩ hS ⟨Nat.le_of_ble_eq_true rfl, Nat.le_of_ble_eq_true rfl⟩ ?_
              refine lv_iload hx hb dL_arePosts_268 (lv_at hl 0 rfl) ?_
              refine lv_if_eq (tgt := 277) hx hb dL_arePosts_270 (by decide) (fun c_270 => ?_) (fun c_270 => ?_)
              · have hf := it_pos c_270 hf
                refine lv_iconst (v := (0 : Int32)) hx hb dL_arePosts_277 (by decide) ?_
                exact w_L_arePosts_b278 hw C hA hK3 _ _ _ _ _ hf _ hX _ _ hP hD hS _ (lv_sub hl [1, 2, 3, 4, 5, 6, 7] rfl)
              · have hf := it_neg c_270 hf
                refine lv_iconst (v := (1 : Int32)) hx hb dL_arePosts_273 (by decide) ?_
                refine lv_goto (tgt := 278) hx hb dL_arePosts_274 (by decide) ?_
                exact w_L_arePosts_b278 hw C hA hK3 _ _ _ _ _ hf _ hX _ _ hP hD hS _ (lv_sub hl [1, 2, 3, 4, 5, 6, 7] rfl)
set_option maxHeartbeats 4000000 in
set_option maxRecDepth 100000 in
theorem w_L_arePosts_b179 {p : Program} {l : Launch} {e : Env} {s : State} {m : MethodId} {args : Array Value} {below : List Frame} {meth : Method} {c : Code} {D : va_G} {T : TY} {zr_a za_a zg_a : Nat} {xa : XA} {xB : Nat → Option DB} {xo xh : Nat} {zr : Nat → Int32} {za : Nat → Int32} {zg : Nat → Int32} {E : DR} {x3 : Int32} {res : Int32} {K3 : Int32 → Option (Int32)} (hw : WF E) (C : CX p s m args meth c cL_arePosts 11 RL wsL_arePosts (some .boolean) D T) {A : Nat → Prop} (hA : ∀ q, s.heap.size ≤ q → A q) (hK3 : ∀ x4 : Int32, K3 x4 = some res → ∀ (xc : XC), XP xc xB xo xh E → ∀ (H : Heap) (locs : List Loc), va_P D vwCl ((zr_a, .inl (T.1, (60, .inl zr))) :: (za_a, .inl (T.1, (16, .inl za))) :: (zg_a, .inl (T.1, (2, .inl zg))) :: (XW T xa xc ++ PW T xB)) H → va_D A ((zr_a, .inl (T.1, (60, .inl zr))) :: (za_a, .inl (T.1, (16, .inl za))) :: (zg_a, .inl (T.1, (2, .inl zg))) :: (XW T xa xc ++ PW T xB)) → va_S A s.heap H locs → ∀ ls : Array Slot, lv_has ls 11 [(0, .ref xa.1), (1, .ref zr_a), (2, .ref za_a), (3, .int x3), (4, .int x4)] → W p l e rmL_arePosts s m args below meth c H locs 0 0 (MQ below (Qm (some (.int res)) D (fun W9 => ∃ xc : XC, XP xc xB xo xh E ∧ W9 = ((zr_a, .inl (T.1, (60, .inl zr))) :: (za_a, .inl (T.1, (16, .inl za))) :: (zg_a, .inl (T.1, (2, .inl zg))) :: (XW T xa xc ++ PW T xB))) A) args s 0 0 A) (F0 m 3 ls [])) : ∀ x4 : Int32, ∀ x5 : Int32, ∀ x6 : Int32, ∀ x7 : Int32, ∀ x8 : Int32, ∀ x9 : Int32, f_L_arePosts_b179 zr za E x3 K3 x4 x5 x6 x7 x8 x9 = some res → ∀ (xc : XC), XP xc xB xo xh E → ∀ (H : Heap) (locs : List Loc), va_P D vwCl ((zr_a, .inl (T.1, (60, .inl zr))) :: (za_a, .inl (T.1, (16, .inl za))) :: (zg_a, .inl (T.1, (2, .inl zg))) :: (XW T xa xc ++ PW T xB)) H → va_D A ((zr_a, .inl (T.1, (60, .inl zr))) :: (za_a, .inl (T.1, (16, .inl za))) :: (zg_a, .inl (T.1, (2, .inl zg))) :: (XW T xa xc ++ PW T xB)) → va_S A s.heap H locs → ∀ ls : Array Slot, lv_has ls 11 [(0, .ref xa.1), (1, .ref zr_a), (2, .ref za_a), (3, .int x3), (4, .int x4), (5, .int x5), (6, .int x6), (7, .int x7), (8, .int x8), (9, .int x9)] → W p l e rmL_arePosts s m args below meth c H locs 0 0 (MQ below (Qm (some (.int res)) D (fun W9 => ∃ xc : XC, XP xc xB xo xh E ∧ W9 = ((zr_a, .inl (T.1, (60, .inl zr))) :: (za_a, .inl (T.1, (16, .inl za))) :: (zg_a, .inl (T.1, (2, .inl zg))) :: (XW T xa xc ++ PW T xB))) A) args s 0 0 A) (F0 m 179 ls []) := by
  obtain ⟨hx, hb, hml, hown, hts, hr, hlocks, hK, hN⟩ := id C
  intro x4 x5 x6 x7 x8 x9 hf xc hX H locs hP hD hS ls hl
  unfold f_L_arePosts_b179 at hf
  refine lv_iconst (v := (1 : Int32)) hx hb dL_arePosts_179 (by decide) ?_
  refine lv_goto (tgt := 184) hx hb dL_arePosts_180 (by decide) ?_
  exact w_L_arePosts_b184 hw C hA hK3 _ _ _ _ _ _ _ hf _ hX _ _ hP hD hS _ (lv_sub hl [0, 1, 2, 3, 4, 5, 6, 7, 8, 9] rfl)
set_option maxHeartbeats 4000000 in
set_option maxRecDepth 100000 in
theorem w_L_arePosts_b42 {p : Program} {l : Launch} {e : Env} {s : State} {m : MethodId} {args : Array Value} {below : List Frame} {meth : Method} {c : Code} {D : va_G} {T : TY} {zr_a za_a zg_a : Nat} {xa : XA} {xB : Nat → Option DB} {xo xh : Nat} {zr : Nat → Int32} {za : Nat → Int32} {zg : Nat → Int32} {E : DR} {x3 : Int32} {res : Int32} {K3 : Int32 → Option (Int32)} (hw : WF E) (C : CX p s m args meth c cL_arePosts 11 RL wsL_arePosts (some .boolean) D T) {A : Nat → Prop} (hA : ∀ q, s.heap.size ≤ q → A q) (hK3 : ∀ x4 : Int32, K3 x4 = some res → ∀ (xc : XC), XP xc xB xo xh E → ∀ (H : Heap) (locs : List Loc), va_P D vwCl ((zr_a, .inl (T.1, (60, .inl zr))) :: (za_a, .inl (T.1, (16, .inl za))) :: (zg_a, .inl (T.1, (2, .inl zg))) :: (XW T xa xc ++ PW T xB)) H → va_D A ((zr_a, .inl (T.1, (60, .inl zr))) :: (za_a, .inl (T.1, (16, .inl za))) :: (zg_a, .inl (T.1, (2, .inl zg))) :: (XW T xa xc ++ PW T xB)) → va_S A s.heap H locs → ∀ ls : Array Slot, lv_has ls 11 [(0, .ref xa.1), (1, .ref zr_a), (2, .ref za_a), (3, .int x3), (4, .int x4)] → W p l e rmL_arePosts s m args below meth c H locs 0 0 (MQ below (Qm (some (.int res)) D (fun W9 => ∃ xc : XC, XP xc xB xo xh E ∧ W9 = ((zr_a, .inl (T.1, (60, .inl zr))) :: (za_a, .inl (T.1, (16, .inl za))) :: (zg_a, .inl (T.1, (2, .inl zg))) :: (XW T xa xc ++ PW T xB))) A) args s 0 0 A) (F0 m 3 ls [])) : ∀ F : Nat, ∀ x4 : Int32, ∀ x5 : Int32, ∀ x6 : Int32, ∀ x7 : Int32, ∀ x8 : Int32, ∀ x9 : Int32, ∀ x10 : Int32, f_L_arePosts_b42 zr za E x3 K3 F x4 x5 x6 x7 x8 x9 x10 = some res → ∀ (xc : XC), XP xc xB xo xh E → ∀ (H : Heap) (locs : List Loc), va_P D vwCl ((zr_a, .inl (T.1, (60, .inl zr))) :: (za_a, .inl (T.1, (16, .inl za))) :: (zg_a, .inl (T.1, (2, .inl zg))) :: (XW T xa xc ++ PW T xB)) H → va_D A ((zr_a, .inl (T.1, (60, .inl zr))) :: (za_a, .inl (T.1, (16, .inl za))) :: (zg_a, .inl (T.1, (2, .inl zg))) :: (XW T xa xc ++ PW T xB)) → va_S A s.heap H locs → ∀ ls : Array Slot, lv_has ls 11 [(0, .ref xa.1), (1, .ref zr_a), (2, .ref za_a), (3, .int x3), (4, .int x4), (5, .int x5), (6, .int x6), (7, .int x7), (8, .int x8), (9, .int x9), (10, .int x10)] → W p l e rmL_arePosts s m args below meth c H locs 0 0 (MQ below (Qm (some (.int res)) D (fun W9 => ∃ xc : XC, XP xc xB xo xh E ∧ W9 = ((zr_a, .inl (T.1, (60, .inl zr))) :: (za_a, .inl (T.1, (16, .inl za))) :: (zg_a, .inl (T.1, (2, .inl zg))) :: (XW T xa xc ++ PW T xB))) A) args s 0 0 A) (F0 m 42 ls []) := by
  obtain ⟨hx, hb, hml, hown, hts, hr, hlocks, hK, hN⟩ := id C
  intro F
  induction F with
  | zero => intro _ _ _ _ _ _ _ hf; cases hf
  | succ F ih =>
    intro x4 x5 x6 x7 x8 x9 x10 hf xc hX H locs hP hD hS ls hl
    unfold f_L_arePosts_b42 at hf
    refine lv_iload hx hb dL_arePosts_42 (lv_at hl 10 rfl) ?_
    refine lv_iload_n hx hb dL_arePosts_44 rfl (lv_at hl 3 rfl) ?_
    refine lv_icmp_ge (tgt := 159) hx hb dL_arePosts_45 (by decide) (fun c_45 => ?_) (fun c_45 => ?_)
    · have hf := it_pos c_45 hf
      refine lv_iload hx hb dL_arePosts_159 (lv_at hl 4 rfl) ?_
      refine lv_iconst (v := (4 : Int32)) hx hb dL_arePosts_161 (by decide) ?_
      refine lv_icmp_lt (tgt := 179) hx hb dL_arePosts_162 (by decide) (fun c_162 => ?_) (fun c_162 => ?_)
      · have hf := it_pos c_162 hf
        exact w_L_arePosts_b179 hw C hA hK3 _ _ _ _ _ _ hf _ hX _ _ hP hD hS _ (lv_sub hl [0, 1, 2, 3, 4, 5, 6, 7, 8, 9] rfl)
      · have hf := it_neg c_162 hf
        refine lv_iload hx hb dL_arePosts_165 (lv_at hl 4 rfl) ?_
        refine lv_bipush (v := (11 : Int32)) hx hb dL_arePosts_167 (by decide) ?_
        refine lv_icmp_gt (tgt := 179) hx hb dL_arePosts_169 (by decide) (fun c_169 => ?_) (fun c_169 => ?_)
        · have hf := it_pos c_169 hf
          exact w_L_arePosts_b179 hw C hA hK3 _ _ _ _ _ _ hf _ hX _ _ hP hD hS _ (lv_sub hl [0, 1, 2, 3, 4, 5, 6, 7, 8, 9] rfl)
        · have hf := it_neg c_169 hf
          refine lv_iload hx hb dL_arePosts_172 (lv_at hl 5 rfl) ?_
          refine lv_iload hx hb dL_arePosts_174 (lv_at hl 6 rfl) ?_
          refine lv_icmp_ne (tgt := 183) hx hb dL_arePosts_176 (by decide) (fun c_176 => ?_) (fun c_176 => ?_)
          · have hf := it_neg c_176 hf
            refine lv_iconst (v := (0 : Int32)) hx hb dL_arePosts_183 (by decide) ?_
            exact w_L_arePosts_b184 hw C hA hK3 _ _ _ _ _ _ _ hf _ hX _ _ hP hD hS _ (lv_sub hl [0, 1, 2, 3, 4, 5, 6, 7, 8, 9] rfl)
          · have hf := it_pos c_176 hf
            exact w_L_arePosts_b179 hw C hA hK3 _ _ _ _ _ _ hf _ hX _ _ hP hD hS _ (lv_sub hl [0, 1, 2, 3, 4, 5, 6, 7, 8, 9] rfl)
    · have hf := it_neg c_45 hf
      refine lv_iload hx hb dL_arePosts_48 (lv_at hl 7 rfl) ?_
      refine lv_aload_n hx hb dL_arePosts_50 rfl (lv_at hl 1 rfl) ?_
      refine lv_iload hx hb dL_arePosts_51 (lv_at hl 10 rfl) ?_
      obtain ⟨q53, e_53, hf⟩ := bd_some hf
      refine callPi (va_runS (As := [.ref zr_a, .int x10]) (rest := [.int x7]) ⟨hx, hb, hml, hown, hts⟩ (c_L_goesOn l D T zr_a zr x10 q53 e_53) (va_cwS 2 hts gL_arePosts_L_goesOn rfl rfl rfl hdS_L_goesOn ⟨Nat.le_of_ble_eq_true rfl, Nat.le_of_ble_eq_true rfl⟩) (preBS (hP.sub (ws' := [(zr_a, .inl (T.1, (60, .inl zr)))]) [0] rfl) hK hN) rfl rfl hl.1 rfl (lv_room (Nat.le_of_ble_eq_true rfl)) dL_arePosts_53 ⟨Nat.le_of_ble_eq_true rfl, Nat.le_of_ble_eq_true rfl⟩) ?_
      refine lv_if_eq (tgt := 76) hx hb dL_arePosts_56 (by decide) (fun c_56 => ?_) (fun c_56 => ?_)
      · have hf := it_pos c_56 hf
        exact w_L_arePosts_b76 hw C hA hK3 (fun v0 v1 v2 v3 v4 v5 v6 hf c9 X9 H1 l1 p1 d1 s1 ls hl => ih v0 v1 v2 v3 v4 v5 v6 hf c9 X9 H1 l1 p1 d1 s1 ls hl) _ _ _ _ _ _ _ hf _ hX _ _ hP hD hS _ (lv_sub hl [0, 1, 2, 3, 4, 5, 6, 8, 9, 10] rfl)
      · have hf := it_neg c_56 hf
        refine lv_aload_n hx hb dL_arePosts_59 rfl (lv_at hl 1 rfl) ?_
        refine lv_iconst (v := (3 : Int32)) hx hb dL_arePosts_60 (by decide) ?_
        refine lv_iload hx hb dL_arePosts_61 (lv_at hl 10 rfl) ?_
        refine lv_imul hx hb dL_arePosts_63 ?_
        refine lv_iconst (v := (1 : Int32)) hx hb dL_arePosts_64 (by decide) ?_
        refine lv_iadd hx hb dL_arePosts_65 ?_
        obtain ⟨g_66, hf⟩ := gd_some hf
        refine va_iald (D := D) hx hb hK hP 0 0 rfl rfl (gd_in g_66) dL_arePosts_66 ?_
        refine lv_iload hx hb dL_arePosts_67 (lv_at hl 4 rfl) ?_
        refine lv_icmp_ne (tgt := 76) hx hb dL_arePosts_69 (by decide) (fun c_69 => ?_) (fun c_69 => ?_)
        · have hf := it_neg c_69 hf
          exact w_L_arePosts_b76 hw C hA hK3 (fun v0 v1 v2 v3 v4 v5 v6 hf c9 X9 H1 l1 p1 d1 s1 ls hl => ih v0 v1 v2 v3 v4 v5 v6 hf c9 X9 H1 l1 p1 d1 s1 ls hl) _ _ _ _ _ _ _ hf _ hX _ _ hP hD hS _ (lv_sub hl [0, 1, 2, 3, 4, 5, 6, 8, 9, 10] rfl)
        · have hf := it_pos c_69 hf
          refine lv_iconst (v := (1 : Int32)) hx hb dL_arePosts_72 (by decide) ?_
          refine lv_goto (tgt := 77) hx hb dL_arePosts_73 (by decide) ?_
          exact w_L_arePosts_b77 hw C hA hK3 (fun v0 v1 v2 v3 v4 v5 v6 hf c9 X9 H1 l1 p1 d1 s1 ls hl => ih v0 v1 v2 v3 v4 v5 v6 hf c9 X9 H1 l1 p1 d1 s1 ls hl) _ _ _ _ _ _ _ _ hf _ hX _ _ hP hD hS _ (lv_sub hl [0, 1, 2, 3, 4, 5, 6, 8, 9, 10] rfl)
set_option maxHeartbeats 4000000 in
set_option maxRecDepth 100000 in
theorem w_L_arePosts_b317 {p : Program} {l : Launch} {e : Env} {s : State} {m : MethodId} {args : Array Value} {below : List Frame} {meth : Method} {c : Code} {D : va_G} {T : TY} {zr_a za_a zg_a : Nat} {xa : XA} {xB : Nat → Option DB} {xo xh : Nat} {zr : Nat → Int32} {za : Nat → Int32} {zg : Nat → Int32} {E : DR} {x3 : Int32} {res : Int32} (hw : WF E) (C : CX p s m args meth c cL_arePosts 11 RL wsL_arePosts (some .boolean) D T) {A : Nat → Prop} (hA : ∀ q, s.heap.size ≤ q → A q) : ∀ F : Nat, ∀ x4 : Int32, f_L_arePosts_b317 zr za E x3 F x4 = some res → ∀ (xc : XC), XP xc xB xo xh E → ∀ (H : Heap) (locs : List Loc), va_P D vwCl ((zr_a, .inl (T.1, (60, .inl zr))) :: (za_a, .inl (T.1, (16, .inl za))) :: (zg_a, .inl (T.1, (2, .inl zg))) :: (XW T xa xc ++ PW T xB)) H → va_D A ((zr_a, .inl (T.1, (60, .inl zr))) :: (za_a, .inl (T.1, (16, .inl za))) :: (zg_a, .inl (T.1, (2, .inl zg))) :: (XW T xa xc ++ PW T xB)) → va_S A s.heap H locs → ∀ ls : Array Slot, lv_has ls 11 [(0, .ref xa.1), (4, .int x4)] → W p l e rmL_arePosts s m args below meth c H locs 0 0 (MQ below (Qm (some (.int res)) D (fun W9 => ∃ xc : XC, XP xc xB xo xh E ∧ W9 = ((zr_a, .inl (T.1, (60, .inl zr))) :: (za_a, .inl (T.1, (16, .inl za))) :: (zg_a, .inl (T.1, (2, .inl zg))) :: (XW T xa xc ++ PW T xB))) A) args s 0 0 A) (F0 m 317 ls []) := by
  obtain ⟨hx, hb, hml, hown, hts, hr, hlocks, hK, hN⟩ := id C
  intro F
  induction F with
  | zero => intro _ hf; cases hf
  | succ F ih =>
    intro x4 hf xc hX H locs hP hD hS ls hl
    unfold f_L_arePosts_b317 at hf
    refine lv_iload hx hb dL_arePosts_317 (lv_at hl 1 rfl) ?_
    refine lv_iconst (v := (4 : Int32)) hx hb dL_arePosts_319 (by decide) ?_
    refine lv_icmp_ge (tgt := 389) hx hb dL_arePosts_320 (by decide) (fun c_320 => ?_) (fun c_320 => ?_)
    · have hf := it_pos c_320 hf
      refine lv_iconst (v := (1 : Int32)) hx hb dL_arePosts_389 (by decide) ?_
      obtain rfl := Option.some.inj hf
      exact W.zret hx hb hr (by decide) (fun t ht hW => ⟨rfl, ⟨_, ⟨_, hX, rfl⟩, by rw [ht]; exact hP, hD⟩, hS.F ht⟩) hS.2.2 dL_arePosts_390 hlocks
    · have hf := it_neg c_320 hf
      refine lv_aload_n hx hb dL_arePosts_323 rfl (lv_at hl 0 rfl) ?_
      refine lv_iload hx hb dL_arePosts_324 (lv_at hl 1 rfl) ?_
      obtain ⟨q326, e_326, hf⟩ := bd_some hf
      refine k_height ⟨by decide, by decide⟩ hK hN hA (a := xa) (R := [(zr_a, .inl (T.1, (60, .inl zr))), (za_a, .inl (T.1, (16, .inl za))), (zg_a, .inl (T.1, (2, .inl zg)))]) hX hw e_326 (fun H locs cells slots rm mc ms Pc Qc free hMt hrc hrs hR hpre hroom => va_runV (n := 1) (C := RX6) (b := xa.1) (As := [.int x4]) (rest := []) ⟨hx, hb, hml, hown, hts⟩ hMt (cwV 1 hts gL_arePosts_X6_height rfl hrc hrs hdV_X6_height hR) hpre rfl rfl hl.1 rfl (lv_room (Nat.le_of_ble_eq_true rfl)) dL_arePosts_326 hroom) ⟨hP, hD⟩ hS ⟨Nat.le_of_ble_eq_true rfl, Nat.le_of_ble_eq_true rfl⟩ ?_
      refine lv_aload_n hx hb dL_arePosts_329 rfl (lv_at hl 0 rfl) ?_
      refine lv_iconst (v := (4 : Int32)) hx hb dL_arePosts_330 (by decide) ?_
      refine lv_iload hx hb dL_arePosts_331 (lv_at hl 1 rfl) ?_
      refine lv_imul hx hb dL_arePosts_333 ?_
      refine lv_bipush (v := (7 : Int32)) hx hb dL_arePosts_334 (by decide) ?_
      obtain ⟨q336, e_336, hf⟩ := bd_some hf
      refine k_postOf ⟨by decide, by decide⟩ hK hN hA (a := xa) (R := [(zr_a, .inl (T.1, (60, .inl zr))), (za_a, .inl (T.1, (16, .inl za))), (zg_a, .inl (T.1, (2, .inl zg)))]) hX hw e_336 (fun H locs cells slots rm mc ms Pc Qc free hMt hrc hrs hR hpre hroom => va_runV (n := 2) (C := RX6) (b := xa.1) (As := [.int ((4 : Int32) * x4), .int (7 : Int32)]) (rest := [.int q326]) ⟨hx, hb, hml, hown, hts⟩ hMt (cwV 2 hts gL_arePosts_X6_postOf rfl hrc hrs hdV_X6_postOf hR) hpre rfl rfl hl.1 rfl (lv_room (Nat.le_of_ble_eq_true rfl)) dL_arePosts_336 hroom) ⟨hP, hD⟩ hS ⟨Nat.le_of_ble_eq_true rfl, Nat.le_of_ble_eq_true rfl⟩ ?_
      refine lv_aload_n hx hb dL_arePosts_339 rfl (lv_at hl 0 rfl) ?_
      refine lv_iconst (v := (4 : Int32)) hx hb dL_arePosts_340 (by decide) ?_
      refine lv_iload hx hb dL_arePosts_341 (lv_at hl 1 rfl) ?_
      refine lv_imul hx hb dL_arePosts_343 ?_
      refine lv_iconst (v := (1 : Int32)) hx hb dL_arePosts_344 (by decide) ?_
      refine lv_iadd hx hb dL_arePosts_345 ?_
      refine lv_bipush (v := (7 : Int32)) hx hb dL_arePosts_346 (by decide) ?_
      obtain ⟨q348, e_348, hf⟩ := bd_some hf
      refine k_postOf ⟨by decide, by decide⟩ hK hN hA (a := xa) (R := [(zr_a, .inl (T.1, (60, .inl zr))), (za_a, .inl (T.1, (16, .inl za))), (zg_a, .inl (T.1, (2, .inl zg)))]) hX hw e_348 (fun H locs cells slots rm mc ms Pc Qc free hMt hrc hrs hR hpre hroom => va_runV (n := 2) (C := RX6) (b := xa.1) (As := [.int (((4 : Int32) * x4) + (1 : Int32)), .int (7 : Int32)]) (rest := [.int q336, .int q326]) ⟨hx, hb, hml, hown, hts⟩ hMt (cwV 2 hts gL_arePosts_X6_postOf rfl hrc hrs hdV_X6_postOf hR) hpre rfl rfl hl.1 rfl (lv_room (Nat.le_of_ble_eq_true rfl)) dL_arePosts_348 hroom) ⟨hP, hD⟩ hS ⟨Nat.le_of_ble_eq_true rfl, Nat.le_of_ble_eq_true rfl⟩ ?_
      refine lv_iadd hx hb dL_arePosts_351 ?_
      refine lv_aload_n hx hb dL_arePosts_352 rfl (lv_at hl 0 rfl) ?_
      refine lv_iconst (v := (4 : Int32)) hx hb dL_arePosts_353 (by decide) ?_
      refine lv_iload hx hb dL_arePosts_354 (lv_at hl 1 rfl) ?_
      refine lv_imul hx hb dL_arePosts_356 ?_
      refine lv_iconst (v := (2 : Int32)) hx hb dL_arePosts_357 (by decide) ?_
      refine lv_iadd hx hb dL_arePosts_358 ?_
      refine lv_bipush (v := (7 : Int32)) hx hb dL_arePosts_359 (by decide) ?_
      obtain ⟨q361, e_361, hf⟩ := bd_some hf
      refine k_postOf ⟨by decide, by decide⟩ hK hN hA (a := xa) (R := [(zr_a, .inl (T.1, (60, .inl zr))), (za_a, .inl (T.1, (16, .inl za))), (zg_a, .inl (T.1, (2, .inl zg)))]) hX hw e_361 (fun H locs cells slots rm mc ms Pc Qc free hMt hrc hrs hR hpre hroom => va_runV (n := 2) (C := RX6) (b := xa.1) (As := [.int (((4 : Int32) * x4) + (2 : Int32)), .int (7 : Int32)]) (rest := [.int (q336 + q348), .int q326]) ⟨hx, hb, hml, hown, hts⟩ hMt (cwV 2 hts gL_arePosts_X6_postOf rfl hrc hrs hdV_X6_postOf hR) hpre rfl rfl hl.1 rfl (lv_room (Nat.le_of_ble_eq_true rfl)) dL_arePosts_361 hroom) ⟨hP, hD⟩ hS ⟨Nat.le_of_ble_eq_true rfl, Nat.le_of_ble_eq_true rfl⟩ ?_
      refine lv_iadd hx hb dL_arePosts_364 ?_
      refine lv_aload_n hx hb dL_arePosts_365 rfl (lv_at hl 0 rfl) ?_
      refine lv_iconst (v := (4 : Int32)) hx hb dL_arePosts_366 (by decide) ?_
      refine lv_iload hx hb dL_arePosts_367 (lv_at hl 1 rfl) ?_
      refine lv_imul hx hb dL_arePosts_369 ?_
      refine lv_iconst (v := (3 : Int32)) hx hb dL_arePosts_370 (by decide) ?_
      refine lv_iadd hx hb dL_arePosts_371 ?_
      refine lv_bipush (v := (7 : Int32)) hx hb dL_arePosts_372 (by decide) ?_
      obtain ⟨q374, e_374, hf⟩ := bd_some hf
      refine k_postOf ⟨by decide, by decide⟩ hK hN hA (a := xa) (R := [(zr_a, .inl (T.1, (60, .inl zr))), (za_a, .inl (T.1, (16, .inl za))), (zg_a, .inl (T.1, (2, .inl zg)))]) hX hw e_374 (fun H locs cells slots rm mc ms Pc Qc free hMt hrc hrs hR hpre hroom => va_runV (n := 2) (C := RX6) (b := xa.1) (As := [.int (((4 : Int32) * x4) + (3 : Int32)), .int (7 : Int32)]) (rest := [.int ((q336 + q348) + q361), .int q326]) ⟨hx, hb, hml, hown, hts⟩ hMt (cwV 2 hts gL_arePosts_X6_postOf rfl hrc hrs hdV_X6_postOf hR) hpre rfl rfl hl.1 rfl (lv_room (Nat.le_of_ble_eq_true rfl)) dL_arePosts_374 hroom) ⟨hP, hD⟩ hS ⟨Nat.le_of_ble_eq_true rfl, Nat.le_of_ble_eq_true rfl⟩ ?_
      refine lv_iadd hx hb dL_arePosts_377 ?_
      refine lv_icmp_eq (tgt := 383) hx hb dL_arePosts_378 (by decide) (fun c_378 => ?_) (fun c_378 => ?_)
      · have hf := it_pos c_378 hf
        obtain ⟨v383, e_383, hf⟩ := nm_some hf
        refine lv_iinc (v := v383) (lv' := [(4, .int v383), (0, .ref xa.1)]) hx hb dL_arePosts_383 hl (k := 1) rfl (by rw [e_383]; rfl) (by decide) rfl (fun ls hl => ?_)
        refine lv_goto (tgt := 317) hx hb dL_arePosts_386 (by decide) ?_
        exact ih _ hf _ hX _ _ hP hD hS _ (lv_sub hl [1, 0] rfl)
      · have hf := it_neg c_378 hf
        refine lv_iconst (v := (0 : Int32)) hx hb dL_arePosts_381 (by decide) ?_
        obtain rfl := Option.some.inj hf
        exact W.zret hx hb hr (by decide) (fun t ht hW => ⟨rfl, ⟨_, ⟨_, hX, rfl⟩, by rw [ht]; exact hP, hD⟩, hS.F ht⟩) hS.2.2 dL_arePosts_382 hlocks
set_option maxHeartbeats 4000000 in
set_option maxRecDepth 100000 in
theorem w_L_arePosts_b3 {p : Program} {l : Launch} {e : Env} {s : State} {m : MethodId} {args : Array Value} {below : List Frame} {meth : Method} {c : Code} {D : va_G} {T : TY} {zr_a za_a zg_a : Nat} {xa : XA} {xB : Nat → Option DB} {xo xh : Nat} {zr : Nat → Int32} {za : Nat → Int32} {zg : Nat → Int32} {E : DR} {x3 : Int32} {res : Int32} (hw : WF E) (C : CX p s m args meth c cL_arePosts 11 RL wsL_arePosts (some .boolean) D T) {A : Nat → Prop} (hA : ∀ q, s.heap.size ≤ q → A q) : ∀ F : Nat, ∀ x4 : Int32, f_L_arePosts_b3 zr za E x3 F x4 = some res → ∀ (xc : XC), XP xc xB xo xh E → ∀ (H : Heap) (locs : List Loc), va_P D vwCl ((zr_a, .inl (T.1, (60, .inl zr))) :: (za_a, .inl (T.1, (16, .inl za))) :: (zg_a, .inl (T.1, (2, .inl zg))) :: (XW T xa xc ++ PW T xB)) H → va_D A ((zr_a, .inl (T.1, (60, .inl zr))) :: (za_a, .inl (T.1, (16, .inl za))) :: (zg_a, .inl (T.1, (2, .inl zg))) :: (XW T xa xc ++ PW T xB)) → va_S A s.heap H locs → ∀ ls : Array Slot, lv_has ls 11 [(0, .ref xa.1), (1, .ref zr_a), (2, .ref za_a), (3, .int x3), (4, .int x4)] → W p l e rmL_arePosts s m args below meth c H locs 0 0 (MQ below (Qm (some (.int res)) D (fun W9 => ∃ xc : XC, XP xc xB xo xh E ∧ W9 = ((zr_a, .inl (T.1, (60, .inl zr))) :: (za_a, .inl (T.1, (16, .inl za))) :: (zg_a, .inl (T.1, (2, .inl zg))) :: (XW T xa xc ++ PW T xB))) A) args s 0 0 A) (F0 m 3 ls []) := by
  obtain ⟨hx, hb, hml, hown, hts, hr, hlocks, hK, hN⟩ := id C
  intro F
  induction F with
  | zero => intro _ hf; cases hf
  | succ F ih =>
    intro x4 hf xc hX H locs hP hD hS ls hl
    unfold f_L_arePosts_b3 at hf
    refine lv_iload hx hb dL_arePosts_3 (lv_at hl 4 rfl) ?_
    refine lv_bipush (v := (16 : Int32)) hx hb dL_arePosts_5 (by decide) ?_
    refine lv_icmp_ge (tgt := 314) hx hb dL_arePosts_7 (by decide) (fun c_7 => ?_) (fun c_7 => ?_)
    · have hf := it_pos c_7 hf
      refine lv_iconst (v := (0 : Int32)) hx hb dL_arePosts_314 (by decide) ?_
      refine lv_istore (lv' := [(4, .int (0 : Int32)), (0, .ref xa.1), (1, .ref zr_a), (2, .ref za_a), (3, .int x3)]) hx hb dL_arePosts_315 hl (by decide) rfl (fun ls hl => ?_)
      exact w_L_arePosts_b317 hw C hA _ _ hf _ hX _ _ hP hD hS _ (lv_sub hl [1, 0] rfl)
    · have hf := it_neg c_7 hf
      refine lv_aload_n hx hb dL_arePosts_10 rfl (lv_at hl 1 rfl) ?_
      refine lv_iload_n hx hb dL_arePosts_11 rfl (lv_at hl 3 rfl) ?_
      refine lv_iload hx hb dL_arePosts_12 (lv_at hl 4 rfl) ?_
      refine lv_iconst (v := (1 : Int32)) hx hb dL_arePosts_14 (by decide) ?_
      obtain ⟨q15, e_15, hf⟩ := bd_some hf
      refine callPi (va_runS (As := [.ref zr_a, .int x3, .int x4, .int (1 : Int32)]) (rest := []) ⟨hx, hb, hml, hown, hts⟩ (c_L_side l D T zr_a zr x3 x4 (1 : Int32) q15 e_15) (va_cwS 4 hts gL_arePosts_L_side rfl rfl rfl hdS_L_side ⟨Nat.le_of_ble_eq_true rfl, Nat.le_of_ble_eq_true rfl⟩) (preBS (hP.sub (ws' := [(zr_a, .inl (T.1, (60, .inl zr)))]) [0] rfl) hK hN) rfl rfl hl.1 rfl (lv_room (Nat.le_of_ble_eq_true rfl)) dL_arePosts_15 ⟨Nat.le_of_ble_eq_true rfl, Nat.le_of_ble_eq_true rfl⟩) ?_
      refine lv_istore (lv' := [(5, .int q15), (0, .ref xa.1), (1, .ref zr_a), (2, .ref za_a), (3, .int x3), (4, .int x4)]) hx hb dL_arePosts_18 hl (by decide) rfl (fun ls hl => ?_)
      refine lv_aload_n hx hb dL_arePosts_20 rfl (lv_at hl 2 rfl) ?_
      refine lv_iload_n hx hb dL_arePosts_21 rfl (lv_at hl 4 rfl) ?_
      refine lv_iload hx hb dL_arePosts_22 (lv_at hl 5 rfl) ?_
      refine lv_iconst (v := (0 : Int32)) hx hb dL_arePosts_24 (by decide) ?_
      obtain ⟨q25, e_25, hf⟩ := bd_some hf
      refine callPi (va_runS (As := [.ref zr_a, .int x3, .int x4, .int (0 : Int32)]) (rest := []) ⟨hx, hb, hml, hown, hts⟩ (c_L_side l D T zr_a zr x3 x4 (0 : Int32) q25 e_25) (va_cwS 4 hts gL_arePosts_L_side rfl rfl rfl hdS_L_side ⟨Nat.le_of_ble_eq_true rfl, Nat.le_of_ble_eq_true rfl⟩) (preBS (hP.sub (ws' := [(zr_a, .inl (T.1, (60, .inl zr)))]) [0] rfl) hK hN) rfl rfl hl.1 rfl (lv_room (Nat.le_of_ble_eq_true rfl)) dL_arePosts_25 ⟨Nat.le_of_ble_eq_true rfl, Nat.le_of_ble_eq_true rfl⟩) ?_
      refine lv_istore (lv' := [(6, .int q25), (5, .int q15), (0, .ref xa.1), (1, .ref zr_a), (2, .ref za_a), (3, .int x3), (4, .int x4)]) hx hb dL_arePosts_28 hl (by decide) rfl (fun ls hl => ?_)
      refine lv_iconst (v := (0 : Int32)) hx hb dL_arePosts_30 (by decide) ?_
      refine lv_istore (lv' := [(7, .int (0 : Int32)), (6, .int q25), (5, .int q15), (0, .ref xa.1), (1, .ref zr_a), (2, .ref za_a), (3, .int x3), (4, .int x4)]) hx hb dL_arePosts_31 hl (by decide) rfl (fun ls hl => ?_)
      refine lv_iconst (v := (0 : Int32)) hx hb dL_arePosts_33 (by decide) ?_
      refine lv_istore (lv' := [(8, .int (0 : Int32)), (7, .int (0 : Int32)), (6, .int q25), (5, .int q15), (0, .ref xa.1), (1, .ref zr_a), (2, .ref za_a), (3, .int x3), (4, .int x4)]) hx hb dL_arePosts_34 hl (by decide) rfl (fun ls hl => ?_)
      refine lv_iconst (v := (0 : Int32)) hx hb dL_arePosts_36 (by decide) ?_
      refine lv_istore (lv' := [(9, .int (0 : Int32)), (8, .int (0 : Int32)), (7, .int (0 : Int32)), (6, .int q25), (5, .int q15), (0, .ref xa.1), (1, .ref zr_a), (2, .ref za_a), (3, .int x3), (4, .int x4)]) hx hb dL_arePosts_37 hl (by decide) rfl (fun ls hl => ?_)
      refine lv_iconst (v := (0 : Int32)) hx hb dL_arePosts_39 (by decide) ?_
      refine lv_istore (lv' := [(10, .int (0 : Int32)), (9, .int (0 : Int32)), (8, .int (0 : Int32)), (7, .int (0 : Int32)), (6, .int q25), (5, .int q15), (0, .ref xa.1), (1, .ref zr_a), (2, .ref za_a), (3, .int x3), (4, .int x4)]) hx hb dL_arePosts_40 hl (by decide) rfl (fun ls hl => ?_)
      exact w_L_arePosts_b42 hw C hA (fun v0 hf c9 X9 H1 l1 p1 d1 s1 ls hl => ih v0 hf c9 X9 H1 l1 p1 d1 s1 ls hl) _ _ _ _ _ _ _ _ hf _ hX _ _ hP hD hS _ (lv_sub hl [6, 7, 8, 9, 10, 5, 4, 3, 2, 1, 0] rfl)
set_option maxHeartbeats 4000000 in
set_option maxRecDepth 100000 in
theorem w_L_arePosts_b0 {p : Program} {l : Launch} {e : Env} {s : State} {m : MethodId} {args : Array Value} {below : List Frame} {meth : Method} {c : Code} {D : va_G} {T : TY} {zr_a za_a zg_a : Nat} {xa : XA} {xB : Nat → Option DB} {xo xh : Nat} {zr : Nat → Int32} {za : Nat → Int32} {zg : Nat → Int32} {E : DR} {x3 : Int32} {res : Int32} (hw : WF E) (C : CX p s m args meth c cL_arePosts 11 RL wsL_arePosts (some .boolean) D T) {A : Nat → Prop} (hA : ∀ q, s.heap.size ≤ q → A q) : f_L_arePosts zr za E x3 = some res → ∀ (xc : XC), XP xc xB xo xh E → ∀ (H : Heap) (locs : List Loc), va_P D vwCl ((zr_a, .inl (T.1, (60, .inl zr))) :: (za_a, .inl (T.1, (16, .inl za))) :: (zg_a, .inl (T.1, (2, .inl zg))) :: (XW T xa xc ++ PW T xB)) H → va_D A ((zr_a, .inl (T.1, (60, .inl zr))) :: (za_a, .inl (T.1, (16, .inl za))) :: (zg_a, .inl (T.1, (2, .inl zg))) :: (XW T xa xc ++ PW T xB)) → va_S A s.heap H locs → ∀ ls : Array Slot, lv_has ls 11 [(0, .ref xa.1), (1, .ref zr_a), (2, .ref za_a), (3, .int x3)] → W p l e rmL_arePosts s m args below meth c H locs 0 0 (MQ below (Qm (some (.int res)) D (fun W9 => ∃ xc : XC, XP xc xB xo xh E ∧ W9 = ((zr_a, .inl (T.1, (60, .inl zr))) :: (za_a, .inl (T.1, (16, .inl za))) :: (zg_a, .inl (T.1, (2, .inl zg))) :: (XW T xa xc ++ PW T xB))) A) args s 0 0 A) (F0 m 0 ls []) := by
  obtain ⟨hx, hb, hml, hown, hts, hr, hlocks, hK, hN⟩ := id C
  intro  hf xc hX H locs hP hD hS ls hl
  unfold f_L_arePosts at hf
  refine lv_iconst (v := (0 : Int32)) hx hb dL_arePosts_0 (by decide) ?_
  refine lv_istore (lv' := [(4, .int (0 : Int32)), (0, .ref xa.1), (1, .ref zr_a), (2, .ref za_a), (3, .int x3)]) hx hb dL_arePosts_1 hl (by decide) rfl (fun ls hl => ?_)
  exact w_L_arePosts_b3 hw C hA _ _ hf _ hX _ _ hP hD hS _ (lv_sub hl [1, 2, 3, 4, 0] rfl)
theorem c_L_arePosts (l : Launch) (D : va_G) (T : TY) (zr_a za_a zg_a : Nat) (xa : XA) (zr : Nat → Int32) (za : Nat → Int32) (zg : Nat → Int32) (E : DR) (x3 : Int32) (res : Int32) (hf : f_L_arePosts zr za E x3 = some res) (xc : XC) (xB : Nat → Option DB) (xo xh : Nat) (hX : XP xc xB xo xh E) (hw : WF E) (sz : Nat) : Met l yL_arePosts wsL_arePosts rmL_arePosts (va_Pc [.ref xa.1, .ref zr_a, .ref za_a, .int x3] (PM D T ((zr_a, .inl (T.1, (60, .inl zr))) :: (za_a, .inl (T.1, (16, .inl za))) :: (zg_a, .inl (T.1, (2, .inl zg))) :: (XW T xa xc ++ PW T xB)) sz)) (Qm (some (.int res)) D (fun W9 => ∃ xc : XC, XP xc xB xo xh E ∧ W9 = ((zr_a, .inl (T.1, (60, .inl zr))) :: (za_a, .inl (T.1, (16, .inl za))) :: (zg_a, .inl (T.1, (2, .inl zg))) :: (XW T xa xc ++ PW T xB))) (va_A ((zr_a, .inl (T.1, (60, .inl zr))) :: (za_a, .inl (T.1, (16, .inl za))) :: (zg_a, .inl (T.1, (2, .inl zg))) :: (XW T xa xc ++ PW T xB)) sz)) 0 0 (va_A ((zr_a, .inl (T.1, (60, .inl zr))) :: (za_a, .inl (T.1, (16, .inl za))) :: (zg_a, .inl (T.1, (2, .inl zg))) :: (XW T xa xc ++ PW T xB)) sz) :=
  metM_of (by decide +kernel) rfl (Nat.le_of_ble_eq_true rfl) (fun p e s m args below meth c C hnm A hA hP hD ls hl => w_L_arePosts_b0 hw C hA hf _ hX _ _ hP hD va_S.rf ls hl)
