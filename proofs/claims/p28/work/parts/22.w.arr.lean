/-! ===== walks, laid by wip/gen28/genarr.py ===== -/
def rmL_through : Room := { frames := 1, cells := 2, slots := 36, locals := 21 }
theorem hdS_L_through : yL_through.cls ≠ "java/lang/invoke/MethodHandle" ∧ yL_through.cls ≠ "java/lang/invoke/VarHandle" ∧ (parseMethodDescriptor yL_through.desc).map (fun d => d.parameters.length) = some 3 := by decide +kernel
theorem mw_L_through_0 : Cond.arrayClass .int ∈ wsL_through := by decide +kernel
theorem mw_L_through_1 : Cond.static yL_goesOn ∈ wsL_through := by decide +kernel
set_option maxHeartbeats 4000000 in
set_option maxRecDepth 100000 in
theorem w_L_through_b40 {p : Program} {l : Launch} {e : Env} {s : State} {m : MethodId} {args : Array Value} {below : List Frame} {meth : Method} {c : Code} {D : va_G} {T : TY} {zr_a q2 q7 : Nat} {zr : Nat → Int32} {x1 : Int32} {x2 : Int32} {res : Int32} {K14 : Int32 → (Nat → Int32) → (Nat → Int32) → Option (Int32)} {K17 : Int32 → Int32 → (Nat → Int32) → (Nat → Int32) → Option (Int32)} {A : Nat → Prop} (C : CX p s m args meth c cL_through 10 RL wsL_through (some .int) D T) (hA : ∀ q, s.heap.size ≤ q → A q) (hK14 : ∀ x5 : Int32, ∀ q2_c : Nat → Int32, ∀ q7_c : Nat → Int32, K14 x5 q2_c q7_c = some res → ∀ (H : Heap) (locs : List Loc), va_P D vwCl [(zr_a, .inl (T.1, (60, .inl zr))), (q2, .inl (T.1, (20, .inl q2_c))), (q7, .inl (T.1, (16, .inl q7_c)))] H → va_D A [(zr_a, .inl (T.1, (60, .inl zr))), (q2, .inl (T.1, (20, .inl q2_c))), (q7, .inl (T.1, (16, .inl q7_c)))] → va_S A s.heap H locs → ∀ ls : Array Slot, lv_has ls 10 [(0, .ref zr_a), (1, .int x1), (2, .int x2), (3, .ref q2), (4, .ref q7), (5, .int x5)] → W p l e rmL_through s m args below meth c H locs 2 36 (MQ below (Qm (some (.int res)) D (fun W9 => W9 = [(zr_a, .inl (T.1, (60, .inl zr)))]) A) args s 2 36 A) (F0 m 14 ls [])) (hK17 : ∀ x5 : Int32, ∀ x6 : Int32, ∀ q2_c : Nat → Int32, ∀ q7_c : Nat → Int32, K17 x5 x6 q2_c q7_c = some res → ∀ (H : Heap) (locs : List Loc), va_P D vwCl [(zr_a, .inl (T.1, (60, .inl zr))), (q2, .inl (T.1, (20, .inl q2_c))), (q7, .inl (T.1, (16, .inl q7_c)))] H → va_D A [(zr_a, .inl (T.1, (60, .inl zr))), (q2, .inl (T.1, (20, .inl q2_c))), (q7, .inl (T.1, (16, .inl q7_c)))] → va_S A s.heap H locs → ∀ ls : Array Slot, lv_has ls 10 [(0, .ref zr_a), (1, .int x1), (2, .int x2), (3, .ref q2), (4, .ref q7), (5, .int x5), (6, .int x6)] → W p l e rmL_through s m args below meth c H locs 2 36 (MQ below (Qm (some (.int res)) D (fun W9 => W9 = [(zr_a, .inl (T.1, (60, .inl zr)))]) A) args s 2 36 A) (F0 m 17 ls [])) : ∀ s0 : Int32, ∀ s1 : Int32, ∀ x5 : Int32, ∀ x6 : Int32, ∀ q2_c : Nat → Int32, ∀ q7_c : Nat → Int32, f_L_through_b40 zr x1 x2 K14 K17 s0 s1 x5 x6 q2_c q7_c = some res → ∀ (H : Heap) (locs : List Loc), va_P D vwCl [(zr_a, .inl (T.1, (60, .inl zr))), (q2, .inl (T.1, (20, .inl q2_c))), (q7, .inl (T.1, (16, .inl q7_c)))] H → va_D A [(zr_a, .inl (T.1, (60, .inl zr))), (q2, .inl (T.1, (20, .inl q2_c))), (q7, .inl (T.1, (16, .inl q7_c)))] → va_S A s.heap H locs → ∀ ls : Array Slot, lv_has ls 10 [(0, .ref zr_a), (1, .int x1), (2, .int x2), (3, .ref q2), (4, .ref q7), (5, .int x5), (6, .int x6)] → W p l e rmL_through s m args below meth c H locs 2 36 (MQ below (Qm (some (.int res)) D (fun W9 => W9 = [(zr_a, .inl (T.1, (60, .inl zr)))]) A) args s 2 36 A) (F0 m 40 ls [.int s0, .int s1, .ref q7]) := by
  obtain ⟨hx, hb, hml, hown, hts, hr, hlocks, hK, hN⟩ := id C
  intro s0 s1 x5 x6 q2_c q7_c hf H locs hP hD hS ls hl
  unfold f_L_through_b40 at hf
  obtain ⟨g_40, hf⟩ := gd_some hf
  refine va_iast (D := D) hx hb hK hP hD hS 2 0 rfl rfl (gd_in g_40) dL_through_40 (fun H locs hP hD hS => ?_)
  have hP : va_P D vwCl [(zr_a, .inl (T.1, (60, .inl zr))), (q2, .inl (T.1, (20, .inl q2_c))), (q7, .inl (T.1, (16, .inl (upd q7_c s1.toNatClampNeg s0))))] H := hP
  have hD : va_D A [(zr_a, .inl (T.1, (60, .inl zr))), (q2, .inl (T.1, (20, .inl q2_c))), (q7, .inl (T.1, (16, .inl (upd q7_c s1.toNatClampNeg s0))))] := hD
  obtain ⟨v41, e_41, hf⟩ := nm_some hf
  refine lv_iinc (v := v41) (lv' := [(6, .int v41), (0, .ref zr_a), (1, .int x1), (2, .int x2), (3, .ref q2), (4, .ref q7), (5, .int x5)]) hx hb dL_through_41 hl (k := 6) rfl (by rw [e_41]; rfl) (by decide) rfl (fun ls hl => ?_)
  refine lv_goto (tgt := 17) hx hb dL_through_44 (by decide) ?_
  exact hK17 _ _ _ _ hf _ _ hP hD hS _ (lv_sub hl [1, 2, 3, 4, 5, 6, 0] rfl)
set_option maxHeartbeats 4000000 in
set_option maxRecDepth 100000 in
theorem w_L_through_b189 {p : Program} {l : Launch} {e : Env} {s : State} {m : MethodId} {args : Array Value} {below : List Frame} {meth : Method} {c : Code} {D : va_G} {T : TY} {zr_a q2 q7 : Nat} {zr : Nat → Int32} {x1 : Int32} {x2 : Int32} {res : Int32} {K14 : Int32 → (Nat → Int32) → (Nat → Int32) → Option (Int32)} {K50 : Int32 → Int32 → (Nat → Int32) → (Nat → Int32) → Option (Int32)} {K60 : Int32 → Int32 → Int32 → (Nat → Int32) → (Nat → Int32) → Option (Int32)} {A : Nat → Prop} (C : CX p s m args meth c cL_through 10 RL wsL_through (some .int) D T) (hA : ∀ q, s.heap.size ≤ q → A q) (hK14 : ∀ x5 : Int32, ∀ q2_c : Nat → Int32, ∀ q7_c : Nat → Int32, K14 x5 q2_c q7_c = some res → ∀ (H : Heap) (locs : List Loc), va_P D vwCl [(zr_a, .inl (T.1, (60, .inl zr))), (q2, .inl (T.1, (20, .inl q2_c))), (q7, .inl (T.1, (16, .inl q7_c)))] H → va_D A [(zr_a, .inl (T.1, (60, .inl zr))), (q2, .inl (T.1, (20, .inl q2_c))), (q7, .inl (T.1, (16, .inl q7_c)))] → va_S A s.heap H locs → ∀ ls : Array Slot, lv_has ls 10 [(0, .ref zr_a), (1, .int x1), (2, .int x2), (3, .ref q2), (4, .ref q7), (5, .int x5)] → W p l e rmL_through s m args below meth c H locs 2 36 (MQ below (Qm (some (.int res)) D (fun W9 => W9 = [(zr_a, .inl (T.1, (60, .inl zr)))]) A) args s 2 36 A) (F0 m 14 ls [])) (hK50 : ∀ x5 : Int32, ∀ x6 : Int32, ∀ q2_c : Nat → Int32, ∀ q7_c : Nat → Int32, K50 x5 x6 q2_c q7_c = some res → ∀ (H : Heap) (locs : List Loc), va_P D vwCl [(zr_a, .inl (T.1, (60, .inl zr))), (q2, .inl (T.1, (20, .inl q2_c))), (q7, .inl (T.1, (16, .inl q7_c)))] H → va_D A [(zr_a, .inl (T.1, (60, .inl zr))), (q2, .inl (T.1, (20, .inl q2_c))), (q7, .inl (T.1, (16, .inl q7_c)))] → va_S A s.heap H locs → ∀ ls : Array Slot, lv_has ls 10 [(0, .ref zr_a), (1, .int x1), (2, .int x2), (3, .ref q2), (4, .ref q7), (5, .int x5), (6, .int x6)] → W p l e rmL_through s m args below meth c H locs 2 36 (MQ below (Qm (some (.int res)) D (fun W9 => W9 = [(zr_a, .inl (T.1, (60, .inl zr)))]) A) args s 2 36 A) (F0 m 50 ls [])) (hK60 : ∀ x5 : Int32, ∀ x6 : Int32, ∀ x7 : Int32, ∀ q2_c : Nat → Int32, ∀ q7_c : Nat → Int32, K60 x5 x6 x7 q2_c q7_c = some res → ∀ (H : Heap) (locs : List Loc), va_P D vwCl [(zr_a, .inl (T.1, (60, .inl zr))), (q2, .inl (T.1, (20, .inl q2_c))), (q7, .inl (T.1, (16, .inl q7_c)))] H → va_D A [(zr_a, .inl (T.1, (60, .inl zr))), (q2, .inl (T.1, (20, .inl q2_c))), (q7, .inl (T.1, (16, .inl q7_c)))] → va_S A s.heap H locs → ∀ ls : Array Slot, lv_has ls 10 [(0, .ref zr_a), (1, .int x1), (2, .int x2), (3, .ref q2), (4, .ref q7), (5, .int x5), (6, .int x6), (7, .int x7)] → W p l e rmL_through s m args below meth c H locs 2 36 (MQ below (Qm (some (.int res)) D (fun W9 => W9 = [(zr_a, .inl (T.1, (60, .inl zr)))]) A) args s 2 36 A) (F0 m 60 ls [])) : ∀ x5 : Int32, ∀ x6 : Int32, ∀ x7 : Int32, ∀ q2_c : Nat → Int32, ∀ q7_c : Nat → Int32, f_L_through_b189 zr x1 x2 K14 K50 K60 x5 x6 x7 q2_c q7_c = some res → ∀ (H : Heap) (locs : List Loc), va_P D vwCl [(zr_a, .inl (T.1, (60, .inl zr))), (q2, .inl (T.1, (20, .inl q2_c))), (q7, .inl (T.1, (16, .inl q7_c)))] H → va_D A [(zr_a, .inl (T.1, (60, .inl zr))), (q2, .inl (T.1, (20, .inl q2_c))), (q7, .inl (T.1, (16, .inl q7_c)))] → va_S A s.heap H locs → ∀ ls : Array Slot, lv_has ls 10 [(0, .ref zr_a), (1, .int x1), (2, .int x2), (3, .ref q2), (4, .ref q7), (5, .int x5), (6, .int x6), (7, .int x7)] → W p l e rmL_through s m args below meth c H locs 2 36 (MQ below (Qm (some (.int res)) D (fun W9 => W9 = [(zr_a, .inl (T.1, (60, .inl zr)))]) A) args s 2 36 A) (F0 m 189 ls []) := by
  obtain ⟨hx, hb, hml, hown, hts, hr, hlocks, hK, hN⟩ := id C
  intro x5 x6 x7 q2_c q7_c hf H locs hP hD hS ls hl
  unfold f_L_through_b189 at hf
  obtain ⟨v189, e_189, hf⟩ := nm_some hf
  refine lv_iinc (v := v189) (lv' := [(7, .int v189), (0, .ref zr_a), (1, .int x1), (2, .int x2), (3, .ref q2), (4, .ref q7), (5, .int x5), (6, .int x6)]) hx hb dL_through_189 hl (k := 7) rfl (by rw [e_189]; rfl) (by decide) rfl (fun ls hl => ?_)
  refine lv_goto (tgt := 60) hx hb dL_through_192 (by decide) ?_
  exact hK60 _ _ _ _ _ hf _ _ hP hD hS _ (lv_sub hl [1, 2, 3, 4, 5, 6, 7, 0] rfl)
set_option maxHeartbeats 4000000 in
set_option maxRecDepth 100000 in
theorem w_L_through_b149 {p : Program} {l : Launch} {e : Env} {s : State} {m : MethodId} {args : Array Value} {below : List Frame} {meth : Method} {c : Code} {D : va_G} {T : TY} {zr_a q2 q7 : Nat} {zr : Nat → Int32} {x1 : Int32} {x2 : Int32} {res : Int32} {K14 : Int32 → (Nat → Int32) → (Nat → Int32) → Option (Int32)} {K50 : Int32 → Int32 → (Nat → Int32) → (Nat → Int32) → Option (Int32)} {K60 : Int32 → Int32 → Int32 → (Nat → Int32) → (Nat → Int32) → Option (Int32)} {A : Nat → Prop} (C : CX p s m args meth c cL_through 10 RL wsL_through (some .int) D T) (hA : ∀ q, s.heap.size ≤ q → A q) (hK14 : ∀ x5 : Int32, ∀ q2_c : Nat → Int32, ∀ q7_c : Nat → Int32, K14 x5 q2_c q7_c = some res → ∀ (H : Heap) (locs : List Loc), va_P D vwCl [(zr_a, .inl (T.1, (60, .inl zr))), (q2, .inl (T.1, (20, .inl q2_c))), (q7, .inl (T.1, (16, .inl q7_c)))] H → va_D A [(zr_a, .inl (T.1, (60, .inl zr))), (q2, .inl (T.1, (20, .inl q2_c))), (q7, .inl (T.1, (16, .inl q7_c)))] → va_S A s.heap H locs → ∀ ls : Array Slot, lv_has ls 10 [(0, .ref zr_a), (1, .int x1), (2, .int x2), (3, .ref q2), (4, .ref q7), (5, .int x5)] → W p l e rmL_through s m args below meth c H locs 2 36 (MQ below (Qm (some (.int res)) D (fun W9 => W9 = [(zr_a, .inl (T.1, (60, .inl zr)))]) A) args s 2 36 A) (F0 m 14 ls [])) (hK50 : ∀ x5 : Int32, ∀ x6 : Int32, ∀ q2_c : Nat → Int32, ∀ q7_c : Nat → Int32, K50 x5 x6 q2_c q7_c = some res → ∀ (H : Heap) (locs : List Loc), va_P D vwCl [(zr_a, .inl (T.1, (60, .inl zr))), (q2, .inl (T.1, (20, .inl q2_c))), (q7, .inl (T.1, (16, .inl q7_c)))] H → va_D A [(zr_a, .inl (T.1, (60, .inl zr))), (q2, .inl (T.1, (20, .inl q2_c))), (q7, .inl (T.1, (16, .inl q7_c)))] → va_S A s.heap H locs → ∀ ls : Array Slot, lv_has ls 10 [(0, .ref zr_a), (1, .int x1), (2, .int x2), (3, .ref q2), (4, .ref q7), (5, .int x5), (6, .int x6)] → W p l e rmL_through s m args below meth c H locs 2 36 (MQ below (Qm (some (.int res)) D (fun W9 => W9 = [(zr_a, .inl (T.1, (60, .inl zr)))]) A) args s 2 36 A) (F0 m 50 ls [])) (hK60 : ∀ x5 : Int32, ∀ x6 : Int32, ∀ x7 : Int32, ∀ q2_c : Nat → Int32, ∀ q7_c : Nat → Int32, K60 x5 x6 x7 q2_c q7_c = some res → ∀ (H : Heap) (locs : List Loc), va_P D vwCl [(zr_a, .inl (T.1, (60, .inl zr))), (q2, .inl (T.1, (20, .inl q2_c))), (q7, .inl (T.1, (16, .inl q7_c)))] H → va_D A [(zr_a, .inl (T.1, (60, .inl zr))), (q2, .inl (T.1, (20, .inl q2_c))), (q7, .inl (T.1, (16, .inl q7_c)))] → va_S A s.heap H locs → ∀ ls : Array Slot, lv_has ls 10 [(0, .ref zr_a), (1, .int x1), (2, .int x2), (3, .ref q2), (4, .ref q7), (5, .int x5), (6, .int x6), (7, .int x7)] → W p l e rmL_through s m args below meth c H locs 2 36 (MQ below (Qm (some (.int res)) D (fun W9 => W9 = [(zr_a, .inl (T.1, (60, .inl zr)))]) A) args s 2 36 A) (F0 m 60 ls [])) : ∀ x5 : Int32, ∀ x6 : Int32, ∀ x7 : Int32, ∀ x8 : Int32, ∀ x9 : Int32, ∀ q2_c : Nat → Int32, ∀ q7_c : Nat → Int32, f_L_through_b149 zr x1 x2 K14 K50 K60 x5 x6 x7 x8 x9 q2_c q7_c = some res → ∀ (H : Heap) (locs : List Loc), va_P D vwCl [(zr_a, .inl (T.1, (60, .inl zr))), (q2, .inl (T.1, (20, .inl q2_c))), (q7, .inl (T.1, (16, .inl q7_c)))] H → va_D A [(zr_a, .inl (T.1, (60, .inl zr))), (q2, .inl (T.1, (20, .inl q2_c))), (q7, .inl (T.1, (16, .inl q7_c)))] → va_S A s.heap H locs → ∀ ls : Array Slot, lv_has ls 10 [(0, .ref zr_a), (1, .int x1), (2, .int x2), (3, .ref q2), (4, .ref q7), (5, .int x5), (6, .int x6), (7, .int x7), (8, .int x8), (9, .int x9)] → W p l e rmL_through s m args below meth c H locs 2 36 (MQ below (Qm (some (.int res)) D (fun W9 => W9 = [(zr_a, .inl (T.1, (60, .inl zr)))]) A) args s 2 36 A) (F0 m 149 ls []) := by
  obtain ⟨hx, hb, hml, hown, hts, hr, hlocks, hK, hN⟩ := id C
  intro x5 x6 x7 x8 x9 q2_c q7_c hf H locs hP hD hS ls hl
  unfold f_L_through_b149 at hf
  refine lv_aload hx hb dL_through_149 (lv_at hl 4 rfl) ?_
  refine lv_iload hx hb dL_through_151 (lv_at hl 9 rfl) ?_
  obtain ⟨g_153, hf⟩ := gd_some hf
  refine va_iald (D := D) hx hb hK hP 2 0 rfl rfl (gd_in g_153) dL_through_153 ?_
  refine lv_if_eq (tgt := 189) hx hb dL_through_154 (by decide) (fun c_154 => ?_) (fun c_154 => ?_)
  · have hf := it_pos c_154 hf
    exact w_L_through_b189 C hA hK14 hK50 hK60 _ _ _ _ _ hf _ _ hP hD hS _ (lv_sub hl [0, 1, 2, 3, 4, 5, 6, 7] rfl)
  · have hf := it_neg c_154 hf
    refine lv_aload hx hb dL_through_157 (lv_at hl 4 rfl) ?_
    refine lv_iload hx hb dL_through_159 (lv_at hl 8 rfl) ?_
    obtain ⟨g_161, hf⟩ := gd_some hf
    refine va_iald (D := D) hx hb hK hP 2 0 rfl rfl (gd_in g_161) dL_through_161 ?_
    refine lv_if_ne (tgt := 189) hx hb dL_through_162 (by decide) (fun c_162 => ?_) (fun c_162 => ?_)
    · have hf := it_neg c_162 hf
      exact w_L_through_b189 C hA hK14 hK50 hK60 _ _ _ _ _ hf _ _ hP hD hS _ (lv_sub hl [0, 1, 2, 3, 4, 5, 6, 7] rfl)
    · have hf := it_pos c_162 hf
      refine lv_aload_n hx hb dL_through_165 rfl (lv_at hl 3 rfl) ?_
      refine lv_iload hx hb dL_through_166 (lv_at hl 7 rfl) ?_
      obtain ⟨g_168, hf⟩ := gd_some hf
      refine va_iald (D := D) hx hb hK hP 1 0 rfl rfl (gd_in g_168) dL_through_168 ?_
      refine lv_if_le (tgt := 189) hx hb dL_through_169 (by decide) (fun c_169 => ?_) (fun c_169 => ?_)
      · have hf := it_pos c_169 hf
        exact w_L_through_b189 C hA hK14 hK50 hK60 _ _ _ _ _ hf _ _ hP hD hS _ (lv_sub hl [0, 1, 2, 3, 4, 5, 6, 7] rfl)
      · have hf := it_neg c_169 hf
        refine lv_iload hx hb dL_through_172 (lv_at hl 9 rfl) ?_
        refine lv_bipush (v := (12 : Int32)) hx hb dL_through_174 (by decide) ?_
        refine lv_icmp_ge (tgt := 189) hx hb dL_through_176 (by decide) (fun c_176 => ?_) (fun c_176 => ?_)
        · have hf := it_pos c_176 hf
          exact w_L_through_b189 C hA hK14 hK50 hK60 _ _ _ _ _ hf _ _ hP hD hS _ (lv_sub hl [0, 1, 2, 3, 4, 5, 6, 7] rfl)
        · have hf := it_neg c_176 hf
          refine lv_aload hx hb dL_through_179 (lv_at hl 4 rfl) ?_
          refine lv_iload hx hb dL_through_181 (lv_at hl 8 rfl) ?_
          refine lv_iload hx hb dL_through_183 (lv_at hl 7 rfl) ?_
          refine lv_ineg hx hb dL_through_185 ?_
          refine lv_iconst (v := (1 : Int32)) hx hb dL_through_186 (by decide) ?_
          refine lv_isub hx hb dL_through_187 ?_
          obtain ⟨v188, e_188, hf⟩ := nm_some hf
          refine lv_nmi e_188 ?_
          obtain ⟨g_188, hf⟩ := gd_some hf
          refine va_iast (D := D) hx hb hK hP hD hS 2 0 rfl rfl (gd_in g_188) dL_through_188 (fun H locs hP hD hS => ?_)
          have hP : va_P D vwCl [(zr_a, .inl (T.1, (60, .inl zr))), (q2, .inl (T.1, (20, .inl q2_c))), (q7, .inl (T.1, (16, .inl (upd q7_c x8.toNatClampNeg v188))))] H := hP
          have hD : va_D A [(zr_a, .inl (T.1, (60, .inl zr))), (q2, .inl (T.1, (20, .inl q2_c))), (q7, .inl (T.1, (16, .inl (upd q7_c x8.toNatClampNeg v188))))] := hD
          exact w_L_through_b189 C hA hK14 hK50 hK60 _ _ _ _ _ hf _ _ hP hD hS _ (lv_sub hl [0, 1, 2, 3, 4, 5, 6, 7] rfl)
set_option maxHeartbeats 4000000 in
set_option maxRecDepth 100000 in
theorem w_L_through_b60 {p : Program} {l : Launch} {e : Env} {s : State} {m : MethodId} {args : Array Value} {below : List Frame} {meth : Method} {c : Code} {D : va_G} {T : TY} {zr_a q2 q7 : Nat} {zr : Nat → Int32} {x1 : Int32} {x2 : Int32} {res : Int32} {K14 : Int32 → (Nat → Int32) → (Nat → Int32) → Option (Int32)} {K50 : Int32 → Int32 → (Nat → Int32) → (Nat → Int32) → Option (Int32)} {A : Nat → Prop} (C : CX p s m args meth c cL_through 10 RL wsL_through (some .int) D T) (hA : ∀ q, s.heap.size ≤ q → A q) (hK14 : ∀ x5 : Int32, ∀ q2_c : Nat → Int32, ∀ q7_c : Nat → Int32, K14 x5 q2_c q7_c = some res → ∀ (H : Heap) (locs : List Loc), va_P D vwCl [(zr_a, .inl (T.1, (60, .inl zr))), (q2, .inl (T.1, (20, .inl q2_c))), (q7, .inl (T.1, (16, .inl q7_c)))] H → va_D A [(zr_a, .inl (T.1, (60, .inl zr))), (q2, .inl (T.1, (20, .inl q2_c))), (q7, .inl (T.1, (16, .inl q7_c)))] → va_S A s.heap H locs → ∀ ls : Array Slot, lv_has ls 10 [(0, .ref zr_a), (1, .int x1), (2, .int x2), (3, .ref q2), (4, .ref q7), (5, .int x5)] → W p l e rmL_through s m args below meth c H locs 2 36 (MQ below (Qm (some (.int res)) D (fun W9 => W9 = [(zr_a, .inl (T.1, (60, .inl zr)))]) A) args s 2 36 A) (F0 m 14 ls [])) (hK50 : ∀ x5 : Int32, ∀ x6 : Int32, ∀ q2_c : Nat → Int32, ∀ q7_c : Nat → Int32, K50 x5 x6 q2_c q7_c = some res → ∀ (H : Heap) (locs : List Loc), va_P D vwCl [(zr_a, .inl (T.1, (60, .inl zr))), (q2, .inl (T.1, (20, .inl q2_c))), (q7, .inl (T.1, (16, .inl q7_c)))] H → va_D A [(zr_a, .inl (T.1, (60, .inl zr))), (q2, .inl (T.1, (20, .inl q2_c))), (q7, .inl (T.1, (16, .inl q7_c)))] → va_S A s.heap H locs → ∀ ls : Array Slot, lv_has ls 10 [(0, .ref zr_a), (1, .int x1), (2, .int x2), (3, .ref q2), (4, .ref q7), (5, .int x5), (6, .int x6)] → W p l e rmL_through s m args below meth c H locs 2 36 (MQ below (Qm (some (.int res)) D (fun W9 => W9 = [(zr_a, .inl (T.1, (60, .inl zr)))]) A) args s 2 36 A) (F0 m 50 ls [])) : ∀ F : Nat, ∀ x5 : Int32, ∀ x6 : Int32, ∀ x7 : Int32, ∀ q2_c : Nat → Int32, ∀ q7_c : Nat → Int32, f_L_through_b60 zr x1 x2 K14 K50 F x5 x6 x7 q2_c q7_c = some res → ∀ (H : Heap) (locs : List Loc), va_P D vwCl [(zr_a, .inl (T.1, (60, .inl zr))), (q2, .inl (T.1, (20, .inl q2_c))), (q7, .inl (T.1, (16, .inl q7_c)))] H → va_D A [(zr_a, .inl (T.1, (60, .inl zr))), (q2, .inl (T.1, (20, .inl q2_c))), (q7, .inl (T.1, (16, .inl q7_c)))] → va_S A s.heap H locs → ∀ ls : Array Slot, lv_has ls 10 [(0, .ref zr_a), (1, .int x1), (2, .int x2), (3, .ref q2), (4, .ref q7), (5, .int x5), (6, .int x6), (7, .int x7)] → W p l e rmL_through s m args below meth c H locs 2 36 (MQ below (Qm (some (.int res)) D (fun W9 => W9 = [(zr_a, .inl (T.1, (60, .inl zr)))]) A) args s 2 36 A) (F0 m 60 ls []) := by
  obtain ⟨hx, hb, hml, hown, hts, hr, hlocks, hK, hN⟩ := id C
  intro F
  induction F with
  | zero => intro _ _ _ _ _ hf; cases hf
  | succ F ih =>
    intro x5 x6 x7 q2_c q7_c hf H locs hP hD hS ls hl
    unfold f_L_through_b60 at hf
    refine lv_iload hx hb dL_through_60 (lv_at hl 7 rfl) ?_
    refine lv_iload_n hx hb dL_through_62 rfl (lv_at hl 1 rfl) ?_
    refine lv_icmp_ge (tgt := 195) hx hb dL_through_63 (by decide) (fun c_63 => ?_) (fun c_63 => ?_)
    · have hf := it_pos c_63 hf
      obtain ⟨v195, e_195, hf⟩ := nm_some hf
      refine lv_iinc (v := v195) (lv' := [(6, .int v195), (0, .ref zr_a), (1, .int x1), (2, .int x2), (3, .ref q2), (4, .ref q7), (5, .int x5), (7, .int x7)]) hx hb dL_through_195 hl (k := 6) rfl (by rw [e_195]; rfl) (by decide) rfl (fun ls hl => ?_)
      refine lv_goto (tgt := 50) hx hb dL_through_198 (by decide) ?_
      exact hK50 _ _ _ _ hf _ _ hP hD hS _ (lv_sub hl [1, 2, 3, 4, 5, 6, 0] rfl)
    · have hf := it_neg c_63 hf
      refine lv_iload hx hb dL_through_66 (lv_at hl 7 rfl) ?_
      refine lv_iload_n hx hb dL_through_68 rfl (lv_at hl 2 rfl) ?_
      refine lv_icmp_eq (tgt := 189) hx hb dL_through_69 (by decide) (fun c_69 => ?_) (fun c_69 => ?_)
      · have hf := it_pos c_69 hf
        exact w_L_through_b189 C hA hK14 hK50 (fun v0 v1 v2 v3 v4 hf H1 l1 p1 d1 s1 ls hl => ih v0 v1 v2 v3 v4 hf H1 l1 p1 d1 s1 ls hl) _ _ _ _ _ hf _ _ hP hD hS _ (lv_sub hl [0, 1, 2, 3, 4, 5, 6, 7] rfl)
      · have hf := it_neg c_69 hf
        refine lv_aload_n hx hb dL_through_72 rfl (lv_at hl 0 rfl) ?_
        refine lv_iload hx hb dL_through_73 (lv_at hl 7 rfl) ?_
        obtain ⟨q75, e_75, hf⟩ := bd_some hf
        refine callPi (va_runS (As := [.ref zr_a, .int x7]) (rest := []) ⟨hx, hb, hml, hown, hts⟩ (c_L_goesOn l D T zr_a zr x7 q75 e_75) (va_cwS 2 hts gL_through_L_goesOn rfl rfl rfl hdS_L_goesOn ⟨Nat.le_of_ble_eq_true rfl, Nat.le_of_ble_eq_true rfl⟩) (preBS (hP.sub (ws' := [(zr_a, .inl (T.1, (60, .inl zr)))]) [0] rfl) hK hN) rfl rfl hl.1 rfl (lv_room (Nat.le_of_ble_eq_true rfl)) dL_through_75 ⟨Nat.le_of_ble_eq_true rfl, Nat.le_of_ble_eq_true rfl⟩) ?_
        refine lv_if_ne (tgt := 84) hx hb dL_through_78 (by decide) (fun c_78 => ?_) (fun c_78 => ?_)
        · have hf := it_neg c_78 hf
          refine lv_aload_n hx hb dL_through_84 rfl (lv_at hl 0 rfl) ?_
          refine lv_iconst (v := (3 : Int32)) hx hb dL_through_85 (by decide) ?_
          refine lv_iload hx hb dL_through_86 (lv_at hl 7 rfl) ?_
          refine lv_imul hx hb dL_through_88 ?_
          obtain ⟨g_89, hf⟩ := gd_some hf
          refine va_iald (D := D) hx hb hK hP 0 0 rfl rfl (gd_in g_89) dL_through_89 ?_
          obtain ⟨v90, e_90, hf⟩ := nm_some hf
          refine lv_nmi e_90 ?_
          refine lv_istore (lv' := [(8, .int v90), (0, .ref zr_a), (1, .int x1), (2, .int x2), (3, .ref q2), (4, .ref q7), (5, .int x5), (6, .int x6), (7, .int x7)]) hx hb dL_through_90 hl (by decide) rfl (fun ls hl => ?_)
          refine lv_aload_n hx hb dL_through_92 rfl (lv_at hl 1 rfl) ?_
          refine lv_iconst (v := (3 : Int32)) hx hb dL_through_93 (by decide) ?_
          refine lv_iload hx hb dL_through_94 (lv_at hl 8 rfl) ?_
          refine lv_imul hx hb dL_through_96 ?_
          refine lv_iconst (v := (1 : Int32)) hx hb dL_through_97 (by decide) ?_
          refine lv_iadd hx hb dL_through_98 ?_
          obtain ⟨g_99, hf⟩ := gd_some hf
          refine va_iald (D := D) hx hb hK hP 0 0 rfl rfl (gd_in g_99) dL_through_99 ?_
          obtain ⟨v100, e_100, hf⟩ := nm_some hf
          refine lv_nmi e_100 ?_
          refine lv_istore (lv' := [(9, .int v100), (8, .int v90), (0, .ref zr_a), (1, .int x1), (2, .int x2), (3, .ref q2), (4, .ref q7), (5, .int x5), (6, .int x6), (7, .int x7)]) hx hb dL_through_100 hl (by decide) rfl (fun ls hl => ?_)
          refine lv_aload hx hb dL_through_102 (lv_at hl 6 rfl) ?_
          refine lv_iload hx hb dL_through_104 (lv_at hl 1 rfl) ?_
          obtain ⟨g_106, hf⟩ := gd_some hf
          refine va_iald (D := D) hx hb hK hP 2 0 rfl rfl (gd_in g_106) dL_through_106 ?_
          refine lv_if_eq (tgt := 149) hx hb dL_through_107 (by decide) (fun c_107 => ?_) (fun c_107 => ?_)
          · have hf := it_pos c_107 hf
            exact w_L_through_b149 C hA hK14 hK50 (fun v0 v1 v2 v3 v4 hf H1 l1 p1 d1 s1 ls hl => ih v0 v1 v2 v3 v4 hf H1 l1 p1 d1 s1 ls hl) _ _ _ _ _ _ _ hf _ _ hP hD hS _ (lv_sub hl [2, 3, 4, 5, 6, 7, 8, 9, 1, 0] rfl)
          · have hf := it_neg c_107 hf
            refine lv_aload hx hb dL_through_110 (lv_at hl 6 rfl) ?_
            refine lv_iload hx hb dL_through_112 (lv_at hl 0 rfl) ?_
            obtain ⟨g_114, hf⟩ := gd_some hf
            refine va_iald (D := D) hx hb hK hP 2 0 rfl rfl (gd_in g_114) dL_through_114 ?_
            refine lv_if_ne (tgt := 149) hx hb dL_through_115 (by decide) (fun c_115 => ?_) (fun c_115 => ?_)
            · have hf := it_neg c_115 hf
              exact w_L_through_b149 C hA hK14 hK50 (fun v0 v1 v2 v3 v4 hf H1 l1 p1 d1 s1 ls hl => ih v0 v1 v2 v3 v4 hf H1 l1 p1 d1 s1 ls hl) _ _ _ _ _ _ _ hf _ _ hP hD hS _ (lv_sub hl [2, 3, 4, 5, 6, 7, 8, 9, 1, 0] rfl)
            · have hf := it_pos c_115 hf
              refine lv_aload_n hx hb dL_through_118 rfl (lv_at hl 5 rfl) ?_
              refine lv_iload hx hb dL_through_119 (lv_at hl 9 rfl) ?_
              obtain ⟨g_121, hf⟩ := gd_some hf
              refine va_iald (D := D) hx hb hK hP 1 0 rfl rfl (gd_in g_121) dL_through_121 ?_
              refine lv_aload_n hx hb dL_through_122 rfl (lv_at hl 2 rfl) ?_
              refine lv_iconst (v := (3 : Int32)) hx hb dL_through_123 (by decide) ?_
              refine lv_iload hx hb dL_through_124 (lv_at hl 9 rfl) ?_
              refine lv_imul hx hb dL_through_126 ?_
              refine lv_iconst (v := (2 : Int32)) hx hb dL_through_127 (by decide) ?_
              refine lv_iadd hx hb dL_through_128 ?_
              obtain ⟨g_129, hf⟩ := gd_some hf
              refine va_iald (D := D) hx hb hK hP 0 0 rfl rfl (gd_in g_129) dL_through_129 ?_
              refine lv_icmp_ge (tgt := 149) hx hb dL_through_130 (by decide) (fun c_130 => ?_) (fun c_130 => ?_)
              · have hf := it_pos c_130 hf
                exact w_L_through_b149 C hA hK14 hK50 (fun v0 v1 v2 v3 v4 hf H1 l1 p1 d1 s1 ls hl => ih v0 v1 v2 v3 v4 hf H1 l1 p1 d1 s1 ls hl) _ _ _ _ _ _ _ hf _ _ hP hD hS _ (lv_sub hl [2, 3, 4, 5, 6, 7, 8, 9, 1, 0] rfl)
              · have hf := it_neg c_130 hf
                refine lv_iload hx hb dL_through_133 (lv_at hl 1 rfl) ?_
                refine lv_bipush (v := (12 : Int32)) hx hb dL_through_135 (by decide) ?_
                refine lv_icmp_ge (tgt := 149) hx hb dL_through_137 (by decide) (fun c_137 => ?_) (fun c_137 => ?_)
                · have hf := it_pos c_137 hf
                  exact w_L_through_b149 C hA hK14 hK50 (fun v0 v1 v2 v3 v4 hf H1 l1 p1 d1 s1 ls hl => ih v0 v1 v2 v3 v4 hf H1 l1 p1 d1 s1 ls hl) _ _ _ _ _ _ _ hf _ _ hP hD hS _ (lv_sub hl [2, 3, 4, 5, 6, 7, 8, 9, 1, 0] rfl)
                · have hf := it_neg c_137 hf
                  refine lv_aload hx hb dL_through_140 (lv_at hl 6 rfl) ?_
                  refine lv_iload hx hb dL_through_142 (lv_at hl 0 rfl) ?_
                  refine lv_iload hx hb dL_through_144 (lv_at hl 9 rfl) ?_
                  refine lv_iconst (v := (1 : Int32)) hx hb dL_through_146 (by decide) ?_
                  refine lv_iadd hx hb dL_through_147 ?_
                  obtain ⟨v148, e_148, hf⟩ := nm_some hf
                  refine lv_nmi e_148 ?_
                  obtain ⟨g_148, hf⟩ := gd_some hf
                  refine va_iast (D := D) hx hb hK hP hD hS 2 0 rfl rfl (gd_in g_148) dL_through_148 (fun H locs hP hD hS => ?_)
                  have hP : va_P D vwCl [(zr_a, .inl (T.1, (60, .inl zr))), (q2, .inl (T.1, (20, .inl q2_c))), (q7, .inl (T.1, (16, .inl (upd q7_c v100.toNatClampNeg v148))))] H := hP
                  have hD : va_D A [(zr_a, .inl (T.1, (60, .inl zr))), (q2, .inl (T.1, (20, .inl q2_c))), (q7, .inl (T.1, (16, .inl (upd q7_c v100.toNatClampNeg v148))))] := hD
                  exact w_L_through_b149 C hA hK14 hK50 (fun v0 v1 v2 v3 v4 hf H1 l1 p1 d1 s1 ls hl => ih v0 v1 v2 v3 v4 hf H1 l1 p1 d1 s1 ls hl) _ _ _ _ _ _ _ hf _ _ hP hD hS _ (lv_sub hl [2, 3, 4, 5, 6, 7, 8, 9, 1, 0] rfl)
        · have hf := it_pos c_78 hf
          refine lv_goto (tgt := 189) hx hb dL_through_81 (by decide) ?_
          exact w_L_through_b189 C hA hK14 hK50 (fun v0 v1 v2 v3 v4 hf H1 l1 p1 d1 s1 ls hl => ih v0 v1 v2 v3 v4 hf H1 l1 p1 d1 s1 ls hl) _ _ _ _ _ hf _ _ hP hD hS _ (lv_sub hl [0, 1, 2, 3, 4, 5, 6, 7] rfl)
set_option maxHeartbeats 4000000 in
set_option maxRecDepth 100000 in
theorem w_L_through_b323 {p : Program} {l : Launch} {e : Env} {s : State} {m : MethodId} {args : Array Value} {below : List Frame} {meth : Method} {c : Code} {D : va_G} {T : TY} {zr_a q2 q7 : Nat} {zr : Nat → Int32} {x1 : Int32} {x2 : Int32} {res : Int32} {K14 : Int32 → (Nat → Int32) → (Nat → Int32) → Option (Int32)} {K240 : Int32 → Int32 → (Nat → Int32) → (Nat → Int32) → Option (Int32)} {A : Nat → Prop} (C : CX p s m args meth c cL_through 10 RL wsL_through (some .int) D T) (hA : ∀ q, s.heap.size ≤ q → A q) (hK14 : ∀ x5 : Int32, ∀ q2_c : Nat → Int32, ∀ q7_c : Nat → Int32, K14 x5 q2_c q7_c = some res → ∀ (H : Heap) (locs : List Loc), va_P D vwCl [(zr_a, .inl (T.1, (60, .inl zr))), (q2, .inl (T.1, (20, .inl q2_c))), (q7, .inl (T.1, (16, .inl q7_c)))] H → va_D A [(zr_a, .inl (T.1, (60, .inl zr))), (q2, .inl (T.1, (20, .inl q2_c))), (q7, .inl (T.1, (16, .inl q7_c)))] → va_S A s.heap H locs → ∀ ls : Array Slot, lv_has ls 10 [(0, .ref zr_a), (1, .int x1), (2, .int x2), (3, .ref q2), (4, .ref q7), (5, .int x5)] → W p l e rmL_through s m args below meth c H locs 2 36 (MQ below (Qm (some (.int res)) D (fun W9 => W9 = [(zr_a, .inl (T.1, (60, .inl zr)))]) A) args s 2 36 A) (F0 m 14 ls [])) (hK240 : ∀ x5 : Int32, ∀ x7 : Int32, ∀ q2_c : Nat → Int32, ∀ q7_c : Nat → Int32, K240 x5 x7 q2_c q7_c = some res → ∀ (H : Heap) (locs : List Loc), va_P D vwCl [(zr_a, .inl (T.1, (60, .inl zr))), (q2, .inl (T.1, (20, .inl q2_c))), (q7, .inl (T.1, (16, .inl q7_c)))] H → va_D A [(zr_a, .inl (T.1, (60, .inl zr))), (q2, .inl (T.1, (20, .inl q2_c))), (q7, .inl (T.1, (16, .inl q7_c)))] → va_S A s.heap H locs → ∀ ls : Array Slot, lv_has ls 10 [(0, .ref zr_a), (1, .int x1), (2, .int x2), (3, .ref q2), (4, .ref q7), (5, .int x5), (7, .int x7)] → W p l e rmL_through s m args below meth c H locs 2 36 (MQ below (Qm (some (.int res)) D (fun W9 => W9 = [(zr_a, .inl (T.1, (60, .inl zr)))]) A) args s 2 36 A) (F0 m 240 ls [])) : ∀ s0 : Int32, ∀ x5 : Int32, ∀ q2_c : Nat → Int32, ∀ q7_c : Nat → Int32, f_L_through_b323 zr x1 x2 K14 K240 s0 x5 q2_c q7_c = some res → ∀ (H : Heap) (locs : List Loc), va_P D vwCl [(zr_a, .inl (T.1, (60, .inl zr))), (q2, .inl (T.1, (20, .inl q2_c))), (q7, .inl (T.1, (16, .inl q7_c)))] H → va_D A [(zr_a, .inl (T.1, (60, .inl zr))), (q2, .inl (T.1, (20, .inl q2_c))), (q7, .inl (T.1, (16, .inl q7_c)))] → va_S A s.heap H locs → ∀ ls : Array Slot, lv_has ls 10 [(0, .ref zr_a), (1, .int x1), (2, .int x2), (3, .ref q2), (4, .ref q7), (5, .int x5)] → W p l e rmL_through s m args below meth c H locs 2 36 (MQ below (Qm (some (.int res)) D (fun W9 => W9 = [(zr_a, .inl (T.1, (60, .inl zr)))]) A) args s 2 36 A) (F0 m 323 ls [.int s0]) := by
  obtain ⟨hx, hb, hml, hown, hts, hr, hlocks, hK, hN⟩ := id C
  intro s0 x5 q2_c q7_c hf H locs hP hD hS ls hl
  unfold f_L_through_b323 at hf
  refine lv_istore (lv' := [(7, .int s0), (0, .ref zr_a), (1, .int x1), (2, .int x2), (3, .ref q2), (4, .ref q7), (5, .int x5)]) hx hb dL_through_323 hl (by decide) rfl (fun ls hl => ?_)
  refine lv_goto (tgt := 240) hx hb dL_through_325 (by decide) ?_
  exact hK240 _ _ _ _ hf _ _ hP hD hS _ (lv_sub hl [1, 2, 3, 4, 5, 6, 0] rfl)
set_option maxHeartbeats 4000000 in
set_option maxRecDepth 100000 in
theorem w_L_through_b296 {p : Program} {l : Launch} {e : Env} {s : State} {m : MethodId} {args : Array Value} {below : List Frame} {meth : Method} {c : Code} {D : va_G} {T : TY} {zr_a q2 q7 : Nat} {zr : Nat → Int32} {x1 : Int32} {x2 : Int32} {res : Int32} {K14 : Int32 → (Nat → Int32) → (Nat → Int32) → Option (Int32)} {K240 : Int32 → Int32 → (Nat → Int32) → (Nat → Int32) → Option (Int32)} {A : Nat → Prop} (C : CX p s m args meth c cL_through 10 RL wsL_through (some .int) D T) (hA : ∀ q, s.heap.size ≤ q → A q) (hK14 : ∀ x5 : Int32, ∀ q2_c : Nat → Int32, ∀ q7_c : Nat → Int32, K14 x5 q2_c q7_c = some res → ∀ (H : Heap) (locs : List Loc), va_P D vwCl [(zr_a, .inl (T.1, (60, .inl zr))), (q2, .inl (T.1, (20, .inl q2_c))), (q7, .inl (T.1, (16, .inl q7_c)))] H → va_D A [(zr_a, .inl (T.1, (60, .inl zr))), (q2, .inl (T.1, (20, .inl q2_c))), (q7, .inl (T.1, (16, .inl q7_c)))] → va_S A s.heap H locs → ∀ ls : Array Slot, lv_has ls 10 [(0, .ref zr_a), (1, .int x1), (2, .int x2), (3, .ref q2), (4, .ref q7), (5, .int x5)] → W p l e rmL_through s m args below meth c H locs 2 36 (MQ below (Qm (some (.int res)) D (fun W9 => W9 = [(zr_a, .inl (T.1, (60, .inl zr)))]) A) args s 2 36 A) (F0 m 14 ls [])) (hK240 : ∀ x5 : Int32, ∀ x7 : Int32, ∀ q2_c : Nat → Int32, ∀ q7_c : Nat → Int32, K240 x5 x7 q2_c q7_c = some res → ∀ (H : Heap) (locs : List Loc), va_P D vwCl [(zr_a, .inl (T.1, (60, .inl zr))), (q2, .inl (T.1, (20, .inl q2_c))), (q7, .inl (T.1, (16, .inl q7_c)))] H → va_D A [(zr_a, .inl (T.1, (60, .inl zr))), (q2, .inl (T.1, (20, .inl q2_c))), (q7, .inl (T.1, (16, .inl q7_c)))] → va_S A s.heap H locs → ∀ ls : Array Slot, lv_has ls 10 [(0, .ref zr_a), (1, .int x1), (2, .int x2), (3, .ref q2), (4, .ref q7), (5, .int x5), (7, .int x7)] → W p l e rmL_through s m args below meth c H locs 2 36 (MQ below (Qm (some (.int res)) D (fun W9 => W9 = [(zr_a, .inl (T.1, (60, .inl zr)))]) A) args s 2 36 A) (F0 m 240 ls [])) : ∀ s0 : Int32, ∀ s1 : Int32, ∀ s2 : Int32, ∀ x5 : Int32, ∀ x7 : Int32, ∀ x8 : Int32, ∀ q2_c : Nat → Int32, ∀ q7_c : Nat → Int32, f_L_through_b296 zr x1 x2 K14 K240 s0 s1 s2 x5 x7 x8 q2_c q7_c = some res → ∀ (H : Heap) (locs : List Loc), va_P D vwCl [(zr_a, .inl (T.1, (60, .inl zr))), (q2, .inl (T.1, (20, .inl q2_c))), (q7, .inl (T.1, (16, .inl q7_c)))] H → va_D A [(zr_a, .inl (T.1, (60, .inl zr))), (q2, .inl (T.1, (20, .inl q2_c))), (q7, .inl (T.1, (16, .inl q7_c)))] → va_S A s.heap H locs → ∀ ls : Array Slot, lv_has ls 10 [(0, .ref zr_a), (1, .int x1), (2, .int x2), (3, .ref q2), (4, .ref q7), (5, .int x5), (7, .int x7), (8, .int x8)] → W p l e rmL_through s m args below meth c H locs 2 36 (MQ below (Qm (some (.int res)) D (fun W9 => W9 = [(zr_a, .inl (T.1, (60, .inl zr)))]) A) args s 2 36 A) (F0 m 296 ls [.int s0, .int s1, .int s2, .ref q2]) := by
  obtain ⟨hx, hb, hml, hown, hts, hr, hlocks, hK, hN⟩ := id C
  intro s0 s1 s2 x5 x7 x8 q2_c q7_c hf H locs hP hD hS ls hl
  unfold f_L_through_b296 at hf
  refine lv_iadd hx hb dL_through_296 ?_
  obtain ⟨v297, e_297, hf⟩ := nm_some hf
  refine lv_nmi e_297 ?_
  obtain ⟨g_297, hf⟩ := gd_some hf
  refine va_iast (D := D) hx hb hK hP hD hS 1 0 rfl rfl (gd_in g_297) dL_through_297 (fun H locs hP hD hS => ?_)
  have hP : va_P D vwCl [(zr_a, .inl (T.1, (60, .inl zr))), (q2, .inl (T.1, (20, .inl (upd q2_c s2.toNatClampNeg v297)))), (q7, .inl (T.1, (16, .inl q7_c)))] H := hP
  have hD : va_D A [(zr_a, .inl (T.1, (60, .inl zr))), (q2, .inl (T.1, (20, .inl (upd q2_c s2.toNatClampNeg v297)))), (q7, .inl (T.1, (16, .inl q7_c)))] := hD
  refine lv_aload hx hb dL_through_298 (lv_at hl 4 rfl) ?_
  refine lv_iload hx hb dL_through_300 (lv_at hl 6 rfl) ?_
  obtain ⟨g_302, hf⟩ := gd_some hf
  refine va_iald (D := D) hx hb hK hP 2 0 rfl rfl (gd_in g_302) dL_through_302 ?_
  refine lv_if_le (tgt := 315) hx hb dL_through_303 (by decide) (fun c_303 => ?_) (fun c_303 => ?_)
  · have hf := it_pos c_303 hf
    refine lv_aload_n hx hb dL_through_315 rfl (lv_at hl 0 rfl) ?_
    refine lv_iconst (v := (3 : Int32)) hx hb dL_through_316 (by decide) ?_
    refine lv_iload hx hb dL_through_317 (lv_at hl 7 rfl) ?_
    refine lv_imul hx hb dL_through_319 ?_
    refine lv_iconst (v := (1 : Int32)) hx hb dL_through_320 (by decide) ?_
    refine lv_iadd hx hb dL_through_321 ?_
    obtain ⟨g_322, hf⟩ := gd_some hf
    refine va_iald (D := D) hx hb hK hP 0 0 rfl rfl (gd_in g_322) dL_through_322 ?_
    exact w_L_through_b323 C hA hK14 hK240 _ _ _ _ hf _ _ hP hD hS _ (lv_sub hl [0, 1, 2, 3, 4, 5] rfl)
  · have hf := it_neg c_303 hf
    refine lv_aload_n hx hb dL_through_306 rfl (lv_at hl 0 rfl) ?_
    refine lv_iconst (v := (3 : Int32)) hx hb dL_through_307 (by decide) ?_
    refine lv_iload hx hb dL_through_308 (lv_at hl 7 rfl) ?_
    refine lv_imul hx hb dL_through_310 ?_
    obtain ⟨g_311, hf⟩ := gd_some hf
    refine va_iald (D := D) hx hb hK hP 0 0 rfl rfl (gd_in g_311) dL_through_311 ?_
    refine lv_goto (tgt := 323) hx hb dL_through_312 (by decide) ?_
    exact w_L_through_b323 C hA hK14 hK240 _ _ _ _ hf _ _ hP hD hS _ (lv_sub hl [0, 1, 2, 3, 4, 5] rfl)
set_option maxHeartbeats 4000000 in
set_option maxRecDepth 100000 in
theorem w_L_through_b276 {p : Program} {l : Launch} {e : Env} {s : State} {m : MethodId} {args : Array Value} {below : List Frame} {meth : Method} {c : Code} {D : va_G} {T : TY} {zr_a q2 q7 : Nat} {zr : Nat → Int32} {x1 : Int32} {x2 : Int32} {res : Int32} {K14 : Int32 → (Nat → Int32) → (Nat → Int32) → Option (Int32)} {K240 : Int32 → Int32 → (Nat → Int32) → (Nat → Int32) → Option (Int32)} {A : Nat → Prop} (C : CX p s m args meth c cL_through 10 RL wsL_through (some .int) D T) (hA : ∀ q, s.heap.size ≤ q → A q) (hK14 : ∀ x5 : Int32, ∀ q2_c : Nat → Int32, ∀ q7_c : Nat → Int32, K14 x5 q2_c q7_c = some res → ∀ (H : Heap) (locs : List Loc), va_P D vwCl [(zr_a, .inl (T.1, (60, .inl zr))), (q2, .inl (T.1, (20, .inl q2_c))), (q7, .inl (T.1, (16, .inl q7_c)))] H → va_D A [(zr_a, .inl (T.1, (60, .inl zr))), (q2, .inl (T.1, (20, .inl q2_c))), (q7, .inl (T.1, (16, .inl q7_c)))] → va_S A s.heap H locs → ∀ ls : Array Slot, lv_has ls 10 [(0, .ref zr_a), (1, .int x1), (2, .int x2), (3, .ref q2), (4, .ref q7), (5, .int x5)] → W p l e rmL_through s m args below meth c H locs 2 36 (MQ below (Qm (some (.int res)) D (fun W9 => W9 = [(zr_a, .inl (T.1, (60, .inl zr)))]) A) args s 2 36 A) (F0 m 14 ls [])) (hK240 : ∀ x5 : Int32, ∀ x7 : Int32, ∀ q2_c : Nat → Int32, ∀ q7_c : Nat → Int32, K240 x5 x7 q2_c q7_c = some res → ∀ (H : Heap) (locs : List Loc), va_P D vwCl [(zr_a, .inl (T.1, (60, .inl zr))), (q2, .inl (T.1, (20, .inl q2_c))), (q7, .inl (T.1, (16, .inl q7_c)))] H → va_D A [(zr_a, .inl (T.1, (60, .inl zr))), (q2, .inl (T.1, (20, .inl q2_c))), (q7, .inl (T.1, (16, .inl q7_c)))] → va_S A s.heap H locs → ∀ ls : Array Slot, lv_has ls 10 [(0, .ref zr_a), (1, .int x1), (2, .int x2), (3, .ref q2), (4, .ref q7), (5, .int x5), (7, .int x7)] → W p l e rmL_through s m args below meth c H locs 2 36 (MQ below (Qm (some (.int res)) D (fun W9 => W9 = [(zr_a, .inl (T.1, (60, .inl zr)))]) A) args s 2 36 A) (F0 m 240 ls [])) : ∀ s0 : Int32, ∀ x5 : Int32, ∀ x7 : Int32, ∀ q2_c : Nat → Int32, ∀ q7_c : Nat → Int32, f_L_through_b276 zr x1 x2 K14 K240 s0 x5 x7 q2_c q7_c = some res → ∀ (H : Heap) (locs : List Loc), va_P D vwCl [(zr_a, .inl (T.1, (60, .inl zr))), (q2, .inl (T.1, (20, .inl q2_c))), (q7, .inl (T.1, (16, .inl q7_c)))] H → va_D A [(zr_a, .inl (T.1, (60, .inl zr))), (q2, .inl (T.1, (20, .inl q2_c))), (q7, .inl (T.1, (16, .inl q7_c)))] → va_S A s.heap H locs → ∀ ls : Array Slot, lv_has ls 10 [(0, .ref zr_a), (1, .int x1), (2, .int x2), (3, .ref q2), (4, .ref q7), (5, .int x5), (7, .int x7)] → W p l e rmL_through s m args below meth c H locs 2 36 (MQ below (Qm (some (.int res)) D (fun W9 => W9 = [(zr_a, .inl (T.1, (60, .inl zr)))]) A) args s 2 36 A) (F0 m 276 ls [.int s0]) := by
  obtain ⟨hx, hb, hml, hown, hts, hr, hlocks, hK, hN⟩ := id C
  intro s0 x5 x7 q2_c q7_c hf H locs hP hD hS ls hl
  unfold f_L_through_b276 at hf
  refine lv_istore (lv' := [(8, .int s0), (0, .ref zr_a), (1, .int x1), (2, .int x2), (3, .ref q2), (4, .ref q7), (5, .int x5), (7, .int x7)]) hx hb dL_through_276 hl (by decide) rfl (fun ls hl => ?_)
  refine lv_aload_n hx hb dL_through_278 rfl (lv_at hl 4 rfl) ?_
  refine lv_iload hx hb dL_through_279 (lv_at hl 0 rfl) ?_
  refine lv_dup2_11 hx hb dL_through_281 rfl rfl ?_
  obtain ⟨g_282, hf⟩ := gd_some hf
  refine va_iald (D := D) hx hb hK hP 1 0 rfl rfl (gd_in g_282) dL_through_282 ?_
  refine lv_aload hx hb dL_through_283 (lv_at hl 5 rfl) ?_
  refine lv_iload hx hb dL_through_285 (lv_at hl 7 rfl) ?_
  obtain ⟨g_287, hf⟩ := gd_some hf
  refine va_iald (D := D) hx hb hK hP 2 0 rfl rfl (gd_in g_287) dL_through_287 ?_
  refine lv_if_le (tgt := 295) hx hb dL_through_288 (by decide) (fun c_288 => ?_) (fun c_288 => ?_)
  · have hf := it_pos c_288 hf
    refine lv_iconst (v := (-1 : Int32)) hx hb dL_through_295 (by decide) ?_
    exact w_L_through_b296 C hA hK14 hK240 _ _ _ _ _ _ _ _ hf _ _ hP hD hS _ (lv_sub hl [1, 2, 3, 4, 5, 6, 7, 0] rfl)
  · have hf := it_neg c_288 hf
    refine lv_iconst (v := (1 : Int32)) hx hb dL_through_291 (by decide) ?_
    refine lv_goto (tgt := 296) hx hb dL_through_292 (by decide) ?_
    exact w_L_through_b296 C hA hK14 hK240 _ _ _ _ _ _ _ _ hf _ _ hP hD hS _ (lv_sub hl [1, 2, 3, 4, 5, 6, 7, 0] rfl)
set_option maxHeartbeats 4000000 in
set_option maxRecDepth 100000 in
theorem w_L_through_b240 {p : Program} {l : Launch} {e : Env} {s : State} {m : MethodId} {args : Array Value} {below : List Frame} {meth : Method} {c : Code} {D : va_G} {T : TY} {zr_a q2 q7 : Nat} {zr : Nat → Int32} {x1 : Int32} {x2 : Int32} {res : Int32} {K14 : Int32 → (Nat → Int32) → (Nat → Int32) → Option (Int32)} {A : Nat → Prop} (C : CX p s m args meth c cL_through 10 RL wsL_through (some .int) D T) (hA : ∀ q, s.heap.size ≤ q → A q) (hK14 : ∀ x5 : Int32, ∀ q2_c : Nat → Int32, ∀ q7_c : Nat → Int32, K14 x5 q2_c q7_c = some res → ∀ (H : Heap) (locs : List Loc), va_P D vwCl [(zr_a, .inl (T.1, (60, .inl zr))), (q2, .inl (T.1, (20, .inl q2_c))), (q7, .inl (T.1, (16, .inl q7_c)))] H → va_D A [(zr_a, .inl (T.1, (60, .inl zr))), (q2, .inl (T.1, (20, .inl q2_c))), (q7, .inl (T.1, (16, .inl q7_c)))] → va_S A s.heap H locs → ∀ ls : Array Slot, lv_has ls 10 [(0, .ref zr_a), (1, .int x1), (2, .int x2), (3, .ref q2), (4, .ref q7), (5, .int x5)] → W p l e rmL_through s m args below meth c H locs 2 36 (MQ below (Qm (some (.int res)) D (fun W9 => W9 = [(zr_a, .inl (T.1, (60, .inl zr)))]) A) args s 2 36 A) (F0 m 14 ls [])) : ∀ F : Nat, ∀ x5 : Int32, ∀ x7 : Int32, ∀ q2_c : Nat → Int32, ∀ q7_c : Nat → Int32, f_L_through_b240 zr x1 x2 K14 F x5 x7 q2_c q7_c = some res → ∀ (H : Heap) (locs : List Loc), va_P D vwCl [(zr_a, .inl (T.1, (60, .inl zr))), (q2, .inl (T.1, (20, .inl q2_c))), (q7, .inl (T.1, (16, .inl q7_c)))] H → va_D A [(zr_a, .inl (T.1, (60, .inl zr))), (q2, .inl (T.1, (20, .inl q2_c))), (q7, .inl (T.1, (16, .inl q7_c)))] → va_S A s.heap H locs → ∀ ls : Array Slot, lv_has ls 10 [(0, .ref zr_a), (1, .int x1), (2, .int x2), (3, .ref q2), (4, .ref q7), (5, .int x5), (7, .int x7)] → W p l e rmL_through s m args below meth c H locs 2 36 (MQ below (Qm (some (.int res)) D (fun W9 => W9 = [(zr_a, .inl (T.1, (60, .inl zr)))]) A) args s 2 36 A) (F0 m 240 ls []) := by
  obtain ⟨hx, hb, hml, hown, hts, hr, hlocks, hK, hN⟩ := id C
  intro F
  induction F with
  | zero => intro _ _ _ _ hf; cases hf
  | succ F ih =>
    intro x5 x7 q2_c q7_c hf H locs hP hD hS ls hl
    unfold f_L_through_b240 at hf
    refine lv_aload hx hb dL_through_240 (lv_at hl 4 rfl) ?_
    refine lv_iload hx hb dL_through_242 (lv_at hl 6 rfl) ?_
    obtain ⟨g_244, hf⟩ := gd_some hf
    refine va_iald (D := D) hx hb hK hP 2 0 rfl rfl (gd_in g_244) dL_through_244 ?_
    refine lv_bipush (v := (99 : Int32)) hx hb dL_through_245 (by decide) ?_
    refine lv_icmp_eq (tgt := 328) hx hb dL_through_247 (by decide) (fun c_247 => ?_) (fun c_247 => ?_)
    · have hf := it_pos c_247 hf
      obtain ⟨v328, e_328, hf⟩ := nm_some hf
      refine lv_iinc (v := v328) (lv' := [(5, .int v328), (0, .ref zr_a), (1, .int x1), (2, .int x2), (3, .ref q2), (4, .ref q7), (7, .int x7)]) hx hb dL_through_328 hl (k := 5) rfl (by rw [e_328]; rfl) (by decide) rfl (fun ls hl => ?_)
      refine lv_goto (tgt := 14) hx hb dL_through_331 (by decide) ?_
      exact hK14 _ _ _ hf _ _ hP hD hS _ (lv_sub hl [1, 2, 3, 4, 5, 0] rfl)
    · have hf := it_neg c_247 hf
      refine lv_aload hx hb dL_through_250 (lv_at hl 4 rfl) ?_
      refine lv_iload hx hb dL_through_252 (lv_at hl 6 rfl) ?_
      obtain ⟨g_254, hf⟩ := gd_some hf
      refine va_iald (D := D) hx hb hK hP 2 0 rfl rfl (gd_in g_254) dL_through_254 ?_
      refine lv_if_le (tgt := 268) hx hb dL_through_255 (by decide) (fun c_255 => ?_) (fun c_255 => ?_)
      · have hf := it_pos c_255 hf
        refine lv_aload hx hb dL_through_268 (lv_at hl 4 rfl) ?_
        refine lv_iload hx hb dL_through_270 (lv_at hl 6 rfl) ?_
        obtain ⟨g_272, hf⟩ := gd_some hf
        refine va_iald (D := D) hx hb hK hP 2 0 rfl rfl (gd_in g_272) dL_through_272 ?_
        refine lv_ineg hx hb dL_through_273 ?_
        refine lv_iconst (v := (1 : Int32)) hx hb dL_through_274 (by decide) ?_
        refine lv_isub hx hb dL_through_275 ?_
        exact w_L_through_b276 C hA hK14 (fun v0 v1 v2 v3 hf H1 l1 p1 d1 s1 ls hl => ih v0 v1 v2 v3 hf H1 l1 p1 d1 s1 ls hl) _ _ _ _ _ hf _ _ hP hD hS _ (lv_sub hl [0, 1, 2, 3, 4, 5, 6] rfl)
      · have hf := it_neg c_255 hf
        refine lv_aload hx hb dL_through_258 (lv_at hl 4 rfl) ?_
        refine lv_iload hx hb dL_through_260 (lv_at hl 6 rfl) ?_
        obtain ⟨g_262, hf⟩ := gd_some hf
        refine va_iald (D := D) hx hb hK hP 2 0 rfl rfl (gd_in g_262) dL_through_262 ?_
        refine lv_iconst (v := (1 : Int32)) hx hb dL_through_263 (by decide) ?_
        refine lv_isub hx hb dL_through_264 ?_
        refine lv_goto (tgt := 276) hx hb dL_through_265 (by decide) ?_
        exact w_L_through_b276 C hA hK14 (fun v0 v1 v2 v3 hf H1 l1 p1 d1 s1 ls hl => ih v0 v1 v2 v3 hf H1 l1 p1 d1 s1 ls hl) _ _ _ _ _ hf _ _ hP hD hS _ (lv_sub hl [0, 1, 2, 3, 4, 5, 6] rfl)
set_option maxHeartbeats 4000000 in
set_option maxRecDepth 100000 in
theorem w_L_through_b226 {p : Program} {l : Launch} {e : Env} {s : State} {m : MethodId} {args : Array Value} {below : List Frame} {meth : Method} {c : Code} {D : va_G} {T : TY} {zr_a q2 q7 : Nat} {zr : Nat → Int32} {x1 : Int32} {x2 : Int32} {res : Int32} {K14 : Int32 → (Nat → Int32) → (Nat → Int32) → Option (Int32)} {A : Nat → Prop} (C : CX p s m args meth c cL_through 10 RL wsL_through (some .int) D T) (hA : ∀ q, s.heap.size ≤ q → A q) (hK14 : ∀ x5 : Int32, ∀ q2_c : Nat → Int32, ∀ q7_c : Nat → Int32, K14 x5 q2_c q7_c = some res → ∀ (H : Heap) (locs : List Loc), va_P D vwCl [(zr_a, .inl (T.1, (60, .inl zr))), (q2, .inl (T.1, (20, .inl q2_c))), (q7, .inl (T.1, (16, .inl q7_c)))] H → va_D A [(zr_a, .inl (T.1, (60, .inl zr))), (q2, .inl (T.1, (20, .inl q2_c))), (q7, .inl (T.1, (16, .inl q7_c)))] → va_S A s.heap H locs → ∀ ls : Array Slot, lv_has ls 10 [(0, .ref zr_a), (1, .int x1), (2, .int x2), (3, .ref q2), (4, .ref q7), (5, .int x5)] → W p l e rmL_through s m args below meth c H locs 2 36 (MQ below (Qm (some (.int res)) D (fun W9 => W9 = [(zr_a, .inl (T.1, (60, .inl zr)))]) A) args s 2 36 A) (F0 m 14 ls [])) : ∀ x5 : Int32, ∀ x6 : Int32, ∀ q2_c : Nat → Int32, ∀ q7_c : Nat → Int32, f_L_through_b226 zr x1 x2 K14 x5 x6 q2_c q7_c = some res → ∀ (H : Heap) (locs : List Loc), va_P D vwCl [(zr_a, .inl (T.1, (60, .inl zr))), (q2, .inl (T.1, (20, .inl q2_c))), (q7, .inl (T.1, (16, .inl q7_c)))] H → va_D A [(zr_a, .inl (T.1, (60, .inl zr))), (q2, .inl (T.1, (20, .inl q2_c))), (q7, .inl (T.1, (16, .inl q7_c)))] → va_S A s.heap H locs → ∀ ls : Array Slot, lv_has ls 10 [(0, .ref zr_a), (1, .int x1), (2, .int x2), (3, .ref q2), (4, .ref q7), (5, .int x5), (6, .int x6)] → W p l e rmL_through s m args below meth c H locs 2 36 (MQ below (Qm (some (.int res)) D (fun W9 => W9 = [(zr_a, .inl (T.1, (60, .inl zr)))]) A) args s 2 36 A) (F0 m 226 ls []) := by
  obtain ⟨hx, hb, hml, hown, hts, hr, hlocks, hK, hN⟩ := id C
  intro x5 x6 q2_c q7_c hf H locs hP hD hS ls hl
  unfold f_L_through_b226 at hf
  refine lv_iload hx hb dL_through_226 (lv_at hl 6 rfl) ?_
  refine lv_bipush (v := (16 : Int32)) hx hb dL_through_228 (by decide) ?_
  refine lv_icmp_ne (tgt := 236) hx hb dL_through_230 (by decide) (fun c_230 => ?_) (fun c_230 => ?_)
  · have hf := it_neg c_230 hf
    refine lv_iload hx hb dL_through_236 (lv_at hl 6 rfl) ?_
    refine lv_istore (lv' := [(7, .int x6), (0, .ref zr_a), (1, .int x1), (2, .int x2), (3, .ref q2), (4, .ref q7), (5, .int x5), (6, .int x6)]) hx hb dL_through_238 hl (by decide) rfl (fun ls hl => ?_)
    exact w_L_through_b240 C hA hK14 _ _ _ _ _ hf _ _ hP hD hS _ (lv_sub hl [1, 2, 3, 4, 5, 6, 0] rfl)
  · have hf := it_pos c_230 hf
    refine lv_iload hx hb dL_through_233 (lv_at hl 5 rfl) ?_
    obtain rfl := Option.some.inj hf
    exact W.iret hx hb hr (fun t ht hW => ⟨rfl, ⟨[(zr_a, .inl (T.1, (60, .inl zr)))], rfl, by rw [ht]; exact hP.sub [0] rfl, hD.sub [0] rfl rfl⟩, hS.F ht⟩) hS.2.2 dL_through_235 hlocks
set_option maxHeartbeats 4000000 in
set_option maxRecDepth 100000 in
theorem w_L_through_b205 {p : Program} {l : Launch} {e : Env} {s : State} {m : MethodId} {args : Array Value} {below : List Frame} {meth : Method} {c : Code} {D : va_G} {T : TY} {zr_a q2 q7 : Nat} {zr : Nat → Int32} {x1 : Int32} {x2 : Int32} {res : Int32} {K14 : Int32 → (Nat → Int32) → (Nat → Int32) → Option (Int32)} {A : Nat → Prop} (C : CX p s m args meth c cL_through 10 RL wsL_through (some .int) D T) (hA : ∀ q, s.heap.size ≤ q → A q) (hK14 : ∀ x5 : Int32, ∀ q2_c : Nat → Int32, ∀ q7_c : Nat → Int32, K14 x5 q2_c q7_c = some res → ∀ (H : Heap) (locs : List Loc), va_P D vwCl [(zr_a, .inl (T.1, (60, .inl zr))), (q2, .inl (T.1, (20, .inl q2_c))), (q7, .inl (T.1, (16, .inl q7_c)))] H → va_D A [(zr_a, .inl (T.1, (60, .inl zr))), (q2, .inl (T.1, (20, .inl q2_c))), (q7, .inl (T.1, (16, .inl q7_c)))] → va_S A s.heap H locs → ∀ ls : Array Slot, lv_has ls 10 [(0, .ref zr_a), (1, .int x1), (2, .int x2), (3, .ref q2), (4, .ref q7), (5, .int x5)] → W p l e rmL_through s m args below meth c H locs 2 36 (MQ below (Qm (some (.int res)) D (fun W9 => W9 = [(zr_a, .inl (T.1, (60, .inl zr)))]) A) args s 2 36 A) (F0 m 14 ls [])) : ∀ F : Nat, ∀ x5 : Int32, ∀ x6 : Int32, ∀ q2_c : Nat → Int32, ∀ q7_c : Nat → Int32, f_L_through_b205 zr x1 x2 K14 F x5 x6 q2_c q7_c = some res → ∀ (H : Heap) (locs : List Loc), va_P D vwCl [(zr_a, .inl (T.1, (60, .inl zr))), (q2, .inl (T.1, (20, .inl q2_c))), (q7, .inl (T.1, (16, .inl q7_c)))] H → va_D A [(zr_a, .inl (T.1, (60, .inl zr))), (q2, .inl (T.1, (20, .inl q2_c))), (q7, .inl (T.1, (16, .inl q7_c)))] → va_S A s.heap H locs → ∀ ls : Array Slot, lv_has ls 10 [(0, .ref zr_a), (1, .int x1), (2, .int x2), (3, .ref q2), (4, .ref q7), (5, .int x5), (6, .int x6)] → W p l e rmL_through s m args below meth c H locs 2 36 (MQ below (Qm (some (.int res)) D (fun W9 => W9 = [(zr_a, .inl (T.1, (60, .inl zr)))]) A) args s 2 36 A) (F0 m 205 ls []) := by
  obtain ⟨hx, hb, hml, hown, hts, hr, hlocks, hK, hN⟩ := id C
  intro F
  induction F with
  | zero => intro _ _ _ _ hf; cases hf
  | succ F ih =>
    intro x5 x6 q2_c q7_c hf H locs hP hD hS ls hl
    unfold f_L_through_b205 at hf
    refine lv_iload hx hb dL_through_205 (lv_at hl 6 rfl) ?_
    refine lv_bipush (v := (16 : Int32)) hx hb dL_through_207 (by decide) ?_
    refine lv_icmp_ge (tgt := 226) hx hb dL_through_209 (by decide) (fun c_209 => ?_) (fun c_209 => ?_)
    · have hf := it_pos c_209 hf
      exact w_L_through_b226 C hA hK14 _ _ _ _ hf _ _ hP hD hS _ (lv_sub hl [0, 1, 2, 3, 4, 5, 6] rfl)
    · have hf := it_neg c_209 hf
      refine lv_aload hx hb dL_through_212 (lv_at hl 4 rfl) ?_
      refine lv_iload hx hb dL_through_214 (lv_at hl 6 rfl) ?_
      obtain ⟨g_216, hf⟩ := gd_some hf
      refine va_iald (D := D) hx hb hK hP 2 0 rfl rfl (gd_in g_216) dL_through_216 ?_
      refine lv_if_ne (tgt := 226) hx hb dL_through_217 (by decide) (fun c_217 => ?_) (fun c_217 => ?_)
      · have hf := it_neg c_217 hf
        exact w_L_through_b226 C hA hK14 _ _ _ _ hf _ _ hP hD hS _ (lv_sub hl [0, 1, 2, 3, 4, 5, 6] rfl)
      · have hf := it_pos c_217 hf
        obtain ⟨v220, e_220, hf⟩ := nm_some hf
        refine lv_iinc (v := v220) (lv' := [(6, .int v220), (0, .ref zr_a), (1, .int x1), (2, .int x2), (3, .ref q2), (4, .ref q7), (5, .int x5)]) hx hb dL_through_220 hl (k := 6) rfl (by rw [e_220]; rfl) (by decide) rfl (fun ls hl => ?_)
        refine lv_goto (tgt := 205) hx hb dL_through_223 (by decide) ?_
        exact ih _ _ _ _ hf _ _ hP hD hS _ (lv_sub hl [1, 2, 3, 4, 5, 6, 0] rfl)
set_option maxHeartbeats 4000000 in
set_option maxRecDepth 100000 in
theorem w_L_through_b50 {p : Program} {l : Launch} {e : Env} {s : State} {m : MethodId} {args : Array Value} {below : List Frame} {meth : Method} {c : Code} {D : va_G} {T : TY} {zr_a q2 q7 : Nat} {zr : Nat → Int32} {x1 : Int32} {x2 : Int32} {res : Int32} {K14 : Int32 → (Nat → Int32) → (Nat → Int32) → Option (Int32)} {A : Nat → Prop} (C : CX p s m args meth c cL_through 10 RL wsL_through (some .int) D T) (hA : ∀ q, s.heap.size ≤ q → A q) (hK14 : ∀ x5 : Int32, ∀ q2_c : Nat → Int32, ∀ q7_c : Nat → Int32, K14 x5 q2_c q7_c = some res → ∀ (H : Heap) (locs : List Loc), va_P D vwCl [(zr_a, .inl (T.1, (60, .inl zr))), (q2, .inl (T.1, (20, .inl q2_c))), (q7, .inl (T.1, (16, .inl q7_c)))] H → va_D A [(zr_a, .inl (T.1, (60, .inl zr))), (q2, .inl (T.1, (20, .inl q2_c))), (q7, .inl (T.1, (16, .inl q7_c)))] → va_S A s.heap H locs → ∀ ls : Array Slot, lv_has ls 10 [(0, .ref zr_a), (1, .int x1), (2, .int x2), (3, .ref q2), (4, .ref q7), (5, .int x5)] → W p l e rmL_through s m args below meth c H locs 2 36 (MQ below (Qm (some (.int res)) D (fun W9 => W9 = [(zr_a, .inl (T.1, (60, .inl zr)))]) A) args s 2 36 A) (F0 m 14 ls [])) : ∀ F : Nat, ∀ x5 : Int32, ∀ x6 : Int32, ∀ q2_c : Nat → Int32, ∀ q7_c : Nat → Int32, f_L_through_b50 zr x1 x2 K14 F x5 x6 q2_c q7_c = some res → ∀ (H : Heap) (locs : List Loc), va_P D vwCl [(zr_a, .inl (T.1, (60, .inl zr))), (q2, .inl (T.1, (20, .inl q2_c))), (q7, .inl (T.1, (16, .inl q7_c)))] H → va_D A [(zr_a, .inl (T.1, (60, .inl zr))), (q2, .inl (T.1, (20, .inl q2_c))), (q7, .inl (T.1, (16, .inl q7_c)))] → va_S A s.heap H locs → ∀ ls : Array Slot, lv_has ls 10 [(0, .ref zr_a), (1, .int x1), (2, .int x2), (3, .ref q2), (4, .ref q7), (5, .int x5), (6, .int x6)] → W p l e rmL_through s m args below meth c H locs 2 36 (MQ below (Qm (some (.int res)) D (fun W9 => W9 = [(zr_a, .inl (T.1, (60, .inl zr)))]) A) args s 2 36 A) (F0 m 50 ls []) := by
  obtain ⟨hx, hb, hml, hown, hts, hr, hlocks, hK, hN⟩ := id C
  intro F
  induction F with
  | zero => intro _ _ _ _ hf; cases hf
  | succ F ih =>
    intro x5 x6 q2_c q7_c hf H locs hP hD hS ls hl
    unfold f_L_through_b50 at hf
    refine lv_iload hx hb dL_through_50 (lv_at hl 6 rfl) ?_
    refine lv_bipush (v := (16 : Int32)) hx hb dL_through_52 (by decide) ?_
    refine lv_icmp_ge (tgt := 201) hx hb dL_through_54 (by decide) (fun c_54 => ?_) (fun c_54 => ?_)
    · have hf := it_pos c_54 hf
      refine lv_bipush (v := (12 : Int32)) hx hb dL_through_201 (by decide) ?_
      refine lv_istore (lv' := [(6, .int (12 : Int32)), (0, .ref zr_a), (1, .int x1), (2, .int x2), (3, .ref q2), (4, .ref q7), (5, .int x5)]) hx hb dL_through_203 hl (by decide) rfl (fun ls hl => ?_)
      exact w_L_through_b205 C hA hK14 _ _ _ _ _ hf _ _ hP hD hS _ (lv_sub hl [1, 2, 3, 4, 5, 6, 0] rfl)
    · have hf := it_neg c_54 hf
      refine lv_iconst (v := (0 : Int32)) hx hb dL_through_57 (by decide) ?_
      refine lv_istore (lv' := [(7, .int (0 : Int32)), (0, .ref zr_a), (1, .int x1), (2, .int x2), (3, .ref q2), (4, .ref q7), (5, .int x5), (6, .int x6)]) hx hb dL_through_58 hl (by decide) rfl (fun ls hl => ?_)
      exact w_L_through_b60 C hA hK14 (fun v0 v1 v2 v3 hf H1 l1 p1 d1 s1 ls hl => ih v0 v1 v2 v3 hf H1 l1 p1 d1 s1 ls hl) _ _ _ _ _ _ hf _ _ hP hD hS _ (lv_sub hl [1, 2, 3, 4, 5, 6, 7, 0] rfl)
set_option maxHeartbeats 4000000 in
set_option maxRecDepth 100000 in
theorem w_L_through_b17 {p : Program} {l : Launch} {e : Env} {s : State} {m : MethodId} {args : Array Value} {below : List Frame} {meth : Method} {c : Code} {D : va_G} {T : TY} {zr_a q2 q7 : Nat} {zr : Nat → Int32} {x1 : Int32} {x2 : Int32} {res : Int32} {K14 : Int32 → (Nat → Int32) → (Nat → Int32) → Option (Int32)} {A : Nat → Prop} (C : CX p s m args meth c cL_through 10 RL wsL_through (some .int) D T) (hA : ∀ q, s.heap.size ≤ q → A q) (hK14 : ∀ x5 : Int32, ∀ q2_c : Nat → Int32, ∀ q7_c : Nat → Int32, K14 x5 q2_c q7_c = some res → ∀ (H : Heap) (locs : List Loc), va_P D vwCl [(zr_a, .inl (T.1, (60, .inl zr))), (q2, .inl (T.1, (20, .inl q2_c))), (q7, .inl (T.1, (16, .inl q7_c)))] H → va_D A [(zr_a, .inl (T.1, (60, .inl zr))), (q2, .inl (T.1, (20, .inl q2_c))), (q7, .inl (T.1, (16, .inl q7_c)))] → va_S A s.heap H locs → ∀ ls : Array Slot, lv_has ls 10 [(0, .ref zr_a), (1, .int x1), (2, .int x2), (3, .ref q2), (4, .ref q7), (5, .int x5)] → W p l e rmL_through s m args below meth c H locs 2 36 (MQ below (Qm (some (.int res)) D (fun W9 => W9 = [(zr_a, .inl (T.1, (60, .inl zr)))]) A) args s 2 36 A) (F0 m 14 ls [])) : ∀ F : Nat, ∀ x5 : Int32, ∀ x6 : Int32, ∀ q2_c : Nat → Int32, ∀ q7_c : Nat → Int32, f_L_through_b17 zr x1 x2 K14 F x5 x6 q2_c q7_c = some res → ∀ (H : Heap) (locs : List Loc), va_P D vwCl [(zr_a, .inl (T.1, (60, .inl zr))), (q2, .inl (T.1, (20, .inl q2_c))), (q7, .inl (T.1, (16, .inl q7_c)))] H → va_D A [(zr_a, .inl (T.1, (60, .inl zr))), (q2, .inl (T.1, (20, .inl q2_c))), (q7, .inl (T.1, (16, .inl q7_c)))] → va_S A s.heap H locs → ∀ ls : Array Slot, lv_has ls 10 [(0, .ref zr_a), (1, .int x1), (2, .int x2), (3, .ref q2), (4, .ref q7), (5, .int x5), (6, .int x6)] → W p l e rmL_through s m args below meth c H locs 2 36 (MQ below (Qm (some (.int res)) D (fun W9 => W9 = [(zr_a, .inl (T.1, (60, .inl zr)))]) A) args s 2 36 A) (F0 m 17 ls []) := by
  obtain ⟨hx, hb, hml, hown, hts, hr, hlocks, hK, hN⟩ := id C
  intro F
  induction F with
  | zero => intro _ _ _ _ hf; cases hf
  | succ F ih =>
    intro x5 x6 q2_c q7_c hf H locs hP hD hS ls hl
    unfold f_L_through_b17 at hf
    refine lv_iload hx hb dL_through_17 (lv_at hl 6 rfl) ?_
    refine lv_bipush (v := (16 : Int32)) hx hb dL_through_19 (by decide) ?_
    refine lv_icmp_ge (tgt := 47) hx hb dL_through_21 (by decide) (fun c_21 => ?_) (fun c_21 => ?_)
    · have hf := it_pos c_21 hf
      refine lv_iconst (v := (0 : Int32)) hx hb dL_through_47 (by decide) ?_
      refine lv_istore (lv' := [(6, .int (0 : Int32)), (0, .ref zr_a), (1, .int x1), (2, .int x2), (3, .ref q2), (4, .ref q7), (5, .int x5)]) hx hb dL_through_48 hl (by decide) rfl (fun ls hl => ?_)
      exact w_L_through_b50 C hA hK14 _ _ _ _ _ hf _ _ hP hD hS _ (lv_sub hl [1, 2, 3, 4, 5, 6, 0] rfl)
    · have hf := it_neg c_21 hf
      refine lv_aload hx hb dL_through_24 (lv_at hl 4 rfl) ?_
      refine lv_iload hx hb dL_through_26 (lv_at hl 6 rfl) ?_
      refine lv_iload hx hb dL_through_28 (lv_at hl 6 rfl) ?_
      refine lv_iconst (v := (4 : Int32)) hx hb dL_through_30 (by decide) ?_
      refine lv_icmp_ge (tgt := 39) hx hb dL_through_31 (by decide) (fun c_31 => ?_) (fun c_31 => ?_)
      · have hf := it_pos c_31 hf
        refine lv_iconst (v := (0 : Int32)) hx hb dL_through_39 (by decide) ?_
        exact w_L_through_b40 C hA hK14 (fun v0 v1 v2 v3 hf H1 l1 p1 d1 s1 ls hl => ih v0 v1 v2 v3 hf H1 l1 p1 d1 s1 ls hl) _ _ _ _ _ _ hf _ _ hP hD hS _ (lv_sub hl [0, 1, 2, 3, 4, 5, 6] rfl)
      · have hf := it_neg c_31 hf
        refine lv_bipush (v := (99 : Int32)) hx hb dL_through_34 (by decide) ?_
        refine lv_goto (tgt := 40) hx hb dL_through_36 (by decide) ?_
        exact w_L_through_b40 C hA hK14 (fun v0 v1 v2 v3 hf H1 l1 p1 d1 s1 ls hl => ih v0 v1 v2 v3 hf H1 l1 p1 d1 s1 ls hl) _ _ _ _ _ _ hf _ _ hP hD hS _ (lv_sub hl [0, 1, 2, 3, 4, 5, 6] rfl)
set_option maxHeartbeats 4000000 in
set_option maxRecDepth 100000 in
theorem w_L_through_b14 {p : Program} {l : Launch} {e : Env} {s : State} {m : MethodId} {args : Array Value} {below : List Frame} {meth : Method} {c : Code} {D : va_G} {T : TY} {zr_a q2 q7 : Nat} {zr : Nat → Int32} {x1 : Int32} {x2 : Int32} {res : Int32} {A : Nat → Prop} (C : CX p s m args meth c cL_through 10 RL wsL_through (some .int) D T) (hA : ∀ q, s.heap.size ≤ q → A q) : ∀ F : Nat, ∀ x5 : Int32, ∀ q2_c : Nat → Int32, ∀ q7_c : Nat → Int32, f_L_through_b14 zr x1 x2 F x5 q2_c q7_c = some res → ∀ (H : Heap) (locs : List Loc), va_P D vwCl [(zr_a, .inl (T.1, (60, .inl zr))), (q2, .inl (T.1, (20, .inl q2_c))), (q7, .inl (T.1, (16, .inl q7_c)))] H → va_D A [(zr_a, .inl (T.1, (60, .inl zr))), (q2, .inl (T.1, (20, .inl q2_c))), (q7, .inl (T.1, (16, .inl q7_c)))] → va_S A s.heap H locs → ∀ ls : Array Slot, lv_has ls 10 [(0, .ref zr_a), (1, .int x1), (2, .int x2), (3, .ref q2), (4, .ref q7), (5, .int x5)] → W p l e rmL_through s m args below meth c H locs 2 36 (MQ below (Qm (some (.int res)) D (fun W9 => W9 = [(zr_a, .inl (T.1, (60, .inl zr)))]) A) args s 2 36 A) (F0 m 14 ls []) := by
  obtain ⟨hx, hb, hml, hown, hts, hr, hlocks, hK, hN⟩ := id C
  intro F
  induction F with
  | zero => intro _ _ _ hf; cases hf
  | succ F ih =>
    intro x5 q2_c q7_c hf H locs hP hD hS ls hl
    unfold f_L_through_b14 at hf
    refine lv_iconst (v := (0 : Int32)) hx hb dL_through_14 (by decide) ?_
    refine lv_istore (lv' := [(6, .int (0 : Int32)), (0, .ref zr_a), (1, .int x1), (2, .int x2), (3, .ref q2), (4, .ref q7), (5, .int x5)]) hx hb dL_through_15 hl (by decide) rfl (fun ls hl => ?_)
    exact w_L_through_b17 C hA (fun v0 v1 v2 hf H1 l1 p1 d1 s1 ls hl => ih v0 v1 v2 hf H1 l1 p1 d1 s1 ls hl) _ _ _ _ _ hf _ _ hP hD hS _ (lv_sub hl [1, 2, 3, 4, 5, 6, 0] rfl)
set_option maxHeartbeats 4000000 in
set_option maxRecDepth 100000 in
theorem w_L_through_b0 {p : Program} {l : Launch} {e : Env} {s : State} {m : MethodId} {args : Array Value} {below : List Frame} {meth : Method} {c : Code} {D : va_G} {T : TY} {zr_a : Nat} {zr : Nat → Int32} {x1 : Int32} {x2 : Int32} {res : Int32} {A : Nat → Prop} (C : CX p s m args meth c cL_through 10 RL wsL_through (some .int) D T) (hA : ∀ q, s.heap.size ≤ q → A q) : f_L_through zr x1 x2 = some res → ∀ (H : Heap) (locs : List Loc), va_P D vwCl [(zr_a, .inl (T.1, (60, .inl zr)))] H → va_D A [(zr_a, .inl (T.1, (60, .inl zr)))] → va_S A s.heap H locs → ∀ ls : Array Slot, lv_has ls 10 [(0, .ref zr_a), (1, .int x1), (2, .int x2)] → W p l e rmL_through s m args below meth c H locs 0 0 (MQ below (Qm (some (.int res)) D (fun W9 => W9 = [(zr_a, .inl (T.1, (60, .inl zr)))]) A) args s 2 36 A) (F0 m 0 ls []) := by
  obtain ⟨hx, hb, hml, hown, hts, hr, hlocks, hK, hN⟩ := id C
  intro  hf H locs hP hD hS ls hl
  unfold f_L_through at hf
  refine lv_bipush (v := (20 : Int32)) hx hb dL_through_0 (by decide) ?_
  refine va_newa (atype := .int) (ty := .int) (N' := 20) (a0 := (20, .inl (fun _ => (0 : Int32)))) hx hb (hts (.arrayClass .int) mw_L_through_0) rfl hK hP hD hS hA (fun _ => rfl) (by decide) (by decide) (by decide) (Nat.le_of_ble_eq_true rfl) (Nat.le_of_ble_eq_true rfl) dL_through_2 (fun q2 cA H hK9 hP hD hS => ?_)
  obtain rfl : cA = T.1 := tyOne hK9 0 rfl
  have hP : va_P D vwCl [(zr_a, .inl (T.1, (60, .inl zr))), (q2, .inl (T.1, (20, .inl (fun _ => (0 : Int32)))))] H := hP
  have hD : va_D A [(zr_a, .inl (T.1, (60, .inl zr))), (q2, .inl (T.1, (20, .inl (fun _ => (0 : Int32)))))] := hD
  refine W.widen (k := 1) (n := 20) (by decide) (by decide) ?_
  refine lv_astore_n (lv' := [(3, .ref q2), (0, .ref zr_a), (1, .int x1), (2, .int x2)]) hx hb dL_through_4 rfl hl (by decide) rfl (fun ls hl => ?_)
  refine lv_bipush (v := (16 : Int32)) hx hb dL_through_5 (by decide) ?_
  refine va_newa (atype := .int) (ty := .int) (N' := 16) (a0 := (16, .inl (fun _ => (0 : Int32)))) hx hb (hts (.arrayClass .int) mw_L_through_0) rfl hK hP hD hS hA (fun _ => rfl) (by decide) (by decide) (by decide) (Nat.le_of_ble_eq_true rfl) (Nat.le_of_ble_eq_true rfl) dL_through_7 (fun q7 cA H hK9 hP hD hS => ?_)
  obtain rfl : cA = T.1 := tyOne hK9 0 rfl
  have hP : va_P D vwCl [(zr_a, .inl (T.1, (60, .inl zr))), (q2, .inl (T.1, (20, .inl (fun _ => (0 : Int32))))), (q7, .inl (T.1, (16, .inl (fun _ => (0 : Int32)))))] H := hP
  have hD : va_D A [(zr_a, .inl (T.1, (60, .inl zr))), (q2, .inl (T.1, (20, .inl (fun _ => (0 : Int32))))), (q7, .inl (T.1, (16, .inl (fun _ => (0 : Int32)))))] := hD
  refine W.widen (k := 2) (n := 36) (by decide) (by decide) ?_
  refine lv_astore (lv' := [(4, .ref q7), (3, .ref q2), (0, .ref zr_a), (1, .int x1), (2, .int x2)]) hx hb dL_through_9 hl (by decide) rfl (fun ls hl => ?_)
  refine lv_iconst (v := (0 : Int32)) hx hb dL_through_11 (by decide) ?_
  refine lv_istore (lv' := [(5, .int (0 : Int32)), (4, .ref q7), (3, .ref q2), (0, .ref zr_a), (1, .int x1), (2, .int x2)]) hx hb dL_through_12 hl (by decide) rfl (fun ls hl => ?_)
  exact w_L_through_b14 C hA _ _ _ _ hf _ _ hP hD hS _ (lv_sub hl [3, 4, 5, 2, 1, 0] rfl)
theorem c_L_through (l : Launch) (D : va_G) (T : TY) (zr_a : Nat) (zr : Nat → Int32) (x1 : Int32) (x2 : Int32) (res : Int32) (hf : f_L_through zr x1 x2 = some res) (sz : Nat) : Met l yL_through wsL_through rmL_through (va_Pc [.ref zr_a, .int x1, .int x2] (PM D T [(zr_a, .inl (T.1, (60, .inl zr)))] sz)) (Qm (some (.int res)) D (fun W9 => W9 = [(zr_a, .inl (T.1, (60, .inl zr)))]) (va_A [(zr_a, .inl (T.1, (60, .inl zr)))] sz)) 2 36 (va_A [(zr_a, .inl (T.1, (60, .inl zr)))] sz) :=
  metM_of (by decide +kernel) rfl (Nat.le_of_ble_eq_true rfl) (fun p e s m args below meth c C hnm A hA hP hD ls hl => w_L_through_b0 C hA hf _ _ hP hD va_S.rf ls hl)
def rmL_sweep : Room := { frames := 1, cells := 16, slots := 64, locals := 21 }
theorem hdS_L_sweep : yL_sweep.cls ≠ "java/lang/invoke/MethodHandle" ∧ yL_sweep.cls ≠ "java/lang/invoke/VarHandle" ∧ (parseMethodDescriptor yL_sweep.desc).map (fun d => d.parameters.length) = some 3 := by decide +kernel
theorem mw_L_sweep_0 : Cond.arrayClass .int ∈ wsL_sweep := by decide +kernel
theorem mw_L_sweep_1 : Cond.constant RL 60 (232792560) ∈ wsL_sweep := by decide +kernel
theorem mw_L_sweep_2 : Cond.static yL_goesOn ∈ wsL_sweep := by decide +kernel
set_option maxHeartbeats 4000000 in
set_option maxRecDepth 100000 in
theorem w_L_sweep_b86 {p : Program} {l : Launch} {e : Env} {s : State} {m : MethodId} {args : Array Value} {below : List Frame} {meth : Method} {c : Code} {D : va_G} {T : TY} {zr_a za_a q8 q13 : Nat} {zr : Nat → Int32} {x2 : Int32} {res : (Nat → Int32)} {K2 : Int32 → (Nat → Int32) → Option ((Nat → Int32))} {K20 : Int32 → Int32 → (Nat → Int32) → (Nat → Int32) → (Nat → Int32) → Option ((Nat → Int32))} {K35 : Int32 → Int32 → Int32 → Int32 → Int32 → (Nat → Int32) → (Nat → Int32) → (Nat → Int32) → Option ((Nat → Int32))} {A : Nat → Prop} {cells slots : Nat} (C : CX p s m args meth c cL_sweep 10 RL wsL_sweep none D T) (hA : ∀ q, s.heap.size ≤ q → A q) (hcb : cells ≤ rmL_sweep.cells ∧ slots ≤ rmL_sweep.slots) (hK2 : ∀ x3 : Int32, ∀ za : Nat → Int32, K2 x3 za = some res → ∀ (H : Heap) (locs : List Loc), va_P D vwCl [(zr_a, .inl (T.1, (60, .inl zr))), (za_a, .inl (T.1, (16, .inl za)))] H → va_D A [(zr_a, .inl (T.1, (60, .inl zr))), (za_a, .inl (T.1, (16, .inl za)))] → va_S A s.heap H locs → ∀ ls : Array Slot, lv_has ls 10 [(0, .ref zr_a), (1, .ref za_a), (2, .int x2), (3, .int x3)] → W p l e rmL_sweep s m args below meth c H locs cells slots (MQ below (Qm none D (fun W9 => W9 = [(zr_a, .inl (T.1, (60, .inl zr))), (za_a, .inl (T.1, (16, .inl res)))]) A) args s 16 64 A) (F0 m 2 ls [])) (hK20 : ∀ x3 : Int32, ∀ x6 : Int32, ∀ za : Nat → Int32, ∀ q13_c : Nat → Int32, ∀ q8_c : Nat → Int32, K20 x3 x6 za q13_c q8_c = some res → ∀ (H : Heap) (locs : List Loc), va_P D vwCl [(zr_a, .inl (T.1, (60, .inl zr))), (za_a, .inl (T.1, (16, .inl za))), (q8, .inl (T.1, (4, .inl q8_c))), (q13, .inl (T.1, (4, .inl q13_c)))] H → va_D A [(zr_a, .inl (T.1, (60, .inl zr))), (za_a, .inl (T.1, (16, .inl za))), (q8, .inl (T.1, (4, .inl q8_c))), (q13, .inl (T.1, (4, .inl q13_c)))] → va_S A s.heap H locs → ∀ ls : Array Slot, lv_has ls 10 [(0, .ref zr_a), (1, .ref za_a), (2, .int x2), (3, .int x3), (4, .ref q8), (5, .ref q13), (6, .int x6)] → W p l e rmL_sweep s m args below meth c H locs cells slots (MQ below (Qm none D (fun W9 => W9 = [(zr_a, .inl (T.1, (60, .inl zr))), (za_a, .inl (T.1, (16, .inl res)))]) A) args s 16 64 A) (F0 m 20 ls [])) (hK35 : ∀ x3 : Int32, ∀ x6 : Int32, ∀ x7 : Int32, ∀ x8 : Int32, ∀ x9 : Int32, ∀ za : Nat → Int32, ∀ q13_c : Nat → Int32, ∀ q8_c : Nat → Int32, K35 x3 x6 x7 x8 x9 za q13_c q8_c = some res → ∀ (H : Heap) (locs : List Loc), va_P D vwCl [(zr_a, .inl (T.1, (60, .inl zr))), (za_a, .inl (T.1, (16, .inl za))), (q8, .inl (T.1, (4, .inl q8_c))), (q13, .inl (T.1, (4, .inl q13_c)))] H → va_D A [(zr_a, .inl (T.1, (60, .inl zr))), (za_a, .inl (T.1, (16, .inl za))), (q8, .inl (T.1, (4, .inl q8_c))), (q13, .inl (T.1, (4, .inl q13_c)))] → va_S A s.heap H locs → ∀ ls : Array Slot, lv_has ls 10 [(0, .ref zr_a), (1, .ref za_a), (2, .int x2), (3, .int x3), (4, .ref q8), (5, .ref q13), (6, .int x6), (7, .int x7), (8, .int x8), (9, .int x9)] → W p l e rmL_sweep s m args below meth c H locs cells slots (MQ below (Qm none D (fun W9 => W9 = [(zr_a, .inl (T.1, (60, .inl zr))), (za_a, .inl (T.1, (16, .inl res)))]) A) args s 16 64 A) (F0 m 35 ls [])) : ∀ x3 : Int32, ∀ x6 : Int32, ∀ x7 : Int32, ∀ x8 : Int32, ∀ x9 : Int32, ∀ za : Nat → Int32, ∀ q13_c : Nat → Int32, ∀ q8_c : Nat → Int32, f_L_sweep_b86 zr x2 K2 K20 K35 x3 x6 x7 x8 x9 za q13_c q8_c = some res → ∀ (H : Heap) (locs : List Loc), va_P D vwCl [(zr_a, .inl (T.1, (60, .inl zr))), (za_a, .inl (T.1, (16, .inl za))), (q8, .inl (T.1, (4, .inl q8_c))), (q13, .inl (T.1, (4, .inl q13_c)))] H → va_D A [(zr_a, .inl (T.1, (60, .inl zr))), (za_a, .inl (T.1, (16, .inl za))), (q8, .inl (T.1, (4, .inl q8_c))), (q13, .inl (T.1, (4, .inl q13_c)))] → va_S A s.heap H locs → ∀ ls : Array Slot, lv_has ls 10 [(0, .ref zr_a), (1, .ref za_a), (2, .int x2), (3, .int x3), (4, .ref q8), (5, .ref q13), (6, .int x6), (7, .int x7), (8, .int x8), (9, .int x9)] → W p l e rmL_sweep s m args below meth c H locs cells slots (MQ below (Qm none D (fun W9 => W9 = [(zr_a, .inl (T.1, (60, .inl zr))), (za_a, .inl (T.1, (16, .inl res)))]) A) args s 16 64 A) (F0 m 86 ls []) := by
  obtain ⟨hx, hb, hml, hown, hts, hr, hlocks, hK, hN⟩ := id C
  intro x3 x6 x7 x8 x9 za q13_c q8_c hf H locs hP hD hS ls hl
  unfold f_L_sweep_b86 at hf
  obtain ⟨v86, e_86, hf⟩ := nm_some hf
  refine lv_iinc (v := v86) (lv' := [(9, .int v86), (0, .ref zr_a), (1, .ref za_a), (2, .int x2), (3, .int x3), (4, .ref q8), (5, .ref q13), (6, .int x6), (7, .int x7), (8, .int x8)]) hx hb dL_sweep_86 hl (k := 9) rfl (by rw [e_86]; rfl) (by decide) rfl (fun ls hl => ?_)
  refine lv_goto (tgt := 35) hx hb dL_sweep_89 (by decide) ?_
  exact hK35 _ _ _ _ _ _ _ _ hf _ _ hP hD hS _ (lv_sub hl [1, 2, 3, 4, 5, 6, 7, 8, 9, 0] rfl)
set_option maxHeartbeats 4000000 in
set_option maxRecDepth 100000 in
theorem w_L_sweep_b136 {p : Program} {l : Launch} {e : Env} {s : State} {m : MethodId} {args : Array Value} {below : List Frame} {meth : Method} {c : Code} {D : va_G} {T : TY} {zr_a za_a q8 q13 : Nat} {zr : Nat → Int32} {x2 : Int32} {res : (Nat → Int32)} {K2 : Int32 → (Nat → Int32) → Option ((Nat → Int32))} {K20 : Int32 → Int32 → (Nat → Int32) → (Nat → Int32) → (Nat → Int32) → Option ((Nat → Int32))} {A : Nat → Prop} {cells slots : Nat} (C : CX p s m args meth c cL_sweep 10 RL wsL_sweep none D T) (hA : ∀ q, s.heap.size ≤ q → A q) (hcb : cells ≤ rmL_sweep.cells ∧ slots ≤ rmL_sweep.slots) (hK2 : ∀ x3 : Int32, ∀ za : Nat → Int32, K2 x3 za = some res → ∀ (H : Heap) (locs : List Loc), va_P D vwCl [(zr_a, .inl (T.1, (60, .inl zr))), (za_a, .inl (T.1, (16, .inl za)))] H → va_D A [(zr_a, .inl (T.1, (60, .inl zr))), (za_a, .inl (T.1, (16, .inl za)))] → va_S A s.heap H locs → ∀ ls : Array Slot, lv_has ls 10 [(0, .ref zr_a), (1, .ref za_a), (2, .int x2), (3, .int x3)] → W p l e rmL_sweep s m args below meth c H locs cells slots (MQ below (Qm none D (fun W9 => W9 = [(zr_a, .inl (T.1, (60, .inl zr))), (za_a, .inl (T.1, (16, .inl res)))]) A) args s 16 64 A) (F0 m 2 ls [])) (hK20 : ∀ x3 : Int32, ∀ x6 : Int32, ∀ za : Nat → Int32, ∀ q13_c : Nat → Int32, ∀ q8_c : Nat → Int32, K20 x3 x6 za q13_c q8_c = some res → ∀ (H : Heap) (locs : List Loc), va_P D vwCl [(zr_a, .inl (T.1, (60, .inl zr))), (za_a, .inl (T.1, (16, .inl za))), (q8, .inl (T.1, (4, .inl q8_c))), (q13, .inl (T.1, (4, .inl q13_c)))] H → va_D A [(zr_a, .inl (T.1, (60, .inl zr))), (za_a, .inl (T.1, (16, .inl za))), (q8, .inl (T.1, (4, .inl q8_c))), (q13, .inl (T.1, (4, .inl q13_c)))] → va_S A s.heap H locs → ∀ ls : Array Slot, lv_has ls 10 [(0, .ref zr_a), (1, .ref za_a), (2, .int x2), (3, .int x3), (4, .ref q8), (5, .ref q13), (6, .int x6)] → W p l e rmL_sweep s m args below meth c H locs cells slots (MQ below (Qm none D (fun W9 => W9 = [(zr_a, .inl (T.1, (60, .inl zr))), (za_a, .inl (T.1, (16, .inl res)))]) A) args s 16 64 A) (F0 m 20 ls [])) : ∀ s0 : Int32, ∀ s1 : Int32, ∀ x3 : Int32, ∀ x6 : Int32, ∀ za : Nat → Int32, ∀ q13_c : Nat → Int32, ∀ q8_c : Nat → Int32, f_L_sweep_b136 zr x2 K2 K20 s0 s1 x3 x6 za q13_c q8_c = some res → ∀ (H : Heap) (locs : List Loc), va_P D vwCl [(zr_a, .inl (T.1, (60, .inl zr))), (za_a, .inl (T.1, (16, .inl za))), (q8, .inl (T.1, (4, .inl q8_c))), (q13, .inl (T.1, (4, .inl q13_c)))] H → va_D A [(zr_a, .inl (T.1, (60, .inl zr))), (za_a, .inl (T.1, (16, .inl za))), (q8, .inl (T.1, (4, .inl q8_c))), (q13, .inl (T.1, (4, .inl q13_c)))] → va_S A s.heap H locs → ∀ ls : Array Slot, lv_has ls 10 [(0, .ref zr_a), (1, .ref za_a), (2, .int x2), (3, .int x3), (4, .ref q8), (5, .ref q13), (6, .int x6)] → W p l e rmL_sweep s m args below meth c H locs cells slots (MQ below (Qm none D (fun W9 => W9 = [(zr_a, .inl (T.1, (60, .inl zr))), (za_a, .inl (T.1, (16, .inl res)))]) A) args s 16 64 A) (F0 m 136 ls [.int s0, .int s1, .ref q13]) := by
  obtain ⟨hx, hb, hml, hown, hts, hr, hlocks, hK, hN⟩ := id C
  intro s0 s1 x3 x6 za q13_c q8_c hf H locs hP hD hS ls hl
  unfold f_L_sweep_b136 at hf
  obtain ⟨g_136, hf⟩ := gd_some hf
  refine va_iast (D := D) hx hb hK hP hD hS 3 0 rfl rfl (gd_in g_136) dL_sweep_136 (fun H locs hP hD hS => ?_)
  have hP : va_P D vwCl [(zr_a, .inl (T.1, (60, .inl zr))), (za_a, .inl (T.1, (16, .inl za))), (q8, .inl (T.1, (4, .inl q8_c))), (q13, .inl (T.1, (4, .inl (upd q13_c s1.toNatClampNeg s0))))] H := hP
  have hD : va_D A [(zr_a, .inl (T.1, (60, .inl zr))), (za_a, .inl (T.1, (16, .inl za))), (q8, .inl (T.1, (4, .inl q8_c))), (q13, .inl (T.1, (4, .inl (upd q13_c s1.toNatClampNeg s0))))] := hD
  obtain ⟨v137, e_137, hf⟩ := nm_some hf
  refine lv_iinc (v := v137) (lv' := [(6, .int v137), (0, .ref zr_a), (1, .ref za_a), (2, .int x2), (3, .int x3), (4, .ref q8), (5, .ref q13)]) hx hb dL_sweep_137 hl (k := 6) rfl (by rw [e_137]; rfl) (by decide) rfl (fun ls hl => ?_)
  refine lv_goto (tgt := 20) hx hb dL_sweep_140 (by decide) ?_
  exact hK20 _ _ _ _ _ hf _ _ hP hD hS _ (lv_sub hl [1, 2, 3, 4, 5, 6, 0] rfl)
set_option maxHeartbeats 4000000 in
set_option maxRecDepth 100000 in
theorem w_L_sweep_b35 {p : Program} {l : Launch} {e : Env} {s : State} {m : MethodId} {args : Array Value} {below : List Frame} {meth : Method} {c : Code} {D : va_G} {T : TY} {zr_a za_a q8 q13 : Nat} {zr : Nat → Int32} {x2 : Int32} {res : (Nat → Int32)} {K2 : Int32 → (Nat → Int32) → Option ((Nat → Int32))} {K20 : Int32 → Int32 → (Nat → Int32) → (Nat → Int32) → (Nat → Int32) → Option ((Nat → Int32))} {A : Nat → Prop} {cells slots : Nat} (C : CX p s m args meth c cL_sweep 10 RL wsL_sweep none D T) (hA : ∀ q, s.heap.size ≤ q → A q) (hcb : cells ≤ rmL_sweep.cells ∧ slots ≤ rmL_sweep.slots) (hK2 : ∀ x3 : Int32, ∀ za : Nat → Int32, K2 x3 za = some res → ∀ (H : Heap) (locs : List Loc), va_P D vwCl [(zr_a, .inl (T.1, (60, .inl zr))), (za_a, .inl (T.1, (16, .inl za)))] H → va_D A [(zr_a, .inl (T.1, (60, .inl zr))), (za_a, .inl (T.1, (16, .inl za)))] → va_S A s.heap H locs → ∀ ls : Array Slot, lv_has ls 10 [(0, .ref zr_a), (1, .ref za_a), (2, .int x2), (3, .int x3)] → W p l e rmL_sweep s m args below meth c H locs cells slots (MQ below (Qm none D (fun W9 => W9 = [(zr_a, .inl (T.1, (60, .inl zr))), (za_a, .inl (T.1, (16, .inl res)))]) A) args s 16 64 A) (F0 m 2 ls [])) (hK20 : ∀ x3 : Int32, ∀ x6 : Int32, ∀ za : Nat → Int32, ∀ q13_c : Nat → Int32, ∀ q8_c : Nat → Int32, K20 x3 x6 za q13_c q8_c = some res → ∀ (H : Heap) (locs : List Loc), va_P D vwCl [(zr_a, .inl (T.1, (60, .inl zr))), (za_a, .inl (T.1, (16, .inl za))), (q8, .inl (T.1, (4, .inl q8_c))), (q13, .inl (T.1, (4, .inl q13_c)))] H → va_D A [(zr_a, .inl (T.1, (60, .inl zr))), (za_a, .inl (T.1, (16, .inl za))), (q8, .inl (T.1, (4, .inl q8_c))), (q13, .inl (T.1, (4, .inl q13_c)))] → va_S A s.heap H locs → ∀ ls : Array Slot, lv_has ls 10 [(0, .ref zr_a), (1, .ref za_a), (2, .int x2), (3, .int x3), (4, .ref q8), (5, .ref q13), (6, .int x6)] → W p l e rmL_sweep s m args below meth c H locs cells slots (MQ below (Qm none D (fun W9 => W9 = [(zr_a, .inl (T.1, (60, .inl zr))), (za_a, .inl (T.1, (16, .inl res)))]) A) args s 16 64 A) (F0 m 20 ls [])) : ∀ F : Nat, ∀ x3 : Int32, ∀ x6 : Int32, ∀ x7 : Int32, ∀ x8 : Int32, ∀ x9 : Int32, ∀ za : Nat → Int32, ∀ q13_c : Nat → Int32, ∀ q8_c : Nat → Int32, f_L_sweep_b35 zr x2 K2 K20 F x3 x6 x7 x8 x9 za q13_c q8_c = some res → ∀ (H : Heap) (locs : List Loc), va_P D vwCl [(zr_a, .inl (T.1, (60, .inl zr))), (za_a, .inl (T.1, (16, .inl za))), (q8, .inl (T.1, (4, .inl q8_c))), (q13, .inl (T.1, (4, .inl q13_c)))] H → va_D A [(zr_a, .inl (T.1, (60, .inl zr))), (za_a, .inl (T.1, (16, .inl za))), (q8, .inl (T.1, (4, .inl q8_c))), (q13, .inl (T.1, (4, .inl q13_c)))] → va_S A s.heap H locs → ∀ ls : Array Slot, lv_has ls 10 [(0, .ref zr_a), (1, .ref za_a), (2, .int x2), (3, .int x3), (4, .ref q8), (5, .ref q13), (6, .int x6), (7, .int x7), (8, .int x8), (9, .int x9)] → W p l e rmL_sweep s m args below meth c H locs cells slots (MQ below (Qm none D (fun W9 => W9 = [(zr_a, .inl (T.1, (60, .inl zr))), (za_a, .inl (T.1, (16, .inl res)))]) A) args s 16 64 A) (F0 m 35 ls []) := by
  obtain ⟨hx, hb, hml, hown, hts, hr, hlocks, hK, hN⟩ := id C
  intro F
  induction F with
  | zero => intro _ _ _ _ _ _ _ _ hf; cases hf
  | succ F ih =>
    intro x3 x6 x7 x8 x9 za q13_c q8_c hf H locs hP hD hS ls hl
    unfold f_L_sweep_b35 at hf
    refine lv_iload hx hb dL_sweep_35 (lv_at hl 9 rfl) ?_
    refine lv_iload_n hx hb dL_sweep_37 rfl (lv_at hl 2 rfl) ?_
    refine lv_icmp_ge (tgt := 92) hx hb dL_sweep_38 (by decide) (fun c_38 => ?_) (fun c_38 => ?_)
    · have hf := it_pos c_38 hf
      refine lv_aload hx hb dL_sweep_92 (lv_at hl 4 rfl) ?_
      refine lv_aload_n hx hb dL_sweep_94 rfl (lv_at hl 1 rfl) ?_
      refine lv_iconst (v := (4 : Int32)) hx hb dL_sweep_95 (by decide) ?_
      refine lv_iload_n hx hb dL_sweep_96 rfl (lv_at hl 3 rfl) ?_
      refine lv_imul hx hb dL_sweep_97 ?_
      refine lv_iload hx hb dL_sweep_98 (lv_at hl 6 rfl) ?_
      refine lv_iadd hx hb dL_sweep_100 ?_
      obtain ⟨g_101, hf⟩ := gd_some hf
      refine va_iald (D := D) hx hb hK hP 1 0 rfl rfl (gd_in g_101) dL_sweep_101 ?_
      refine lv_iload hx hb dL_sweep_102 (lv_at hl 6 rfl) ?_
      obtain ⟨g_104, hf⟩ := gd_some hf
      refine va_iast (D := D) hx hb hK hP hD hS 2 0 rfl rfl (gd_in g_104) dL_sweep_104 (fun H locs hP hD hS => ?_)
      have hP : va_P D vwCl [(zr_a, .inl (T.1, (60, .inl zr))), (za_a, .inl (T.1, (16, .inl za))), (q8, .inl (T.1, (4, .inl (upd q8_c (za (((4 : Int32) * x3) + x6).toNatClampNeg).toNatClampNeg x6)))), (q13, .inl (T.1, (4, .inl q13_c)))] H := hP
      have hD : va_D A [(zr_a, .inl (T.1, (60, .inl zr))), (za_a, .inl (T.1, (16, .inl za))), (q8, .inl (T.1, (4, .inl (upd q8_c (za (((4 : Int32) * x3) + x6).toNatClampNeg).toNatClampNeg x6)))), (q13, .inl (T.1, (4, .inl q13_c)))] := hD
      refine lv_aload hx hb dL_sweep_105 (lv_at hl 5 rfl) ?_
      refine lv_iload hx hb dL_sweep_107 (lv_at hl 6 rfl) ?_
      refine lv_iload hx hb dL_sweep_109 (lv_at hl 8 rfl) ?_
      refine lv_if_ne (tgt := 128) hx hb dL_sweep_111 (by decide) (fun c_111 => ?_) (fun c_111 => ?_)
      · have hf := it_neg c_111 hf
        refine lv_ldc (v := (232792560 : Int32)) hx hb hown (hts (.constant RL 60 (232792560)) mw_L_sweep_1) dL_sweep_128 ?_
        refine lv_iload hx hb dL_sweep_130 (lv_at hl 8 rfl) ?_
        by_cases c_132 : x8 = 0
        · rw [if_pos c_132] at hf; cases hf
        rw [if_neg c_132] at hf
        refine lv_idiv hx hb dL_sweep_132 c_132 ?_
        refine lv_iload hx hb dL_sweep_133 (lv_at hl 7 rfl) ?_
        refine lv_imul hx hb dL_sweep_135 ?_
        exact w_L_sweep_b136 C hA hcb hK2 hK20 _ _ _ _ _ _ _ hf _ _ hP hD hS _ (lv_sub hl [0, 1, 2, 3, 4, 5, 6] rfl)
      · have hf := it_pos c_111 hf
        refine lv_ldc (v := (232792560 : Int32)) hx hb hown (hts (.constant RL 60 (232792560)) mw_L_sweep_1) dL_sweep_114 ?_
        refine lv_aload_n hx hb dL_sweep_116 rfl (lv_at hl 1 rfl) ?_
        refine lv_iconst (v := (4 : Int32)) hx hb dL_sweep_117 (by decide) ?_
        refine lv_iload_n hx hb dL_sweep_118 rfl (lv_at hl 3 rfl) ?_
        refine lv_imul hx hb dL_sweep_119 ?_
        refine lv_iload hx hb dL_sweep_120 (lv_at hl 6 rfl) ?_
        refine lv_iadd hx hb dL_sweep_122 ?_
        obtain ⟨g_123, hf⟩ := gd_some hf
        refine va_iald (D := D) hx hb hK hP 1 0 rfl rfl (gd_in g_123) dL_sweep_123 ?_
        refine lv_imul hx hb dL_sweep_124 ?_
        refine lv_goto (tgt := 136) hx hb dL_sweep_125 (by decide) ?_
        exact w_L_sweep_b136 C hA hcb hK2 hK20 _ _ _ _ _ _ _ hf _ _ hP hD hS _ (lv_sub hl [0, 1, 2, 3, 4, 5, 6] rfl)
    · have hf := it_neg c_38 hf
      refine lv_aload_n hx hb dL_sweep_41 rfl (lv_at hl 0 rfl) ?_
      refine lv_iload hx hb dL_sweep_42 (lv_at hl 9 rfl) ?_
      obtain ⟨q44, e_44, hf⟩ := bd_some hf
      refine callPi (va_runS (As := [.ref zr_a, .int x9]) (rest := []) ⟨hx, hb, hml, hown, hts⟩ (c_L_goesOn l D T zr_a zr x9 q44 e_44) (va_cwS 2 hts gL_sweep_L_goesOn rfl rfl rfl hdS_L_goesOn ⟨Nat.le_of_ble_eq_true rfl, Nat.le_of_ble_eq_true rfl⟩) (preBS (hP.sub (ws' := [(zr_a, .inl (T.1, (60, .inl zr)))]) [0] rfl) hK hN) rfl rfl hl.1 rfl (lv_room (Nat.le_of_ble_eq_true rfl)) dL_sweep_44 hcb) ?_
      refine lv_if_eq (tgt := 86) hx hb dL_sweep_47 (by decide) (fun c_47 => ?_) (fun c_47 => ?_)
      · have hf := it_pos c_47 hf
        exact w_L_sweep_b86 C hA hcb hK2 hK20 (fun v0 v1 v2 v3 v4 v5 v6 v7 hf H1 l1 p1 d1 s1 ls hl => ih v0 v1 v2 v3 v4 v5 v6 v7 hf H1 l1 p1 d1 s1 ls hl) _ _ _ _ _ _ _ _ hf _ _ hP hD hS _ (lv_sub hl [0, 1, 2, 3, 4, 5, 6, 7, 8, 9] rfl)
      · have hf := it_neg c_47 hf
        refine lv_aload_n hx hb dL_sweep_50 rfl (lv_at hl 0 rfl) ?_
        refine lv_iconst (v := (3 : Int32)) hx hb dL_sweep_51 (by decide) ?_
        refine lv_iload hx hb dL_sweep_52 (lv_at hl 9 rfl) ?_
        refine lv_imul hx hb dL_sweep_54 ?_
        refine lv_iconst (v := (1 : Int32)) hx hb dL_sweep_55 (by decide) ?_
        refine lv_iadd hx hb dL_sweep_56 ?_
        obtain ⟨g_57, hf⟩ := gd_some hf
        refine va_iald (D := D) hx hb hK hP 0 0 rfl rfl (gd_in g_57) dL_sweep_57 ?_
        refine lv_iconst (v := (4 : Int32)) hx hb dL_sweep_58 (by decide) ?_
        refine lv_iload_n hx hb dL_sweep_59 rfl (lv_at hl 3 rfl) ?_
        refine lv_imul hx hb dL_sweep_60 ?_
        refine lv_iload hx hb dL_sweep_61 (lv_at hl 6 rfl) ?_
        refine lv_iadd hx hb dL_sweep_63 ?_
        refine lv_icmp_eq (tgt := 70) hx hb dL_sweep_64 (by decide) (fun c_64 => ?_) (fun c_64 => ?_)
        · have hf := it_pos c_64 hf
          refine lv_iload hx hb dL_sweep_70 (lv_at hl 7 rfl) ?_
          refine lv_aload_n hx hb dL_sweep_72 rfl (lv_at hl 1 rfl) ?_
          refine lv_aload_n hx hb dL_sweep_73 rfl (lv_at hl 0 rfl) ?_
          refine lv_iconst (v := (3 : Int32)) hx hb dL_sweep_74 (by decide) ?_
          refine lv_iload hx hb dL_sweep_75 (lv_at hl 9 rfl) ?_
          refine lv_imul hx hb dL_sweep_77 ?_
          obtain ⟨g_78, hf⟩ := gd_some hf
          refine va_iald (D := D) hx hb hK hP 0 0 rfl rfl (gd_in g_78) dL_sweep_78 ?_
          obtain ⟨g_79, hf⟩ := gd_some hf
          refine va_iald (D := D) hx hb hK hP 1 0 rfl rfl (gd_in g_79) dL_sweep_79 ?_
          refine lv_iadd hx hb dL_sweep_80 ?_
          obtain ⟨v81, e_81, hf⟩ := nm_some hf
          refine lv_nmi e_81 ?_
          refine lv_istore (lv' := [(7, .int v81), (0, .ref zr_a), (1, .ref za_a), (2, .int x2), (3, .int x3), (4, .ref q8), (5, .ref q13), (6, .int x6), (8, .int x8), (9, .int x9)]) hx hb dL_sweep_81 hl (by decide) rfl (fun ls hl => ?_)
          obtain ⟨v83, e_83, hf⟩ := nm_some hf
          refine lv_iinc (v := v83) (lv' := [(8, .int v83), (7, .int v81), (0, .ref zr_a), (1, .ref za_a), (2, .int x2), (3, .int x3), (4, .ref q8), (5, .ref q13), (6, .int x6), (9, .int x9)]) hx hb dL_sweep_83 hl (k := 8) rfl (by rw [e_83]; rfl) (by decide) rfl (fun ls hl => ?_)
          exact w_L_sweep_b86 C hA hcb hK2 hK20 (fun v0 v1 v2 v3 v4 v5 v6 v7 hf H1 l1 p1 d1 s1 ls hl => ih v0 v1 v2 v3 v4 v5 v6 v7 hf H1 l1 p1 d1 s1 ls hl) _ _ _ _ _ _ _ _ hf _ _ hP hD hS _ (lv_sub hl [2, 3, 4, 5, 6, 7, 8, 1, 0, 9] rfl)
        · have hf := it_neg c_64 hf
          refine lv_goto (tgt := 86) hx hb dL_sweep_67 (by decide) ?_
          exact w_L_sweep_b86 C hA hcb hK2 hK20 (fun v0 v1 v2 v3 v4 v5 v6 v7 hf H1 l1 p1 d1 s1 ls hl => ih v0 v1 v2 v3 v4 v5 v6 v7 hf H1 l1 p1 d1 s1 ls hl) _ _ _ _ _ _ _ _ hf _ _ hP hD hS _ (lv_sub hl [0, 1, 2, 3, 4, 5, 6, 7, 8, 9] rfl)
set_option maxHeartbeats 4000000 in
set_option maxRecDepth 100000 in
theorem w_L_sweep_b216 {p : Program} {l : Launch} {e : Env} {s : State} {m : MethodId} {args : Array Value} {below : List Frame} {meth : Method} {c : Code} {D : va_G} {T : TY} {zr_a za_a q8 q13 : Nat} {zr : Nat → Int32} {x2 : Int32} {res : (Nat → Int32)} {K2 : Int32 → (Nat → Int32) → Option ((Nat → Int32))} {K146 : Int32 → Int32 → (Nat → Int32) → (Nat → Int32) → (Nat → Int32) → Option ((Nat → Int32))} {A : Nat → Prop} {cells slots : Nat} (C : CX p s m args meth c cL_sweep 10 RL wsL_sweep none D T) (hA : ∀ q, s.heap.size ≤ q → A q) (hcb : cells ≤ rmL_sweep.cells ∧ slots ≤ rmL_sweep.slots) (hK2 : ∀ x3 : Int32, ∀ za : Nat → Int32, K2 x3 za = some res → ∀ (H : Heap) (locs : List Loc), va_P D vwCl [(zr_a, .inl (T.1, (60, .inl zr))), (za_a, .inl (T.1, (16, .inl za)))] H → va_D A [(zr_a, .inl (T.1, (60, .inl zr))), (za_a, .inl (T.1, (16, .inl za)))] → va_S A s.heap H locs → ∀ ls : Array Slot, lv_has ls 10 [(0, .ref zr_a), (1, .ref za_a), (2, .int x2), (3, .int x3)] → W p l e rmL_sweep s m args below meth c H locs cells slots (MQ below (Qm none D (fun W9 => W9 = [(zr_a, .inl (T.1, (60, .inl zr))), (za_a, .inl (T.1, (16, .inl res)))]) A) args s 16 64 A) (F0 m 2 ls [])) (hK146 : ∀ x3 : Int32, ∀ x6 : Int32, ∀ za : Nat → Int32, ∀ q13_c : Nat → Int32, ∀ q8_c : Nat → Int32, K146 x3 x6 za q13_c q8_c = some res → ∀ (H : Heap) (locs : List Loc), va_P D vwCl [(zr_a, .inl (T.1, (60, .inl zr))), (za_a, .inl (T.1, (16, .inl za))), (q8, .inl (T.1, (4, .inl q8_c))), (q13, .inl (T.1, (4, .inl q13_c)))] H → va_D A [(zr_a, .inl (T.1, (60, .inl zr))), (za_a, .inl (T.1, (16, .inl za))), (q8, .inl (T.1, (4, .inl q8_c))), (q13, .inl (T.1, (4, .inl q13_c)))] → va_S A s.heap H locs → ∀ ls : Array Slot, lv_has ls 10 [(0, .ref zr_a), (1, .ref za_a), (2, .int x2), (3, .int x3), (4, .ref q8), (5, .ref q13), (6, .int x6)] → W p l e rmL_sweep s m args below meth c H locs cells slots (MQ below (Qm none D (fun W9 => W9 = [(zr_a, .inl (T.1, (60, .inl zr))), (za_a, .inl (T.1, (16, .inl res)))]) A) args s 16 64 A) (F0 m 146 ls [])) : ∀ x3 : Int32, ∀ x6 : Int32, ∀ za : Nat → Int32, ∀ q13_c : Nat → Int32, ∀ q8_c : Nat → Int32, f_L_sweep_b216 zr x2 K2 K146 x3 x6 za q13_c q8_c = some res → ∀ (H : Heap) (locs : List Loc), va_P D vwCl [(zr_a, .inl (T.1, (60, .inl zr))), (za_a, .inl (T.1, (16, .inl za))), (q8, .inl (T.1, (4, .inl q8_c))), (q13, .inl (T.1, (4, .inl q13_c)))] H → va_D A [(zr_a, .inl (T.1, (60, .inl zr))), (za_a, .inl (T.1, (16, .inl za))), (q8, .inl (T.1, (4, .inl q8_c))), (q13, .inl (T.1, (4, .inl q13_c)))] → va_S A s.heap H locs → ∀ ls : Array Slot, lv_has ls 10 [(0, .ref zr_a), (1, .ref za_a), (2, .int x2), (3, .int x3), (4, .ref q8), (5, .ref q13), (6, .int x6)] → W p l e rmL_sweep s m args below meth c H locs cells slots (MQ below (Qm none D (fun W9 => W9 = [(zr_a, .inl (T.1, (60, .inl zr))), (za_a, .inl (T.1, (16, .inl res)))]) A) args s 16 64 A) (F0 m 216 ls []) := by
  obtain ⟨hx, hb, hml, hown, hts, hr, hlocks, hK, hN⟩ := id C
  intro x3 x6 za q13_c q8_c hf H locs hP hD hS ls hl
  unfold f_L_sweep_b216 at hf
  obtain ⟨v216, e_216, hf⟩ := nm_some hf
  refine lv_iinc (v := v216) (lv' := [(6, .int v216), (0, .ref zr_a), (1, .ref za_a), (2, .int x2), (3, .int x3), (4, .ref q8), (5, .ref q13)]) hx hb dL_sweep_216 hl (k := 6) rfl (by rw [e_216]; rfl) (by decide) rfl (fun ls hl => ?_)
  refine lv_goto (tgt := 146) hx hb dL_sweep_219 (by decide) ?_
  exact hK146 _ _ _ _ _ hf _ _ hP hD hS _ (lv_sub hl [1, 2, 3, 4, 5, 6, 0] rfl)
set_option maxHeartbeats 4000000 in
set_option maxRecDepth 100000 in
theorem w_L_sweep_b156 {p : Program} {l : Launch} {e : Env} {s : State} {m : MethodId} {args : Array Value} {below : List Frame} {meth : Method} {c : Code} {D : va_G} {T : TY} {zr_a za_a q8 q13 : Nat} {zr : Nat → Int32} {x2 : Int32} {res : (Nat → Int32)} {K2 : Int32 → (Nat → Int32) → Option ((Nat → Int32))} {K146 : Int32 → Int32 → (Nat → Int32) → (Nat → Int32) → (Nat → Int32) → Option ((Nat → Int32))} {A : Nat → Prop} {cells slots : Nat} (C : CX p s m args meth c cL_sweep 10 RL wsL_sweep none D T) (hA : ∀ q, s.heap.size ≤ q → A q) (hcb : cells ≤ rmL_sweep.cells ∧ slots ≤ rmL_sweep.slots) (hK2 : ∀ x3 : Int32, ∀ za : Nat → Int32, K2 x3 za = some res → ∀ (H : Heap) (locs : List Loc), va_P D vwCl [(zr_a, .inl (T.1, (60, .inl zr))), (za_a, .inl (T.1, (16, .inl za)))] H → va_D A [(zr_a, .inl (T.1, (60, .inl zr))), (za_a, .inl (T.1, (16, .inl za)))] → va_S A s.heap H locs → ∀ ls : Array Slot, lv_has ls 10 [(0, .ref zr_a), (1, .ref za_a), (2, .int x2), (3, .int x3)] → W p l e rmL_sweep s m args below meth c H locs cells slots (MQ below (Qm none D (fun W9 => W9 = [(zr_a, .inl (T.1, (60, .inl zr))), (za_a, .inl (T.1, (16, .inl res)))]) A) args s 16 64 A) (F0 m 2 ls [])) (hK146 : ∀ x3 : Int32, ∀ x6 : Int32, ∀ za : Nat → Int32, ∀ q13_c : Nat → Int32, ∀ q8_c : Nat → Int32, K146 x3 x6 za q13_c q8_c = some res → ∀ (H : Heap) (locs : List Loc), va_P D vwCl [(zr_a, .inl (T.1, (60, .inl zr))), (za_a, .inl (T.1, (16, .inl za))), (q8, .inl (T.1, (4, .inl q8_c))), (q13, .inl (T.1, (4, .inl q13_c)))] H → va_D A [(zr_a, .inl (T.1, (60, .inl zr))), (za_a, .inl (T.1, (16, .inl za))), (q8, .inl (T.1, (4, .inl q8_c))), (q13, .inl (T.1, (4, .inl q13_c)))] → va_S A s.heap H locs → ∀ ls : Array Slot, lv_has ls 10 [(0, .ref zr_a), (1, .ref za_a), (2, .int x2), (3, .int x3), (4, .ref q8), (5, .ref q13), (6, .int x6)] → W p l e rmL_sweep s m args below meth c H locs cells slots (MQ below (Qm none D (fun W9 => W9 = [(zr_a, .inl (T.1, (60, .inl zr))), (za_a, .inl (T.1, (16, .inl res)))]) A) args s 16 64 A) (F0 m 146 ls [])) : ∀ F : Nat, ∀ x3 : Int32, ∀ x6 : Int32, ∀ x7 : Int32, ∀ za : Nat → Int32, ∀ q13_c : Nat → Int32, ∀ q8_c : Nat → Int32, f_L_sweep_b156 zr x2 K2 K146 F x3 x6 x7 za q13_c q8_c = some res → ∀ (H : Heap) (locs : List Loc), va_P D vwCl [(zr_a, .inl (T.1, (60, .inl zr))), (za_a, .inl (T.1, (16, .inl za))), (q8, .inl (T.1, (4, .inl q8_c))), (q13, .inl (T.1, (4, .inl q13_c)))] H → va_D A [(zr_a, .inl (T.1, (60, .inl zr))), (za_a, .inl (T.1, (16, .inl za))), (q8, .inl (T.1, (4, .inl q8_c))), (q13, .inl (T.1, (4, .inl q13_c)))] → va_S A s.heap H locs → ∀ ls : Array Slot, lv_has ls 10 [(0, .ref zr_a), (1, .ref za_a), (2, .int x2), (3, .int x3), (4, .ref q8), (5, .ref q13), (6, .int x6), (7, .int x7)] → W p l e rmL_sweep s m args below meth c H locs cells slots (MQ below (Qm none D (fun W9 => W9 = [(zr_a, .inl (T.1, (60, .inl zr))), (za_a, .inl (T.1, (16, .inl res)))]) A) args s 16 64 A) (F0 m 156 ls []) := by
  obtain ⟨hx, hb, hml, hown, hts, hr, hlocks, hK, hN⟩ := id C
  intro F
  induction F with
  | zero => intro _ _ _ _ _ _ hf; cases hf
  | succ F ih =>
    intro x3 x6 x7 za q13_c q8_c hf H locs hP hD hS ls hl
    unfold f_L_sweep_b156 at hf
    refine lv_iload hx hb dL_sweep_156 (lv_at hl 7 rfl) ?_
    refine lv_if_le (tgt := 216) hx hb dL_sweep_158 (by decide) (fun c_158 => ?_) (fun c_158 => ?_)
    · have hf := it_pos c_158 hf
      exact w_L_sweep_b216 C hA hcb hK2 hK146 _ _ _ _ _ hf _ _ hP hD hS _ (lv_sub hl [0, 1, 2, 3, 4, 5, 6] rfl)
    · have hf := it_neg c_158 hf
      refine lv_aload hx hb dL_sweep_161 (lv_at hl 5 rfl) ?_
      refine lv_aload hx hb dL_sweep_163 (lv_at hl 4 rfl) ?_
      refine lv_iload hx hb dL_sweep_165 (lv_at hl 7 rfl) ?_
      obtain ⟨g_167, hf⟩ := gd_some hf
      refine va_iald (D := D) hx hb hK hP 2 0 rfl rfl (gd_in g_167) dL_sweep_167 ?_
      obtain ⟨g_168, hf⟩ := gd_some hf
      refine va_iald (D := D) hx hb hK hP 3 0 rfl rfl (gd_in g_168) dL_sweep_168 ?_
      refine lv_aload hx hb dL_sweep_169 (lv_at hl 5 rfl) ?_
      refine lv_aload hx hb dL_sweep_171 (lv_at hl 4 rfl) ?_
      refine lv_iload hx hb dL_sweep_173 (lv_at hl 7 rfl) ?_
      refine lv_iconst (v := (1 : Int32)) hx hb dL_sweep_175 (by decide) ?_
      refine lv_isub hx hb dL_sweep_176 ?_
      obtain ⟨g_177, hf⟩ := gd_some hf
      refine va_iald (D := D) hx hb hK hP 2 0 rfl rfl (gd_in g_177) dL_sweep_177 ?_
      obtain ⟨g_178, hf⟩ := gd_some hf
      refine va_iald (D := D) hx hb hK hP 3 0 rfl rfl (gd_in g_178) dL_sweep_178 ?_
      refine lv_icmp_ge (tgt := 216) hx hb dL_sweep_179 (by decide) (fun c_179 => ?_) (fun c_179 => ?_)
      · have hf := it_pos c_179 hf
        exact w_L_sweep_b216 C hA hcb hK2 hK146 _ _ _ _ _ hf _ _ hP hD hS _ (lv_sub hl [0, 1, 2, 3, 4, 5, 6] rfl)
      · have hf := it_neg c_179 hf
        refine lv_aload hx hb dL_sweep_182 (lv_at hl 4 rfl) ?_
        refine lv_iload hx hb dL_sweep_184 (lv_at hl 7 rfl) ?_
        obtain ⟨g_186, hf⟩ := gd_some hf
        refine va_iald (D := D) hx hb hK hP 2 0 rfl rfl (gd_in g_186) dL_sweep_186 ?_
        obtain ⟨v187, e_187, hf⟩ := nm_some hf
        refine lv_nmi e_187 ?_
        refine lv_istore (lv' := [(8, .int v187), (0, .ref zr_a), (1, .ref za_a), (2, .int x2), (3, .int x3), (4, .ref q8), (5, .ref q13), (6, .int x6), (7, .int x7)]) hx hb dL_sweep_187 hl (by decide) rfl (fun ls hl => ?_)
        refine lv_aload hx hb dL_sweep_189 (lv_at hl 5 rfl) ?_
        refine lv_iload hx hb dL_sweep_191 (lv_at hl 8 rfl) ?_
        refine lv_aload hx hb dL_sweep_193 (lv_at hl 5 rfl) ?_
        refine lv_iload hx hb dL_sweep_195 (lv_at hl 8 rfl) ?_
        refine lv_iconst (v := (1 : Int32)) hx hb dL_sweep_197 (by decide) ?_
        refine lv_isub hx hb dL_sweep_198 ?_
        obtain ⟨g_199, hf⟩ := gd_some hf
        refine va_iald (D := D) hx hb hK hP 2 0 rfl rfl (gd_in g_199) dL_sweep_199 ?_
        obtain ⟨v200, e_200, hf⟩ := nm_some hf
        refine lv_nmi e_200 ?_
        obtain ⟨g_200, hf⟩ := gd_some hf
        refine va_iast (D := D) hx hb hK hP hD hS 2 0 rfl rfl (gd_in g_200) dL_sweep_200 (fun H locs hP hD hS => ?_)
        have hP : va_P D vwCl [(zr_a, .inl (T.1, (60, .inl zr))), (za_a, .inl (T.1, (16, .inl za))), (q8, .inl (T.1, (4, .inl (upd q8_c x7.toNatClampNeg v200)))), (q13, .inl (T.1, (4, .inl q13_c)))] H := hP
        have hD : va_D A [(zr_a, .inl (T.1, (60, .inl zr))), (za_a, .inl (T.1, (16, .inl za))), (q8, .inl (T.1, (4, .inl (upd q8_c x7.toNatClampNeg v200)))), (q13, .inl (T.1, (4, .inl q13_c)))] := hD
        refine lv_aload hx hb dL_sweep_201 (lv_at hl 5 rfl) ?_
        refine lv_iload hx hb dL_sweep_203 (lv_at hl 8 rfl) ?_
        refine lv_iconst (v := (1 : Int32)) hx hb dL_sweep_205 (by decide) ?_
        refine lv_isub hx hb dL_sweep_206 ?_
        refine lv_iload hx hb dL_sweep_207 (lv_at hl 0 rfl) ?_
        obtain ⟨g_209, hf⟩ := gd_some hf
        refine va_iast (D := D) hx hb hK hP hD hS 2 0 rfl rfl (gd_in g_209) dL_sweep_209 (fun H locs hP hD hS => ?_)
        have hP : va_P D vwCl [(zr_a, .inl (T.1, (60, .inl zr))), (za_a, .inl (T.1, (16, .inl za))), (q8, .inl (T.1, (4, .inl (upd (upd q8_c x7.toNatClampNeg v200) (x7 - (1 : Int32)).toNatClampNeg v187)))), (q13, .inl (T.1, (4, .inl q13_c)))] H := hP
        have hD : va_D A [(zr_a, .inl (T.1, (60, .inl zr))), (za_a, .inl (T.1, (16, .inl za))), (q8, .inl (T.1, (4, .inl (upd (upd q8_c x7.toNatClampNeg v200) (x7 - (1 : Int32)).toNatClampNeg v187)))), (q13, .inl (T.1, (4, .inl q13_c)))] := hD
        obtain ⟨v210, e_210, hf⟩ := nm_some hf
        refine lv_iinc (v := v210) (lv' := [(7, .int v210), (8, .int v187), (0, .ref zr_a), (1, .ref za_a), (2, .int x2), (3, .int x3), (4, .ref q8), (5, .ref q13), (6, .int x6)]) hx hb dL_sweep_210 hl (k := 8) rfl (by rw [e_210]; rfl) (by decide) rfl (fun ls hl => ?_)
        refine lv_goto (tgt := 156) hx hb dL_sweep_213 (by decide) ?_
        exact ih _ _ _ _ _ _ hf _ _ hP hD hS _ (lv_sub hl [2, 3, 4, 5, 6, 7, 8, 0] rfl)
set_option maxHeartbeats 4000000 in
set_option maxRecDepth 100000 in
theorem w_L_sweep_b225 {p : Program} {l : Launch} {e : Env} {s : State} {m : MethodId} {args : Array Value} {below : List Frame} {meth : Method} {c : Code} {D : va_G} {T : TY} {zr_a za_a q8 q13 : Nat} {zr : Nat → Int32} {x2 : Int32} {res : (Nat → Int32)} {K2 : Int32 → (Nat → Int32) → Option ((Nat → Int32))} {A : Nat → Prop} {cells slots : Nat} (C : CX p s m args meth c cL_sweep 10 RL wsL_sweep none D T) (hA : ∀ q, s.heap.size ≤ q → A q) (hcb : cells ≤ rmL_sweep.cells ∧ slots ≤ rmL_sweep.slots) (hK2 : ∀ x3 : Int32, ∀ za : Nat → Int32, K2 x3 za = some res → ∀ (H : Heap) (locs : List Loc), va_P D vwCl [(zr_a, .inl (T.1, (60, .inl zr))), (za_a, .inl (T.1, (16, .inl za)))] H → va_D A [(zr_a, .inl (T.1, (60, .inl zr))), (za_a, .inl (T.1, (16, .inl za)))] → va_S A s.heap H locs → ∀ ls : Array Slot, lv_has ls 10 [(0, .ref zr_a), (1, .ref za_a), (2, .int x2), (3, .int x3)] → W p l e rmL_sweep s m args below meth c H locs cells slots (MQ below (Qm none D (fun W9 => W9 = [(zr_a, .inl (T.1, (60, .inl zr))), (za_a, .inl (T.1, (16, .inl res)))]) A) args s 16 64 A) (F0 m 2 ls [])) : ∀ F : Nat, ∀ x3 : Int32, ∀ x6 : Int32, ∀ za : Nat → Int32, ∀ q13_c : Nat → Int32, ∀ q8_c : Nat → Int32, f_L_sweep_b225 zr x2 K2 F x3 x6 za q13_c q8_c = some res → ∀ (H : Heap) (locs : List Loc), va_P D vwCl [(zr_a, .inl (T.1, (60, .inl zr))), (za_a, .inl (T.1, (16, .inl za))), (q8, .inl (T.1, (4, .inl q8_c))), (q13, .inl (T.1, (4, .inl q13_c)))] H → va_D A [(zr_a, .inl (T.1, (60, .inl zr))), (za_a, .inl (T.1, (16, .inl za))), (q8, .inl (T.1, (4, .inl q8_c))), (q13, .inl (T.1, (4, .inl q13_c)))] → va_S A s.heap H locs → ∀ ls : Array Slot, lv_has ls 10 [(0, .ref zr_a), (1, .ref za_a), (2, .int x2), (3, .int x3), (4, .ref q8), (6, .int x6)] → W p l e rmL_sweep s m args below meth c H locs cells slots (MQ below (Qm none D (fun W9 => W9 = [(zr_a, .inl (T.1, (60, .inl zr))), (za_a, .inl (T.1, (16, .inl res)))]) A) args s 16 64 A) (F0 m 225 ls []) := by
  obtain ⟨hx, hb, hml, hown, hts, hr, hlocks, hK, hN⟩ := id C
  intro F
  induction F with
  | zero => intro _ _ _ _ _ hf; cases hf
  | succ F ih =>
    intro x3 x6 za q13_c q8_c hf H locs hP hD hS ls hl
    unfold f_L_sweep_b225 at hf
    refine lv_iload hx hb dL_sweep_225 (lv_at hl 5 rfl) ?_
    refine lv_iconst (v := (4 : Int32)) hx hb dL_sweep_227 (by decide) ?_
    refine lv_icmp_ge (tgt := 250) hx hb dL_sweep_228 (by decide) (fun c_228 => ?_) (fun c_228 => ?_)
    · have hf := it_pos c_228 hf
      obtain ⟨v250, e_250, hf⟩ := nm_some hf
      refine lv_iinc (v := v250) (lv' := [(3, .int v250), (0, .ref zr_a), (1, .ref za_a), (2, .int x2), (4, .ref q8), (6, .int x6)]) hx hb dL_sweep_250 hl (k := 3) rfl (by rw [e_250]; rfl) (by decide) rfl (fun ls hl => ?_)
      refine lv_goto (tgt := 2) hx hb dL_sweep_253 (by decide) ?_
      exact hK2 _ _ hf _ _ (hP.sub (ws' := [(zr_a, .inl (T.1, (60, .inl zr))), (za_a, .inl (T.1, (16, .inl za)))]) [0, 1] rfl) (hD.sub (ws' := [(zr_a, .inl (T.1, (60, .inl zr))), (za_a, .inl (T.1, (16, .inl za)))]) [0, 1] rfl rfl) hS _ (lv_sub hl [1, 2, 3, 0] rfl)
    · have hf := it_neg c_228 hf
      refine lv_aload_n hx hb dL_sweep_231 rfl (lv_at hl 1 rfl) ?_
      refine lv_iconst (v := (4 : Int32)) hx hb dL_sweep_232 (by decide) ?_
      refine lv_iload_n hx hb dL_sweep_233 rfl (lv_at hl 3 rfl) ?_
      refine lv_imul hx hb dL_sweep_234 ?_
      refine lv_aload hx hb dL_sweep_235 (lv_at hl 4 rfl) ?_
      refine lv_iload hx hb dL_sweep_237 (lv_at hl 5 rfl) ?_
      obtain ⟨g_239, hf⟩ := gd_some hf
      refine va_iald (D := D) hx hb hK hP 2 0 rfl rfl (gd_in g_239) dL_sweep_239 ?_
      refine lv_iadd hx hb dL_sweep_240 ?_
      refine lv_iload hx hb dL_sweep_241 (lv_at hl 5 rfl) ?_
      obtain ⟨g_243, hf⟩ := gd_some hf
      refine va_iast (D := D) hx hb hK hP hD hS 1 0 rfl rfl (gd_in g_243) dL_sweep_243 (fun H locs hP hD hS => ?_)
      have hP : va_P D vwCl [(zr_a, .inl (T.1, (60, .inl zr))), (za_a, .inl (T.1, (16, .inl (upd za (((4 : Int32) * x3) + (q8_c x6.toNatClampNeg)).toNatClampNeg x6)))), (q8, .inl (T.1, (4, .inl q8_c))), (q13, .inl (T.1, (4, .inl q13_c)))] H := hP
      have hD : va_D A [(zr_a, .inl (T.1, (60, .inl zr))), (za_a, .inl (T.1, (16, .inl (upd za (((4 : Int32) * x3) + (q8_c x6.toNatClampNeg)).toNatClampNeg x6)))), (q8, .inl (T.1, (4, .inl q8_c))), (q13, .inl (T.1, (4, .inl q13_c)))] := hD
      obtain ⟨v244, e_244, hf⟩ := nm_some hf
      refine lv_iinc (v := v244) (lv' := [(6, .int v244), (0, .ref zr_a), (1, .ref za_a), (2, .int x2), (3, .int x3), (4, .ref q8)]) hx hb dL_sweep_244 hl (k := 5) rfl (by rw [e_244]; rfl) (by decide) rfl (fun ls hl => ?_)
      refine lv_goto (tgt := 225) hx hb dL_sweep_247 (by decide) ?_
      exact ih _ _ _ _ _ hf _ _ hP hD hS _ (lv_sub hl [1, 2, 3, 4, 5, 0] rfl)
set_option maxHeartbeats 4000000 in
set_option maxRecDepth 100000 in
theorem w_L_sweep_b146 {p : Program} {l : Launch} {e : Env} {s : State} {m : MethodId} {args : Array Value} {below : List Frame} {meth : Method} {c : Code} {D : va_G} {T : TY} {zr_a za_a q8 q13 : Nat} {zr : Nat → Int32} {x2 : Int32} {res : (Nat → Int32)} {K2 : Int32 → (Nat → Int32) → Option ((Nat → Int32))} {A : Nat → Prop} {cells slots : Nat} (C : CX p s m args meth c cL_sweep 10 RL wsL_sweep none D T) (hA : ∀ q, s.heap.size ≤ q → A q) (hcb : cells ≤ rmL_sweep.cells ∧ slots ≤ rmL_sweep.slots) (hK2 : ∀ x3 : Int32, ∀ za : Nat → Int32, K2 x3 za = some res → ∀ (H : Heap) (locs : List Loc), va_P D vwCl [(zr_a, .inl (T.1, (60, .inl zr))), (za_a, .inl (T.1, (16, .inl za)))] H → va_D A [(zr_a, .inl (T.1, (60, .inl zr))), (za_a, .inl (T.1, (16, .inl za)))] → va_S A s.heap H locs → ∀ ls : Array Slot, lv_has ls 10 [(0, .ref zr_a), (1, .ref za_a), (2, .int x2), (3, .int x3)] → W p l e rmL_sweep s m args below meth c H locs cells slots (MQ below (Qm none D (fun W9 => W9 = [(zr_a, .inl (T.1, (60, .inl zr))), (za_a, .inl (T.1, (16, .inl res)))]) A) args s 16 64 A) (F0 m 2 ls [])) : ∀ F : Nat, ∀ x3 : Int32, ∀ x6 : Int32, ∀ za : Nat → Int32, ∀ q13_c : Nat → Int32, ∀ q8_c : Nat → Int32, f_L_sweep_b146 zr x2 K2 F x3 x6 za q13_c q8_c = some res → ∀ (H : Heap) (locs : List Loc), va_P D vwCl [(zr_a, .inl (T.1, (60, .inl zr))), (za_a, .inl (T.1, (16, .inl za))), (q8, .inl (T.1, (4, .inl q8_c))), (q13, .inl (T.1, (4, .inl q13_c)))] H → va_D A [(zr_a, .inl (T.1, (60, .inl zr))), (za_a, .inl (T.1, (16, .inl za))), (q8, .inl (T.1, (4, .inl q8_c))), (q13, .inl (T.1, (4, .inl q13_c)))] → va_S A s.heap H locs → ∀ ls : Array Slot, lv_has ls 10 [(0, .ref zr_a), (1, .ref za_a), (2, .int x2), (3, .int x3), (4, .ref q8), (5, .ref q13), (6, .int x6)] → W p l e rmL_sweep s m args below meth c H locs cells slots (MQ below (Qm none D (fun W9 => W9 = [(zr_a, .inl (T.1, (60, .inl zr))), (za_a, .inl (T.1, (16, .inl res)))]) A) args s 16 64 A) (F0 m 146 ls []) := by
  obtain ⟨hx, hb, hml, hown, hts, hr, hlocks, hK, hN⟩ := id C
  intro F
  induction F with
  | zero => intro _ _ _ _ _ hf; cases hf
  | succ F ih =>
    intro x3 x6 za q13_c q8_c hf H locs hP hD hS ls hl
    unfold f_L_sweep_b146 at hf
    refine lv_iload hx hb dL_sweep_146 (lv_at hl 6 rfl) ?_
    refine lv_iconst (v := (4 : Int32)) hx hb dL_sweep_148 (by decide) ?_
    refine lv_icmp_ge (tgt := 222) hx hb dL_sweep_149 (by decide) (fun c_149 => ?_) (fun c_149 => ?_)
    · have hf := it_pos c_149 hf
      refine lv_iconst (v := (0 : Int32)) hx hb dL_sweep_222 (by decide) ?_
      refine lv_istore (lv' := [(6, .int (0 : Int32)), (0, .ref zr_a), (1, .ref za_a), (2, .int x2), (3, .int x3), (4, .ref q8), (5, .ref q13)]) hx hb dL_sweep_223 hl (by decide) rfl (fun ls hl => ?_)
      exact w_L_sweep_b225 C hA hcb hK2 _ _ _ _ _ _ hf _ _ hP hD hS _ (lv_sub hl [1, 2, 3, 4, 5, 0] rfl)
    · have hf := it_neg c_149 hf
      refine lv_iload hx hb dL_sweep_152 (lv_at hl 6 rfl) ?_
      refine lv_istore (lv' := [(7, .int x6), (0, .ref zr_a), (1, .ref za_a), (2, .int x2), (3, .int x3), (4, .ref q8), (5, .ref q13), (6, .int x6)]) hx hb dL_sweep_154 hl (by decide) rfl (fun ls hl => ?_)
      exact w_L_sweep_b156 C hA hcb hK2 (fun v0 v1 v2 v3 v4 hf H1 l1 p1 d1 s1 ls hl => ih v0 v1 v2 v3 v4 hf H1 l1 p1 d1 s1 ls hl) _ _ _ _ _ _ _ hf _ _ hP hD hS _ (lv_sub hl [1, 2, 3, 4, 5, 6, 7, 0] rfl)
set_option maxHeartbeats 4000000 in
set_option maxRecDepth 100000 in
theorem w_L_sweep_b20 {p : Program} {l : Launch} {e : Env} {s : State} {m : MethodId} {args : Array Value} {below : List Frame} {meth : Method} {c : Code} {D : va_G} {T : TY} {zr_a za_a q8 q13 : Nat} {zr : Nat → Int32} {x2 : Int32} {res : (Nat → Int32)} {K2 : Int32 → (Nat → Int32) → Option ((Nat → Int32))} {A : Nat → Prop} {cells slots : Nat} (C : CX p s m args meth c cL_sweep 10 RL wsL_sweep none D T) (hA : ∀ q, s.heap.size ≤ q → A q) (hcb : cells ≤ rmL_sweep.cells ∧ slots ≤ rmL_sweep.slots) (hK2 : ∀ x3 : Int32, ∀ za : Nat → Int32, K2 x3 za = some res → ∀ (H : Heap) (locs : List Loc), va_P D vwCl [(zr_a, .inl (T.1, (60, .inl zr))), (za_a, .inl (T.1, (16, .inl za)))] H → va_D A [(zr_a, .inl (T.1, (60, .inl zr))), (za_a, .inl (T.1, (16, .inl za)))] → va_S A s.heap H locs → ∀ ls : Array Slot, lv_has ls 10 [(0, .ref zr_a), (1, .ref za_a), (2, .int x2), (3, .int x3)] → W p l e rmL_sweep s m args below meth c H locs cells slots (MQ below (Qm none D (fun W9 => W9 = [(zr_a, .inl (T.1, (60, .inl zr))), (za_a, .inl (T.1, (16, .inl res)))]) A) args s 16 64 A) (F0 m 2 ls [])) : ∀ F : Nat, ∀ x3 : Int32, ∀ x6 : Int32, ∀ za : Nat → Int32, ∀ q13_c : Nat → Int32, ∀ q8_c : Nat → Int32, f_L_sweep_b20 zr x2 K2 F x3 x6 za q13_c q8_c = some res → ∀ (H : Heap) (locs : List Loc), va_P D vwCl [(zr_a, .inl (T.1, (60, .inl zr))), (za_a, .inl (T.1, (16, .inl za))), (q8, .inl (T.1, (4, .inl q8_c))), (q13, .inl (T.1, (4, .inl q13_c)))] H → va_D A [(zr_a, .inl (T.1, (60, .inl zr))), (za_a, .inl (T.1, (16, .inl za))), (q8, .inl (T.1, (4, .inl q8_c))), (q13, .inl (T.1, (4, .inl q13_c)))] → va_S A s.heap H locs → ∀ ls : Array Slot, lv_has ls 10 [(0, .ref zr_a), (1, .ref za_a), (2, .int x2), (3, .int x3), (4, .ref q8), (5, .ref q13), (6, .int x6)] → W p l e rmL_sweep s m args below meth c H locs cells slots (MQ below (Qm none D (fun W9 => W9 = [(zr_a, .inl (T.1, (60, .inl zr))), (za_a, .inl (T.1, (16, .inl res)))]) A) args s 16 64 A) (F0 m 20 ls []) := by
  obtain ⟨hx, hb, hml, hown, hts, hr, hlocks, hK, hN⟩ := id C
  intro F
  induction F with
  | zero => intro _ _ _ _ _ hf; cases hf
  | succ F ih =>
    intro x3 x6 za q13_c q8_c hf H locs hP hD hS ls hl
    unfold f_L_sweep_b20 at hf
    refine lv_iload hx hb dL_sweep_20 (lv_at hl 6 rfl) ?_
    refine lv_iconst (v := (4 : Int32)) hx hb dL_sweep_22 (by decide) ?_
    refine lv_icmp_ge (tgt := 143) hx hb dL_sweep_23 (by decide) (fun c_23 => ?_) (fun c_23 => ?_)
    · have hf := it_pos c_23 hf
      refine lv_iconst (v := (1 : Int32)) hx hb dL_sweep_143 (by decide) ?_
      refine lv_istore (lv' := [(6, .int (1 : Int32)), (0, .ref zr_a), (1, .ref za_a), (2, .int x2), (3, .int x3), (4, .ref q8), (5, .ref q13)]) hx hb dL_sweep_144 hl (by decide) rfl (fun ls hl => ?_)
      exact w_L_sweep_b146 C hA hcb hK2 _ _ _ _ _ _ hf _ _ hP hD hS _ (lv_sub hl [1, 2, 3, 4, 5, 6, 0] rfl)
    · have hf := it_neg c_23 hf
      refine lv_iconst (v := (0 : Int32)) hx hb dL_sweep_26 (by decide) ?_
      refine lv_istore (lv' := [(7, .int (0 : Int32)), (0, .ref zr_a), (1, .ref za_a), (2, .int x2), (3, .int x3), (4, .ref q8), (5, .ref q13), (6, .int x6)]) hx hb dL_sweep_27 hl (by decide) rfl (fun ls hl => ?_)
      refine lv_iconst (v := (0 : Int32)) hx hb dL_sweep_29 (by decide) ?_
      refine lv_istore (lv' := [(8, .int (0 : Int32)), (7, .int (0 : Int32)), (0, .ref zr_a), (1, .ref za_a), (2, .int x2), (3, .int x3), (4, .ref q8), (5, .ref q13), (6, .int x6)]) hx hb dL_sweep_30 hl (by decide) rfl (fun ls hl => ?_)
      refine lv_iconst (v := (0 : Int32)) hx hb dL_sweep_32 (by decide) ?_
      refine lv_istore (lv' := [(9, .int (0 : Int32)), (8, .int (0 : Int32)), (7, .int (0 : Int32)), (0, .ref zr_a), (1, .ref za_a), (2, .int x2), (3, .int x3), (4, .ref q8), (5, .ref q13), (6, .int x6)]) hx hb dL_sweep_33 hl (by decide) rfl (fun ls hl => ?_)
      exact w_L_sweep_b35 C hA hcb hK2 (fun v0 v1 v2 v3 v4 hf H1 l1 p1 d1 s1 ls hl => ih v0 v1 v2 v3 v4 hf H1 l1 p1 d1 s1 ls hl) _ _ _ _ _ _ _ _ _ hf _ _ hP hD hS _ (lv_sub hl [3, 4, 5, 6, 7, 8, 9, 2, 1, 0] rfl)
set_option maxHeartbeats 4000000 in
set_option maxRecDepth 100000 in
theorem w_L_sweep_b2 {p : Program} {l : Launch} {e : Env} {s : State} {m : MethodId} {args : Array Value} {below : List Frame} {meth : Method} {c : Code} {D : va_G} {T : TY} {zr_a za_a : Nat} {zr : Nat → Int32} {x2 : Int32} {res : (Nat → Int32)} {A : Nat → Prop} (C : CX p s m args meth c cL_sweep 10 RL wsL_sweep none D T) (hA : ∀ q, s.heap.size ≤ q → A q) : ∀ F : Nat, ∀ x3 : Int32, ∀ za : Nat → Int32, f_L_sweep_b2 zr x2 F x3 za = some res → ∀ (cells slots : Nat), cells + 2 * F ≤ 16 → slots + 8 * F ≤ 64 → ∀ (H : Heap) (locs : List Loc), va_P D vwCl [(zr_a, .inl (T.1, (60, .inl zr))), (za_a, .inl (T.1, (16, .inl za)))] H → va_D A [(zr_a, .inl (T.1, (60, .inl zr))), (za_a, .inl (T.1, (16, .inl za)))] → va_S A s.heap H locs → ∀ ls : Array Slot, lv_has ls 10 [(0, .ref zr_a), (1, .ref za_a), (2, .int x2), (3, .int x3)] → W p l e rmL_sweep s m args below meth c H locs cells slots (MQ below (Qm none D (fun W9 => W9 = [(zr_a, .inl (T.1, (60, .inl zr))), (za_a, .inl (T.1, (16, .inl res)))]) A) args s 16 64 A) (F0 m 2 ls []) := by
  obtain ⟨hx, hb, hml, hown, hts, hr, hlocks, hK, hN⟩ := id C
  intro F
  induction F with
  | zero => intro _ _ hf; cases hf
  | succ F ih =>
    intro x3 za hf cells slots hc1 hc2 H locs hP hD hS ls hl
    unfold f_L_sweep_b2 at hf
    refine lv_iload_n hx hb dL_sweep_2 rfl (lv_at hl 3 rfl) ?_
    refine lv_iconst (v := (4 : Int32)) hx hb dL_sweep_3 (by decide) ?_
    refine lv_icmp_ge (tgt := 256) hx hb dL_sweep_4 (by decide) (fun c_4 => ?_) (fun c_4 => ?_)
    · have hf := it_pos c_4 hf
      obtain rfl := Option.some.inj hf
      refine W.widen (k := 16) (n := 64) (by omega) (by omega) ?_
      exact W.vret hx hb hr (fun t ht hW => ⟨rfl, ⟨_, rfl, by rw [ht]; exact hP, hD⟩, hS.F ht⟩) hS.2.2 dL_sweep_256 hlocks
    · have hf := it_neg c_4 hf
      refine lv_iconst (v := (4 : Int32)) hx hb dL_sweep_7 (by decide) ?_
      refine va_newa (atype := .int) (ty := .int) (N' := 4) (a0 := (4, .inl (fun _ => (0 : Int32)))) hx hb (hts (.arrayClass .int) mw_L_sweep_0) rfl hK hP hD hS hA (fun _ => rfl) (by decide) (by decide) (by decide) (by have q : rmL_sweep.cells = 16 := rfl; omega) (by have q : rmL_sweep.slots = 64 := rfl; omega) dL_sweep_8 (fun q8 cA H hK9 hP hD hS => ?_)
      obtain rfl : cA = T.1 := tyOne hK9 0 rfl
      have hP : va_P D vwCl [(zr_a, .inl (T.1, (60, .inl zr))), (za_a, .inl (T.1, (16, .inl za))), (q8, .inl (T.1, (4, .inl (fun _ => (0 : Int32)))))] H := hP
      have hD : va_D A [(zr_a, .inl (T.1, (60, .inl zr))), (za_a, .inl (T.1, (16, .inl za))), (q8, .inl (T.1, (4, .inl (fun _ => (0 : Int32)))))] := hD
      refine W.widen (k := cells + 1) (n := slots + 4) (by omega) (by omega) ?_
      refine lv_astore (lv' := [(4, .ref q8), (0, .ref zr_a), (1, .ref za_a), (2, .int x2), (3, .int x3)]) hx hb dL_sweep_10 hl (by decide) rfl (fun ls hl => ?_)
      refine lv_iconst (v := (4 : Int32)) hx hb dL_sweep_12 (by decide) ?_
      refine va_newa (atype := .int) (ty := .int) (N' := 4) (a0 := (4, .inl (fun _ => (0 : Int32)))) hx hb (hts (.arrayClass .int) mw_L_sweep_0) rfl hK hP hD hS hA (fun _ => rfl) (by decide) (by decide) (by decide) (by have q : rmL_sweep.cells = 16 := rfl; omega) (by have q : rmL_sweep.slots = 64 := rfl; omega) dL_sweep_13 (fun q13 cA H hK9 hP hD hS => ?_)
      obtain rfl : cA = T.1 := tyOne hK9 0 rfl
      have hP : va_P D vwCl [(zr_a, .inl (T.1, (60, .inl zr))), (za_a, .inl (T.1, (16, .inl za))), (q8, .inl (T.1, (4, .inl (fun _ => (0 : Int32))))), (q13, .inl (T.1, (4, .inl (fun _ => (0 : Int32)))))] H := hP
      have hD : va_D A [(zr_a, .inl (T.1, (60, .inl zr))), (za_a, .inl (T.1, (16, .inl za))), (q8, .inl (T.1, (4, .inl (fun _ => (0 : Int32))))), (q13, .inl (T.1, (4, .inl (fun _ => (0 : Int32)))))] := hD
      refine W.widen (k := cells + 2) (n := slots + 8) (by omega) (by omega) ?_
      refine lv_astore (lv' := [(5, .ref q13), (4, .ref q8), (0, .ref zr_a), (1, .ref za_a), (2, .int x2), (3, .int x3)]) hx hb dL_sweep_15 hl (by decide) rfl (fun ls hl => ?_)
      refine lv_iconst (v := (0 : Int32)) hx hb dL_sweep_17 (by decide) ?_
      refine lv_istore (lv' := [(6, .int (0 : Int32)), (5, .ref q13), (4, .ref q8), (0, .ref zr_a), (1, .ref za_a), (2, .int x2), (3, .int x3)]) hx hb dL_sweep_18 hl (by decide) rfl (fun ls hl => ?_)
      exact w_L_sweep_b20 C hA (by have q1 : rmL_sweep.cells = 16 := rfl; have q2 : rmL_sweep.slots = 64 := rfl; omega) (fun v0 v1 hf H1 l1 p1 d1 s1 ls hl => ih v0 v1 hf _ _ (by omega) (by omega) H1 l1 p1 d1 s1 ls hl) _ _ _ _ _ _ hf _ _ hP hD hS _ (lv_sub hl [3, 4, 5, 6, 2, 1, 0] rfl)
set_option maxHeartbeats 4000000 in
set_option maxRecDepth 100000 in
theorem w_L_sweep_b0 {p : Program} {l : Launch} {e : Env} {s : State} {m : MethodId} {args : Array Value} {below : List Frame} {meth : Method} {c : Code} {D : va_G} {T : TY} {zr_a za_a : Nat} {zr : Nat → Int32} {x2 : Int32} {res : (Nat → Int32)} {A : Nat → Prop} (C : CX p s m args meth c cL_sweep 10 RL wsL_sweep none D T) (hA : ∀ q, s.heap.size ≤ q → A q) : ∀ za : Nat → Int32, f_L_sweep zr x2 za = some res → ∀ (H : Heap) (locs : List Loc), va_P D vwCl [(zr_a, .inl (T.1, (60, .inl zr))), (za_a, .inl (T.1, (16, .inl za)))] H → va_D A [(zr_a, .inl (T.1, (60, .inl zr))), (za_a, .inl (T.1, (16, .inl za)))] → va_S A s.heap H locs → ∀ ls : Array Slot, lv_has ls 10 [(0, .ref zr_a), (1, .ref za_a), (2, .int x2)] → W p l e rmL_sweep s m args below meth c H locs 0 0 (MQ below (Qm none D (fun W9 => W9 = [(zr_a, .inl (T.1, (60, .inl zr))), (za_a, .inl (T.1, (16, .inl res)))]) A) args s 16 64 A) (F0 m 0 ls []) := by
  obtain ⟨hx, hb, hml, hown, hts, hr, hlocks, hK, hN⟩ := id C
  intro za hf H locs hP hD hS ls hl
  unfold f_L_sweep at hf
  refine lv_iconst (v := (1 : Int32)) hx hb dL_sweep_0 (by decide) ?_
  refine lv_istore_n (lv' := [(3, .int (1 : Int32)), (0, .ref zr_a), (1, .ref za_a), (2, .int x2)]) hx hb dL_sweep_1 rfl hl (by decide) rfl (fun ls hl => ?_)
  exact w_L_sweep_b2 C hA _ _ _ hf 0 0 (by decide) (by decide) _ _ hP hD hS _ (lv_sub hl [1, 2, 3, 0] rfl)
theorem c_L_sweep (l : Launch) (D : va_G) (T : TY) (zr_a za_a : Nat) (zr : Nat → Int32) (za : Nat → Int32) (x2 : Int32) (res : (Nat → Int32)) (hf : f_L_sweep zr x2 za = some res) (sz : Nat) : Met l yL_sweep wsL_sweep rmL_sweep (va_Pc [.ref zr_a, .ref za_a, .int x2] (PM D T [(zr_a, .inl (T.1, (60, .inl zr))), (za_a, .inl (T.1, (16, .inl za)))] sz)) (Qm none D (fun W9 => W9 = [(zr_a, .inl (T.1, (60, .inl zr))), (za_a, .inl (T.1, (16, .inl res)))]) (va_A [(zr_a, .inl (T.1, (60, .inl zr))), (za_a, .inl (T.1, (16, .inl za)))] sz)) 16 64 (va_A [(zr_a, .inl (T.1, (60, .inl zr))), (za_a, .inl (T.1, (16, .inl za)))] sz) :=
  metM_of (by decide +kernel) rfl (Nat.le_of_ble_eq_true rfl) (fun p e s m args below meth c C hnm A hA hP hD ls hl => w_L_sweep_b0 C hA _ hf _ _ hP hD va_S.rf ls hl)
def rmL_bestOrder : Room := { frames := 3, cells := 1, slots := 16, locals := 71 }
theorem hdS_L_bestOrder : yL_bestOrder.cls ≠ "java/lang/invoke/MethodHandle" ∧ yL_bestOrder.cls ≠ "java/lang/invoke/VarHandle" ∧ (parseMethodDescriptor yL_bestOrder.desc).map (fun d => d.parameters.length) = some 4 := by decide +kernel
theorem mw_L_bestOrder_0 : Cond.arrayClass .int ∈ wsL_bestOrder := by decide +kernel
theorem mw_L_bestOrder_1 : Cond.static yL_crossings ∈ wsL_bestOrder := by decide +kernel
set_option maxHeartbeats 4000000 in
set_option maxRecDepth 100000 in
theorem w_L_bestOrder_b98 {p : Program} {l : Launch} {e : Env} {s : State} {m : MethodId} {args : Array Value} {below : List Frame} {meth : Method} {c : Code} {D : va_G} {T : TY} {zr_a za_a q2 : Nat} {zr : Nat → Int32} {za : Nat → Int32} {x2 : Int32} {x3 : Int32} {res : Int32} {K15 : Int32 → Int32 → Int32 → (Nat → Int32) → Option (Int32)} {K58 : Int32 → Int32 → Int32 → Int32 → Int32 → Int32 → (Nat → Int32) → Option (Int32)} {A : Nat → Prop} (C : CX p s m args meth c cL_bestOrder 11 RL wsL_bestOrder (some .int) D T) (hA : ∀ q, s.heap.size ≤ q → A q) (hK15 : ∀ x5 : Int32, ∀ x6 : Int32, ∀ x7 : Int32, ∀ q2_c : Nat → Int32, K15 x5 x6 x7 q2_c = some res → ∀ (H : Heap) (locs : List Loc), va_P D vwCl [(zr_a, .inl (T.1, (60, .inl zr))), (za_a, .inl (T.1, (16, .inl za))), (q2, .inl (T.1, (16, .inl q2_c)))] H → va_D A [(zr_a, .inl (T.1, (60, .inl zr))), (za_a, .inl (T.1, (16, .inl za))), (q2, .inl (T.1, (16, .inl q2_c)))] → va_S A s.heap H locs → ∀ ls : Array Slot, lv_has ls 11 [(0, .ref zr_a), (1, .ref za_a), (2, .int x2), (3, .int x3), (4, .ref q2), (5, .int x5), (6, .int x6), (7, .int x7)] → W p l e rmL_bestOrder s m args below meth c H locs 1 16 (MQ below (Qm (some (.int res)) D (fun W9 => W9 = [(zr_a, .inl (T.1, (60, .inl zr))), (za_a, .inl (T.1, (16, .inl za)))]) A) args s 1 16 A) (F0 m 15 ls [])) (hK58 : ∀ x5 : Int32, ∀ x6 : Int32, ∀ x7 : Int32, ∀ x8 : Int32, ∀ x9 : Int32, ∀ x10 : Int32, ∀ q2_c : Nat → Int32, K58 x5 x6 x7 x8 x9 x10 q2_c = some res → ∀ (H : Heap) (locs : List Loc), va_P D vwCl [(zr_a, .inl (T.1, (60, .inl zr))), (za_a, .inl (T.1, (16, .inl za))), (q2, .inl (T.1, (16, .inl q2_c)))] H → va_D A [(zr_a, .inl (T.1, (60, .inl zr))), (za_a, .inl (T.1, (16, .inl za))), (q2, .inl (T.1, (16, .inl q2_c)))] → va_S A s.heap H locs → ∀ ls : Array Slot, lv_has ls 11 [(0, .ref zr_a), (1, .ref za_a), (2, .int x2), (3, .int x3), (4, .ref q2), (5, .int x5), (6, .int x6), (7, .int x7), (8, .int x8), (9, .int x9), (10, .int x10)] → W p l e rmL_bestOrder s m args below meth c H locs 1 16 (MQ below (Qm (some (.int res)) D (fun W9 => W9 = [(zr_a, .inl (T.1, (60, .inl zr))), (za_a, .inl (T.1, (16, .inl za)))]) A) args s 1 16 A) (F0 m 58 ls [])) : ∀ x5 : Int32, ∀ x6 : Int32, ∀ x7 : Int32, ∀ x8 : Int32, ∀ x9 : Int32, ∀ x10 : Int32, ∀ q2_c : Nat → Int32, f_L_bestOrder_b98 zr za x2 x3 K15 K58 x5 x6 x7 x8 x9 x10 q2_c = some res → ∀ (H : Heap) (locs : List Loc), va_P D vwCl [(zr_a, .inl (T.1, (60, .inl zr))), (za_a, .inl (T.1, (16, .inl za))), (q2, .inl (T.1, (16, .inl q2_c)))] H → va_D A [(zr_a, .inl (T.1, (60, .inl zr))), (za_a, .inl (T.1, (16, .inl za))), (q2, .inl (T.1, (16, .inl q2_c)))] → va_S A s.heap H locs → ∀ ls : Array Slot, lv_has ls 11 [(0, .ref zr_a), (1, .ref za_a), (2, .int x2), (3, .int x3), (4, .ref q2), (5, .int x5), (6, .int x6), (7, .int x7), (8, .int x8), (9, .int x9), (10, .int x10)] → W p l e rmL_bestOrder s m args below meth c H locs 1 16 (MQ below (Qm (some (.int res)) D (fun W9 => W9 = [(zr_a, .inl (T.1, (60, .inl zr))), (za_a, .inl (T.1, (16, .inl za)))]) A) args s 1 16 A) (F0 m 98 ls []) := by
  obtain ⟨hx, hb, hml, hown, hts, hr, hlocks, hK, hN⟩ := id C
  intro x5 x6 x7 x8 x9 x10 q2_c hf H locs hP hD hS ls hl
  unfold f_L_bestOrder_b98 at hf
  refine lv_iload hx hb dL_bestOrder_98 (lv_at hl 9 rfl) ?_
  refine lv_bipush (v := (10 : Int32)) hx hb dL_bestOrder_100 (by decide) ?_
  refine lv_idiv hx hb dL_bestOrder_102 (by decide) ?_
  obtain ⟨v103, e_103, hf⟩ := nm_some hf
  refine lv_nmi e_103 ?_
  refine lv_istore (lv' := [(9, .int v103), (0, .ref zr_a), (1, .ref za_a), (2, .int x2), (3, .int x3), (4, .ref q2), (5, .int x5), (6, .int x6), (7, .int x7), (8, .int x8), (10, .int x10)]) hx hb dL_bestOrder_103 hl (by decide) rfl (fun ls hl => ?_)
  obtain ⟨v105, e_105, hf⟩ := nm_some hf
  refine lv_iinc (v := v105) (lv' := [(10, .int v105), (9, .int v103), (0, .ref zr_a), (1, .ref za_a), (2, .int x2), (3, .int x3), (4, .ref q2), (5, .int x5), (6, .int x6), (7, .int x7), (8, .int x8)]) hx hb dL_bestOrder_105 hl (k := 10) rfl (by rw [e_105]; rfl) (by decide) rfl (fun ls hl => ?_)
  refine lv_goto (tgt := 58) hx hb dL_bestOrder_108 (by decide) ?_
  exact hK58 _ _ _ _ _ _ _ hf _ _ hP hD hS _ (lv_sub hl [2, 3, 4, 5, 6, 7, 8, 9, 10, 1, 0] rfl)
set_option maxHeartbeats 4000000 in
set_option maxRecDepth 100000 in
theorem w_L_bestOrder_b153 {p : Program} {l : Launch} {e : Env} {s : State} {m : MethodId} {args : Array Value} {below : List Frame} {meth : Method} {c : Code} {D : va_G} {T : TY} {zr_a za_a q2 : Nat} {zr : Nat → Int32} {za : Nat → Int32} {x2 : Int32} {x3 : Int32} {res : Int32} {K15 : Int32 → Int32 → Int32 → (Nat → Int32) → Option (Int32)} {A : Nat → Prop} (C : CX p s m args meth c cL_bestOrder 11 RL wsL_bestOrder (some .int) D T) (hA : ∀ q, s.heap.size ≤ q → A q) (hK15 : ∀ x5 : Int32, ∀ x6 : Int32, ∀ x7 : Int32, ∀ q2_c : Nat → Int32, K15 x5 x6 x7 q2_c = some res → ∀ (H : Heap) (locs : List Loc), va_P D vwCl [(zr_a, .inl (T.1, (60, .inl zr))), (za_a, .inl (T.1, (16, .inl za))), (q2, .inl (T.1, (16, .inl q2_c)))] H → va_D A [(zr_a, .inl (T.1, (60, .inl zr))), (za_a, .inl (T.1, (16, .inl za))), (q2, .inl (T.1, (16, .inl q2_c)))] → va_S A s.heap H locs → ∀ ls : Array Slot, lv_has ls 11 [(0, .ref zr_a), (1, .ref za_a), (2, .int x2), (3, .int x3), (4, .ref q2), (5, .int x5), (6, .int x6), (7, .int x7)] → W p l e rmL_bestOrder s m args below meth c H locs 1 16 (MQ below (Qm (some (.int res)) D (fun W9 => W9 = [(zr_a, .inl (T.1, (60, .inl zr))), (za_a, .inl (T.1, (16, .inl za)))]) A) args s 1 16 A) (F0 m 15 ls [])) : ∀ x5 : Int32, ∀ x6 : Int32, ∀ x7 : Int32, ∀ q2_c : Nat → Int32, f_L_bestOrder_b153 zr za x2 x3 K15 x5 x6 x7 q2_c = some res → ∀ (H : Heap) (locs : List Loc), va_P D vwCl [(zr_a, .inl (T.1, (60, .inl zr))), (za_a, .inl (T.1, (16, .inl za))), (q2, .inl (T.1, (16, .inl q2_c)))] H → va_D A [(zr_a, .inl (T.1, (60, .inl zr))), (za_a, .inl (T.1, (16, .inl za))), (q2, .inl (T.1, (16, .inl q2_c)))] → va_S A s.heap H locs → ∀ ls : Array Slot, lv_has ls 11 [(0, .ref zr_a), (1, .ref za_a), (2, .int x2), (3, .int x3), (4, .ref q2), (5, .int x5), (6, .int x6), (7, .int x7)] → W p l e rmL_bestOrder s m args below meth c H locs 1 16 (MQ below (Qm (some (.int res)) D (fun W9 => W9 = [(zr_a, .inl (T.1, (60, .inl zr))), (za_a, .inl (T.1, (16, .inl za)))]) A) args s 1 16 A) (F0 m 153 ls []) := by
  obtain ⟨hx, hb, hml, hown, hts, hr, hlocks, hK, hN⟩ := id C
  intro x5 x6 x7 q2_c hf H locs hP hD hS ls hl
  unfold f_L_bestOrder_b153 at hf
  obtain ⟨v153, e_153, hf⟩ := nm_some hf
  refine lv_iinc (v := v153) (lv' := [(7, .int v153), (0, .ref zr_a), (1, .ref za_a), (2, .int x2), (3, .int x3), (4, .ref q2), (5, .int x5), (6, .int x6)]) hx hb dL_bestOrder_153 hl (k := 7) rfl (by rw [e_153]; rfl) (by decide) rfl (fun ls hl => ?_)
  refine lv_goto (tgt := 15) hx hb dL_bestOrder_156 (by decide) ?_
  exact hK15 _ _ _ _ hf _ _ hP hD hS _ (lv_sub hl [1, 2, 3, 4, 5, 6, 7, 0] rfl)
set_option maxHeartbeats 4000000 in
set_option maxRecDepth 100000 in
theorem w_L_bestOrder_b145 {p : Program} {l : Launch} {e : Env} {s : State} {m : MethodId} {args : Array Value} {below : List Frame} {meth : Method} {c : Code} {D : va_G} {T : TY} {zr_a za_a q2 : Nat} {zr : Nat → Int32} {za : Nat → Int32} {x2 : Int32} {x3 : Int32} {res : Int32} {K15 : Int32 → Int32 → Int32 → (Nat → Int32) → Option (Int32)} {A : Nat → Prop} (C : CX p s m args meth c cL_bestOrder 11 RL wsL_bestOrder (some .int) D T) (hA : ∀ q, s.heap.size ≤ q → A q) (hK15 : ∀ x5 : Int32, ∀ x6 : Int32, ∀ x7 : Int32, ∀ q2_c : Nat → Int32, K15 x5 x6 x7 q2_c = some res → ∀ (H : Heap) (locs : List Loc), va_P D vwCl [(zr_a, .inl (T.1, (60, .inl zr))), (za_a, .inl (T.1, (16, .inl za))), (q2, .inl (T.1, (16, .inl q2_c)))] H → va_D A [(zr_a, .inl (T.1, (60, .inl zr))), (za_a, .inl (T.1, (16, .inl za))), (q2, .inl (T.1, (16, .inl q2_c)))] → va_S A s.heap H locs → ∀ ls : Array Slot, lv_has ls 11 [(0, .ref zr_a), (1, .ref za_a), (2, .int x2), (3, .int x3), (4, .ref q2), (5, .int x5), (6, .int x6), (7, .int x7)] → W p l e rmL_bestOrder s m args below meth c H locs 1 16 (MQ below (Qm (some (.int res)) D (fun W9 => W9 = [(zr_a, .inl (T.1, (60, .inl zr))), (za_a, .inl (T.1, (16, .inl za)))]) A) args s 1 16 A) (F0 m 15 ls [])) : ∀ x7 : Int32, ∀ x10 : Int32, ∀ q2_c : Nat → Int32, f_L_bestOrder_b145 zr za x2 x3 K15 x7 x10 q2_c = some res → ∀ (H : Heap) (locs : List Loc), va_P D vwCl [(zr_a, .inl (T.1, (60, .inl zr))), (za_a, .inl (T.1, (16, .inl za))), (q2, .inl (T.1, (16, .inl q2_c)))] H → va_D A [(zr_a, .inl (T.1, (60, .inl zr))), (za_a, .inl (T.1, (16, .inl za))), (q2, .inl (T.1, (16, .inl q2_c)))] → va_S A s.heap H locs → ∀ ls : Array Slot, lv_has ls 11 [(0, .ref zr_a), (1, .ref za_a), (2, .int x2), (3, .int x3), (4, .ref q2), (7, .int x7), (10, .int x10)] → W p l e rmL_bestOrder s m args below meth c H locs 1 16 (MQ below (Qm (some (.int res)) D (fun W9 => W9 = [(zr_a, .inl (T.1, (60, .inl zr))), (za_a, .inl (T.1, (16, .inl za)))]) A) args s 1 16 A) (F0 m 145 ls []) := by
  obtain ⟨hx, hb, hml, hown, hts, hr, hlocks, hK, hN⟩ := id C
  intro x7 x10 q2_c hf H locs hP hD hS ls hl
  unfold f_L_bestOrder_b145 at hf
  refine lv_iload hx hb dL_bestOrder_145 (lv_at hl 5 rfl) ?_
  refine lv_istore (lv' := [(5, .int x7), (0, .ref zr_a), (1, .ref za_a), (2, .int x2), (3, .int x3), (4, .ref q2), (7, .int x7), (10, .int x10)]) hx hb dL_bestOrder_147 hl (by decide) rfl (fun ls hl => ?_)
  refine lv_iload hx hb dL_bestOrder_149 (lv_at hl 7 rfl) ?_
  refine lv_istore (lv' := [(6, .int x10), (5, .int x7), (0, .ref zr_a), (1, .ref za_a), (2, .int x2), (3, .int x3), (4, .ref q2), (7, .int x7), (10, .int x10)]) hx hb dL_bestOrder_151 hl (by decide) rfl (fun ls hl => ?_)
  exact w_L_bestOrder_b153 C hA hK15 _ _ _ _ hf _ _ hP hD hS _ (lv_sub hl [2, 3, 4, 5, 6, 1, 0, 7] rfl)
set_option maxHeartbeats 4000000 in
set_option maxRecDepth 100000 in
theorem w_L_bestOrder_b58 {p : Program} {l : Launch} {e : Env} {s : State} {m : MethodId} {args : Array Value} {below : List Frame} {meth : Method} {c : Code} {D : va_G} {T : TY} {zr_a za_a q2 : Nat} {zr : Nat → Int32} {za : Nat → Int32} {x2 : Int32} {x3 : Int32} {res : Int32} {K15 : Int32 → Int32 → Int32 → (Nat → Int32) → Option (Int32)} {A : Nat → Prop} (C : CX p s m args meth c cL_bestOrder 11 RL wsL_bestOrder (some .int) D T) (hA : ∀ q, s.heap.size ≤ q → A q) (hK15 : ∀ x5 : Int32, ∀ x6 : Int32, ∀ x7 : Int32, ∀ q2_c : Nat → Int32, K15 x5 x6 x7 q2_c = some res → ∀ (H : Heap) (locs : List Loc), va_P D vwCl [(zr_a, .inl (T.1, (60, .inl zr))), (za_a, .inl (T.1, (16, .inl za))), (q2, .inl (T.1, (16, .inl q2_c)))] H → va_D A [(zr_a, .inl (T.1, (60, .inl zr))), (za_a, .inl (T.1, (16, .inl za))), (q2, .inl (T.1, (16, .inl q2_c)))] → va_S A s.heap H locs → ∀ ls : Array Slot, lv_has ls 11 [(0, .ref zr_a), (1, .ref za_a), (2, .int x2), (3, .int x3), (4, .ref q2), (5, .int x5), (6, .int x6), (7, .int x7)] → W p l e rmL_bestOrder s m args below meth c H locs 1 16 (MQ below (Qm (some (.int res)) D (fun W9 => W9 = [(zr_a, .inl (T.1, (60, .inl zr))), (za_a, .inl (T.1, (16, .inl za)))]) A) args s 1 16 A) (F0 m 15 ls [])) : ∀ F : Nat, ∀ x5 : Int32, ∀ x6 : Int32, ∀ x7 : Int32, ∀ x8 : Int32, ∀ x9 : Int32, ∀ x10 : Int32, ∀ q2_c : Nat → Int32, f_L_bestOrder_b58 zr za x2 x3 K15 F x5 x6 x7 x8 x9 x10 q2_c = some res → ∀ (H : Heap) (locs : List Loc), va_P D vwCl [(zr_a, .inl (T.1, (60, .inl zr))), (za_a, .inl (T.1, (16, .inl za))), (q2, .inl (T.1, (16, .inl q2_c)))] H → va_D A [(zr_a, .inl (T.1, (60, .inl zr))), (za_a, .inl (T.1, (16, .inl za))), (q2, .inl (T.1, (16, .inl q2_c)))] → va_S A s.heap H locs → ∀ ls : Array Slot, lv_has ls 11 [(0, .ref zr_a), (1, .ref za_a), (2, .int x2), (3, .int x3), (4, .ref q2), (5, .int x5), (6, .int x6), (7, .int x7), (8, .int x8), (9, .int x9), (10, .int x10)] → W p l e rmL_bestOrder s m args below meth c H locs 1 16 (MQ below (Qm (some (.int res)) D (fun W9 => W9 = [(zr_a, .inl (T.1, (60, .inl zr))), (za_a, .inl (T.1, (16, .inl za)))]) A) args s 1 16 A) (F0 m 58 ls []) := by
  obtain ⟨hx, hb, hml, hown, hts, hr, hlocks, hK, hN⟩ := id C
  intro F
  induction F with
  | zero => intro _ _ _ _ _ _ _ hf; cases hf
  | succ F ih =>
    intro x5 x6 x7 x8 x9 x10 q2_c hf H locs hP hD hS ls hl
    unfold f_L_bestOrder_b58 at hf
    refine lv_iload hx hb dL_bestOrder_58 (lv_at hl 10 rfl) ?_
    refine lv_if_lt (tgt := 111) hx hb dL_bestOrder_60 (by decide) (fun c_60 => ?_) (fun c_60 => ?_)
    · have hf := it_pos c_60 hf
      refine lv_iload hx hb dL_bestOrder_111 (lv_at hl 8 rfl) ?_
      refine lv_bipush (v := (15 : Int32)) hx hb dL_bestOrder_113 (by decide) ?_
      refine lv_icmp_eq (tgt := 121) hx hb dL_bestOrder_115 (by decide) (fun c_115 => ?_) (fun c_115 => ?_)
      · have hf := it_pos c_115 hf
        refine lv_aload_n hx hb dL_bestOrder_121 rfl (lv_at hl 0 rfl) ?_
        refine lv_aload hx hb dL_bestOrder_122 (lv_at hl 4 rfl) ?_
        refine lv_iload_n hx hb dL_bestOrder_124 rfl (lv_at hl 2 rfl) ?_
        obtain ⟨q125, e_125, hf⟩ := bd_some hf
        refine callPi (va_runS (As := [.ref zr_a, .ref q2, .int x2]) (rest := []) ⟨hx, hb, hml, hown, hts⟩ (c_L_crossings l D T zr_a q2 zr q2_c x2 q125 e_125) (va_cwS 3 hts gL_bestOrder_L_crossings rfl rfl rfl hdS_L_crossings ⟨Nat.le_of_ble_eq_true rfl, Nat.le_of_ble_eq_true rfl⟩) (preBS (hP.sub (ws' := [(zr_a, .inl (T.1, (60, .inl zr))), (q2, .inl (T.1, (16, .inl q2_c)))]) [0, 2] rfl) hK hN) rfl rfl hl.1 rfl (lv_room (Nat.le_of_ble_eq_true rfl)) dL_bestOrder_125 ⟨Nat.le_of_ble_eq_true rfl, Nat.le_of_ble_eq_true rfl⟩) ?_
        refine lv_istore (lv' := [(10, .int q125), (0, .ref zr_a), (1, .ref za_a), (2, .int x2), (3, .int x3), (4, .ref q2), (5, .int x5), (6, .int x6), (7, .int x7), (8, .int x8), (9, .int x9)]) hx hb dL_bestOrder_128 hl (by decide) rfl (fun ls hl => ?_)
        refine lv_iload hx hb dL_bestOrder_130 (lv_at hl 6 rfl) ?_
        refine lv_if_lt (tgt := 145) hx hb dL_bestOrder_132 (by decide) (fun c_132 => ?_) (fun c_132 => ?_)
        · have hf := it_pos c_132 hf
          exact w_L_bestOrder_b145 C hA hK15 _ _ _ hf _ _ hP hD hS _ (lv_sub hl [1, 2, 3, 4, 5, 8, 0] rfl)
        · have hf := it_neg c_132 hf
          refine lv_iload hx hb dL_bestOrder_135 (lv_at hl 0 rfl) ?_
          refine lv_iload hx hb dL_bestOrder_137 (lv_at hl 7 rfl) ?_
          refine lv_icmp_lt (tgt := 145) hx hb dL_bestOrder_139 (by decide) (fun c_139 => ?_) (fun c_139 => ?_)
          · have hf := it_pos c_139 hf
            exact w_L_bestOrder_b145 C hA hK15 _ _ _ hf _ _ hP hD hS _ (lv_sub hl [1, 2, 3, 4, 5, 8, 0] rfl)
          · have hf := it_neg c_139 hf
            refine lv_goto (tgt := 153) hx hb dL_bestOrder_142 (by decide) ?_
            exact w_L_bestOrder_b153 C hA hK15 _ _ _ _ hf _ _ hP hD hS _ (lv_sub hl [1, 2, 3, 4, 5, 6, 7, 8] rfl)
      · have hf := it_neg c_115 hf
        refine lv_goto (tgt := 153) hx hb dL_bestOrder_118 (by decide) ?_
        exact w_L_bestOrder_b153 C hA hK15 _ _ _ _ hf _ _ hP hD hS _ (lv_sub hl [0, 1, 2, 3, 4, 5, 6, 7] rfl)
    · have hf := it_neg c_60 hf
      refine lv_iload hx hb dL_bestOrder_63 (lv_at hl 8 rfl) ?_
      refine lv_iconst (v := (1 : Int32)) hx hb dL_bestOrder_65 (by decide) ?_
      refine lv_iload hx hb dL_bestOrder_66 (lv_at hl 9 rfl) ?_
      refine lv_bipush (v := (10 : Int32)) hx hb dL_bestOrder_68 (by decide) ?_
      refine lv_irem hx hb dL_bestOrder_70 (by decide) ?_
      refine lv_ishl hx hb dL_bestOrder_71 ?_
      refine lv_ior hx hb dL_bestOrder_72 ?_
      obtain ⟨v73, e_73, hf⟩ := nm_some hf
      refine lv_nmi e_73 ?_
      refine lv_istore (lv' := [(8, .int v73), (0, .ref zr_a), (1, .ref za_a), (2, .int x2), (3, .int x3), (4, .ref q2), (5, .int x5), (6, .int x6), (7, .int x7), (9, .int x9), (10, .int x10)]) hx hb dL_bestOrder_73 hl (by decide) rfl (fun ls hl => ?_)
      refine lv_iload hx hb dL_bestOrder_75 (lv_at hl 9 rfl) ?_
      refine lv_bipush (v := (10 : Int32)) hx hb dL_bestOrder_77 (by decide) ?_
      refine lv_irem hx hb dL_bestOrder_79 (by decide) ?_
      refine lv_iconst (v := (4 : Int32)) hx hb dL_bestOrder_80 (by decide) ?_
      refine lv_icmp_ge (tgt := 98) hx hb dL_bestOrder_81 (by decide) (fun c_81 => ?_) (fun c_81 => ?_)
      · have hf := it_pos c_81 hf
        exact w_L_bestOrder_b98 C hA hK15 (fun v0 v1 v2 v3 v4 v5 v6 hf H1 l1 p1 d1 s1 ls hl => ih v0 v1 v2 v3 v4 v5 v6 hf H1 l1 p1 d1 s1 ls hl) _ _ _ _ _ _ _ hf _ _ hP hD hS _ (lv_sub hl [1, 2, 3, 4, 5, 6, 7, 8, 0, 9, 10] rfl)
      · have hf := it_neg c_81 hf
        refine lv_aload hx hb dL_bestOrder_84 (lv_at hl 5 rfl) ?_
        refine lv_iconst (v := (4 : Int32)) hx hb dL_bestOrder_86 (by decide) ?_
        refine lv_iload_n hx hb dL_bestOrder_87 rfl (lv_at hl 4 rfl) ?_
        refine lv_imul hx hb dL_bestOrder_88 ?_
        refine lv_iload hx hb dL_bestOrder_89 (lv_at hl 9 rfl) ?_
        refine lv_bipush (v := (10 : Int32)) hx hb dL_bestOrder_91 (by decide) ?_
        refine lv_irem hx hb dL_bestOrder_93 (by decide) ?_
        refine lv_iadd hx hb dL_bestOrder_94 ?_
        refine lv_iload hx hb dL_bestOrder_95 (lv_at hl 10 rfl) ?_
        obtain ⟨g_97, hf⟩ := gd_some hf
        refine va_iast (D := D) hx hb hK hP hD hS 2 0 rfl rfl (gd_in g_97) dL_bestOrder_97 (fun H locs hP hD hS => ?_)
        have hP : va_P D vwCl [(zr_a, .inl (T.1, (60, .inl zr))), (za_a, .inl (T.1, (16, .inl za))), (q2, .inl (T.1, (16, .inl (upd q2_c (((4 : Int32) * x3) + (x9 - x9 / (10 : Int32) * (10 : Int32))).toNatClampNeg x10))))] H := hP
        have hD : va_D A [(zr_a, .inl (T.1, (60, .inl zr))), (za_a, .inl (T.1, (16, .inl za))), (q2, .inl (T.1, (16, .inl (upd q2_c (((4 : Int32) * x3) + (x9 - x9 / (10 : Int32) * (10 : Int32))).toNatClampNeg x10))))] := hD
        exact w_L_bestOrder_b98 C hA hK15 (fun v0 v1 v2 v3 v4 v5 v6 hf H1 l1 p1 d1 s1 ls hl => ih v0 v1 v2 v3 v4 v5 v6 hf H1 l1 p1 d1 s1 ls hl) _ _ _ _ _ _ _ hf _ _ hP hD hS _ (lv_sub hl [1, 2, 3, 4, 5, 6, 7, 8, 0, 9, 10] rfl)
set_option maxHeartbeats 4000000 in
set_option maxRecDepth 100000 in
theorem w_L_bestOrder_b29 {p : Program} {l : Launch} {e : Env} {s : State} {m : MethodId} {args : Array Value} {below : List Frame} {meth : Method} {c : Code} {D : va_G} {T : TY} {zr_a za_a q2 : Nat} {zr : Nat → Int32} {za : Nat → Int32} {x2 : Int32} {x3 : Int32} {res : Int32} {K15 : Int32 → Int32 → Int32 → (Nat → Int32) → Option (Int32)} {A : Nat → Prop} (C : CX p s m args meth c cL_bestOrder 11 RL wsL_bestOrder (some .int) D T) (hA : ∀ q, s.heap.size ≤ q → A q) (hK15 : ∀ x5 : Int32, ∀ x6 : Int32, ∀ x7 : Int32, ∀ q2_c : Nat → Int32, K15 x5 x6 x7 q2_c = some res → ∀ (H : Heap) (locs : List Loc), va_P D vwCl [(zr_a, .inl (T.1, (60, .inl zr))), (za_a, .inl (T.1, (16, .inl za))), (q2, .inl (T.1, (16, .inl q2_c)))] H → va_D A [(zr_a, .inl (T.1, (60, .inl zr))), (za_a, .inl (T.1, (16, .inl za))), (q2, .inl (T.1, (16, .inl q2_c)))] → va_S A s.heap H locs → ∀ ls : Array Slot, lv_has ls 11 [(0, .ref zr_a), (1, .ref za_a), (2, .int x2), (3, .int x3), (4, .ref q2), (5, .int x5), (6, .int x6), (7, .int x7)] → W p l e rmL_bestOrder s m args below meth c H locs 1 16 (MQ below (Qm (some (.int res)) D (fun W9 => W9 = [(zr_a, .inl (T.1, (60, .inl zr))), (za_a, .inl (T.1, (16, .inl za)))]) A) args s 1 16 A) (F0 m 15 ls [])) : ∀ F : Nat, ∀ x5 : Int32, ∀ x6 : Int32, ∀ x7 : Int32, ∀ x8 : Int32, ∀ x9 : Int32, ∀ q2_c : Nat → Int32, f_L_bestOrder_b29 zr za x2 x3 K15 F x5 x6 x7 x8 x9 q2_c = some res → ∀ (H : Heap) (locs : List Loc), va_P D vwCl [(zr_a, .inl (T.1, (60, .inl zr))), (za_a, .inl (T.1, (16, .inl za))), (q2, .inl (T.1, (16, .inl q2_c)))] H → va_D A [(zr_a, .inl (T.1, (60, .inl zr))), (za_a, .inl (T.1, (16, .inl za))), (q2, .inl (T.1, (16, .inl q2_c)))] → va_S A s.heap H locs → ∀ ls : Array Slot, lv_has ls 11 [(0, .ref zr_a), (1, .ref za_a), (2, .int x2), (3, .int x3), (4, .ref q2), (5, .int x5), (6, .int x6), (7, .int x7), (8, .int x8), (9, .int x9)] → W p l e rmL_bestOrder s m args below meth c H locs 1 16 (MQ below (Qm (some (.int res)) D (fun W9 => W9 = [(zr_a, .inl (T.1, (60, .inl zr))), (za_a, .inl (T.1, (16, .inl za)))]) A) args s 1 16 A) (F0 m 29 ls []) := by
  obtain ⟨hx, hb, hml, hown, hts, hr, hlocks, hK, hN⟩ := id C
  intro F
  induction F with
  | zero => intro _ _ _ _ _ _ hf; cases hf
  | succ F ih =>
    intro x5 x6 x7 x8 x9 q2_c hf H locs hP hD hS ls hl
    unfold f_L_bestOrder_b29 at hf
    refine lv_iload hx hb dL_bestOrder_29 (lv_at hl 9 rfl) ?_
    refine lv_bipush (v := (16 : Int32)) hx hb dL_bestOrder_31 (by decide) ?_
    refine lv_icmp_ge (tgt := 51) hx hb dL_bestOrder_33 (by decide) (fun c_33 => ?_) (fun c_33 => ?_)
    · have hf := it_pos c_33 hf
      refine lv_iload hx hb dL_bestOrder_51 (lv_at hl 7 rfl) ?_
      refine lv_istore (lv' := [(9, .int x7), (0, .ref zr_a), (1, .ref za_a), (2, .int x2), (3, .int x3), (4, .ref q2), (5, .int x5), (6, .int x6), (7, .int x7), (8, .int x8)]) hx hb dL_bestOrder_53 hl (by decide) rfl (fun ls hl => ?_)
      refine lv_iconst (v := (3 : Int32)) hx hb dL_bestOrder_55 (by decide) ?_
      refine lv_istore (lv' := [(10, .int (3 : Int32)), (9, .int x7), (0, .ref zr_a), (1, .ref za_a), (2, .int x2), (3, .int x3), (4, .ref q2), (5, .int x5), (6, .int x6), (7, .int x7), (8, .int x8)]) hx hb dL_bestOrder_56 hl (by decide) rfl (fun ls hl => ?_)
      exact w_L_bestOrder_b58 C hA hK15 _ _ _ _ _ _ _ _ hf _ _ hP hD hS _ (lv_sub hl [2, 3, 4, 5, 6, 7, 8, 9, 10, 1, 0] rfl)
    · have hf := it_neg c_33 hf
      refine lv_aload hx hb dL_bestOrder_36 (lv_at hl 4 rfl) ?_
      refine lv_iload hx hb dL_bestOrder_38 (lv_at hl 9 rfl) ?_
      refine lv_aload_n hx hb dL_bestOrder_40 rfl (lv_at hl 1 rfl) ?_
      refine lv_iload hx hb dL_bestOrder_41 (lv_at hl 9 rfl) ?_
      obtain ⟨g_43, hf⟩ := gd_some hf
      refine va_iald (D := D) hx hb hK hP 1 0 rfl rfl (gd_in g_43) dL_bestOrder_43 ?_
      obtain ⟨v44, e_44, hf⟩ := nm_some hf
      refine lv_nmi e_44 ?_
      obtain ⟨g_44, hf⟩ := gd_some hf
      refine va_iast (D := D) hx hb hK hP hD hS 2 0 rfl rfl (gd_in g_44) dL_bestOrder_44 (fun H locs hP hD hS => ?_)
      have hP : va_P D vwCl [(zr_a, .inl (T.1, (60, .inl zr))), (za_a, .inl (T.1, (16, .inl za))), (q2, .inl (T.1, (16, .inl (upd q2_c x9.toNatClampNeg v44))))] H := hP
      have hD : va_D A [(zr_a, .inl (T.1, (60, .inl zr))), (za_a, .inl (T.1, (16, .inl za))), (q2, .inl (T.1, (16, .inl (upd q2_c x9.toNatClampNeg v44))))] := hD
      obtain ⟨v45, e_45, hf⟩ := nm_some hf
      refine lv_iinc (v := v45) (lv' := [(9, .int v45), (0, .ref zr_a), (1, .ref za_a), (2, .int x2), (3, .int x3), (4, .ref q2), (5, .int x5), (6, .int x6), (7, .int x7), (8, .int x8)]) hx hb dL_bestOrder_45 hl (k := 9) rfl (by rw [e_45]; rfl) (by decide) rfl (fun ls hl => ?_)
      refine lv_goto (tgt := 29) hx hb dL_bestOrder_48 (by decide) ?_
      exact ih _ _ _ _ _ _ hf _ _ hP hD hS _ (lv_sub hl [1, 2, 3, 4, 5, 6, 7, 8, 9, 0] rfl)
set_option maxHeartbeats 4000000 in
set_option maxRecDepth 100000 in
theorem w_L_bestOrder_b15 {p : Program} {l : Launch} {e : Env} {s : State} {m : MethodId} {args : Array Value} {below : List Frame} {meth : Method} {c : Code} {D : va_G} {T : TY} {zr_a za_a q2 : Nat} {zr : Nat → Int32} {za : Nat → Int32} {x2 : Int32} {x3 : Int32} {res : Int32} {A : Nat → Prop} (C : CX p s m args meth c cL_bestOrder 11 RL wsL_bestOrder (some .int) D T) (hA : ∀ q, s.heap.size ≤ q → A q) : ∀ F : Nat, ∀ x5 : Int32, ∀ x6 : Int32, ∀ x7 : Int32, ∀ q2_c : Nat → Int32, f_L_bestOrder_b15 zr za x2 x3 F x5 x6 x7 q2_c = some res → ∀ (H : Heap) (locs : List Loc), va_P D vwCl [(zr_a, .inl (T.1, (60, .inl zr))), (za_a, .inl (T.1, (16, .inl za))), (q2, .inl (T.1, (16, .inl q2_c)))] H → va_D A [(zr_a, .inl (T.1, (60, .inl zr))), (za_a, .inl (T.1, (16, .inl za))), (q2, .inl (T.1, (16, .inl q2_c)))] → va_S A s.heap H locs → ∀ ls : Array Slot, lv_has ls 11 [(0, .ref zr_a), (1, .ref za_a), (2, .int x2), (3, .int x3), (4, .ref q2), (5, .int x5), (6, .int x6), (7, .int x7)] → W p l e rmL_bestOrder s m args below meth c H locs 1 16 (MQ below (Qm (some (.int res)) D (fun W9 => W9 = [(zr_a, .inl (T.1, (60, .inl zr))), (za_a, .inl (T.1, (16, .inl za)))]) A) args s 1 16 A) (F0 m 15 ls []) := by
  obtain ⟨hx, hb, hml, hown, hts, hr, hlocks, hK, hN⟩ := id C
  intro F
  induction F with
  | zero => intro _ _ _ _ hf; cases hf
  | succ F ih =>
    intro x5 x6 x7 q2_c hf H locs hP hD hS ls hl
    unfold f_L_bestOrder_b15 at hf
    refine lv_iload hx hb dL_bestOrder_15 (lv_at hl 7 rfl) ?_
    refine lv_sipush (v := (10000 : Int32)) hx hb dL_bestOrder_17 (by decide) ?_
    refine lv_icmp_ge (tgt := 159) hx hb dL_bestOrder_20 (by decide) (fun c_20 => ?_) (fun c_20 => ?_)
    · have hf := it_pos c_20 hf
      refine lv_iload hx hb dL_bestOrder_159 (lv_at hl 5 rfl) ?_
      obtain rfl := Option.some.inj hf
      exact W.iret hx hb hr (fun t ht hW => ⟨rfl, ⟨[(zr_a, .inl (T.1, (60, .inl zr))), (za_a, .inl (T.1, (16, .inl za)))], rfl, by rw [ht]; exact hP.sub [0, 1] rfl, hD.sub [0, 1] rfl rfl⟩, hS.F ht⟩) hS.2.2 dL_bestOrder_161 hlocks
    · have hf := it_neg c_20 hf
      refine lv_iconst (v := (0 : Int32)) hx hb dL_bestOrder_23 (by decide) ?_
      refine lv_istore (lv' := [(8, .int (0 : Int32)), (0, .ref zr_a), (1, .ref za_a), (2, .int x2), (3, .int x3), (4, .ref q2), (5, .int x5), (6, .int x6), (7, .int x7)]) hx hb dL_bestOrder_24 hl (by decide) rfl (fun ls hl => ?_)
      refine lv_iconst (v := (0 : Int32)) hx hb dL_bestOrder_26 (by decide) ?_
      refine lv_istore (lv' := [(9, .int (0 : Int32)), (8, .int (0 : Int32)), (0, .ref zr_a), (1, .ref za_a), (2, .int x2), (3, .int x3), (4, .ref q2), (5, .int x5), (6, .int x6), (7, .int x7)]) hx hb dL_bestOrder_27 hl (by decide) rfl (fun ls hl => ?_)
      exact w_L_bestOrder_b29 C hA (fun v0 v1 v2 v3 hf H1 l1 p1 d1 s1 ls hl => ih v0 v1 v2 v3 hf H1 l1 p1 d1 s1 ls hl) _ _ _ _ _ _ _ hf _ _ hP hD hS _ (lv_sub hl [2, 3, 4, 5, 6, 7, 8, 9, 1, 0] rfl)
set_option maxHeartbeats 4000000 in
set_option maxRecDepth 100000 in
theorem w_L_bestOrder_b0 {p : Program} {l : Launch} {e : Env} {s : State} {m : MethodId} {args : Array Value} {below : List Frame} {meth : Method} {c : Code} {D : va_G} {T : TY} {zr_a za_a : Nat} {zr : Nat → Int32} {za : Nat → Int32} {x2 : Int32} {x3 : Int32} {res : Int32} {A : Nat → Prop} (C : CX p s m args meth c cL_bestOrder 11 RL wsL_bestOrder (some .int) D T) (hA : ∀ q, s.heap.size ≤ q → A q) : f_L_bestOrder zr za x2 x3 = some res → ∀ (H : Heap) (locs : List Loc), va_P D vwCl [(zr_a, .inl (T.1, (60, .inl zr))), (za_a, .inl (T.1, (16, .inl za)))] H → va_D A [(zr_a, .inl (T.1, (60, .inl zr))), (za_a, .inl (T.1, (16, .inl za)))] → va_S A s.heap H locs → ∀ ls : Array Slot, lv_has ls 11 [(0, .ref zr_a), (1, .ref za_a), (2, .int x2), (3, .int x3)] → W p l e rmL_bestOrder s m args below meth c H locs 0 0 (MQ below (Qm (some (.int res)) D (fun W9 => W9 = [(zr_a, .inl (T.1, (60, .inl zr))), (za_a, .inl (T.1, (16, .inl za)))]) A) args s 1 16 A) (F0 m 0 ls []) := by
  obtain ⟨hx, hb, hml, hown, hts, hr, hlocks, hK, hN⟩ := id C
  intro  hf H locs hP hD hS ls hl
  unfold f_L_bestOrder at hf
  refine lv_bipush (v := (16 : Int32)) hx hb dL_bestOrder_0 (by decide) ?_
  refine va_newa (atype := .int) (ty := .int) (N' := 16) (a0 := (16, .inl (fun _ => (0 : Int32)))) hx hb (hts (.arrayClass .int) mw_L_bestOrder_0) rfl hK hP hD hS hA (fun _ => rfl) (by decide) (by decide) (by decide) (Nat.le_of_ble_eq_true rfl) (Nat.le_of_ble_eq_true rfl) dL_bestOrder_2 (fun q2 cA H hK9 hP hD hS => ?_)
  obtain rfl : cA = T.1 := tyOne hK9 0 rfl
  have hP : va_P D vwCl [(zr_a, .inl (T.1, (60, .inl zr))), (za_a, .inl (T.1, (16, .inl za))), (q2, .inl (T.1, (16, .inl (fun _ => (0 : Int32)))))] H := hP
  have hD : va_D A [(zr_a, .inl (T.1, (60, .inl zr))), (za_a, .inl (T.1, (16, .inl za))), (q2, .inl (T.1, (16, .inl (fun _ => (0 : Int32)))))] := hD
  refine W.widen (k := 1) (n := 16) (by decide) (by decide) ?_
  refine lv_astore (lv' := [(4, .ref q2), (0, .ref zr_a), (1, .ref za_a), (2, .int x2), (3, .int x3)]) hx hb dL_bestOrder_4 hl (by decide) rfl (fun ls hl => ?_)
  refine lv_iconst (v := (-1 : Int32)) hx hb dL_bestOrder_6 (by decide) ?_
  refine lv_istore (lv' := [(5, .int (-1 : Int32)), (4, .ref q2), (0, .ref zr_a), (1, .ref za_a), (2, .int x2), (3, .int x3)]) hx hb dL_bestOrder_7 hl (by decide) rfl (fun ls hl => ?_)
  refine lv_iconst (v := (0 : Int32)) hx hb dL_bestOrder_9 (by decide) ?_
  refine lv_istore (lv' := [(6, .int (0 : Int32)), (5, .int (-1 : Int32)), (4, .ref q2), (0, .ref zr_a), (1, .ref za_a), (2, .int x2), (3, .int x3)]) hx hb dL_bestOrder_10 hl (by decide) rfl (fun ls hl => ?_)
  refine lv_iconst (v := (0 : Int32)) hx hb dL_bestOrder_12 (by decide) ?_
  refine lv_istore (lv' := [(7, .int (0 : Int32)), (6, .int (0 : Int32)), (5, .int (-1 : Int32)), (4, .ref q2), (0, .ref zr_a), (1, .ref za_a), (2, .int x2), (3, .int x3)]) hx hb dL_bestOrder_13 hl (by decide) rfl (fun ls hl => ?_)
  exact w_L_bestOrder_b15 C hA _ _ _ _ _ hf _ _ hP hD hS _ (lv_sub hl [4, 5, 6, 7, 3, 2, 1, 0] rfl)
theorem c_L_bestOrder (l : Launch) (D : va_G) (T : TY) (zr_a za_a : Nat) (zr : Nat → Int32) (za : Nat → Int32) (x2 : Int32) (x3 : Int32) (res : Int32) (hf : f_L_bestOrder zr za x2 x3 = some res) (sz : Nat) : Met l yL_bestOrder wsL_bestOrder rmL_bestOrder (va_Pc [.ref zr_a, .ref za_a, .int x2, .int x3] (PM D T [(zr_a, .inl (T.1, (60, .inl zr))), (za_a, .inl (T.1, (16, .inl za)))] sz)) (Qm (some (.int res)) D (fun W9 => W9 = [(zr_a, .inl (T.1, (60, .inl zr))), (za_a, .inl (T.1, (16, .inl za)))]) (va_A [(zr_a, .inl (T.1, (60, .inl zr))), (za_a, .inl (T.1, (16, .inl za)))] sz)) 1 16 (va_A [(zr_a, .inl (T.1, (60, .inl zr))), (za_a, .inl (T.1, (16, .inl za)))] sz) :=
  metM_of (by decide +kernel) rfl (Nat.le_of_ble_eq_true rfl) (fun p e s m args below meth c C hnm A hA hP hD ls hl => w_L_bestOrder_b0 C hA hf _ _ hP hD va_S.rf ls hl)
