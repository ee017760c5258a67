/-! ===== walks, laid by wip/gen28/genlaw28.py: L_act ===== -/
def rmL_act : Room := { frames := 10, cells := 22, slots := 264, locals := 200 }
theorem hdS_L_act : yL_act.cls ≠ "java/lang/invoke/MethodHandle" ∧ yL_act.cls ≠ "java/lang/invoke/VarHandle" ∧ (parseMethodDescriptor yL_act.desc).map (fun d => d.parameters.length) = some 6 := by decide +kernel
theorem mw_L_act_0 : Cond.static yL_low ∈ wsL_act := by decide +kernel
theorem mw_L_act_1 : Cond.static yL_crossings ∈ wsL_act := by decide +kernel
set_option maxHeartbeats 4000000 in
set_option maxRecDepth 100000 in
theorem w_L_act_b105 {p : Program} {l : Launch} {e : Env} {s : State} {m : MethodId} {args : Array Value} {below : List Frame} {meth : Method} {c : Code} {D : va_G} {T : TY} {zr_a za_a zg_a : Nat} {xa : XA} {x1 : Int32} {x2 : Int32} {res : Int32 × (Nat → Int32) × (Nat → Int32) × (Nat → Int32) × DR} (hfl : l.stackTraces = false) (C : CX p s m args meth c cL_act 12 RL wsL_act (some .boolean) D T) {n0 : Nat} (hZB : ZB n0 s) {A : Nat → Prop} (hAn : ∀ q, A q → n0 ≤ q) (hA : ∀ q, s.heap.size ≤ q → A q) : ∀ s0 : Int32, ∀ s1 : Int32, ∀ s2 : Int32, ∀ x7 : Int32, ∀ x8 : Int32, ∀ x9 : Int32, ∀ zr : Nat → Int32, ∀ za : Nat → Int32, ∀ zg : Nat → Int32, ∀ E : DR, f_L_act_b105 x1 x2 s0 s1 s2 x7 x8 x9 zr za zg E = some res → ∀ (xc : XC) (xB : Nat → Option DB) (xo xh : Nat), XP xc xB xo xh E → WF E → ∀ (H : Heap) (locs : List Loc), va_P D vwCl ((zr_a, .inl (T.1, (60, .inl zr))) :: (za_a, .inl (T.1, (16, .inl za))) :: (zg_a, .inl (T.1, (2, .inl zg))) :: (XW T xa xc ++ PW T xB)) H → va_D A ((zr_a, .inl (T.1, (60, .inl zr))) :: (za_a, .inl (T.1, (16, .inl za))) :: (zg_a, .inl (T.1, (2, .inl zg))) :: (XW T xa xc ++ PW T xB)) → va_S A s.heap H locs → ∀ ls : Array Slot, lv_has ls 12 [(0, .ref xa.1), (3, .ref zr_a), (5, .ref zg_a), (7, .int x7), (8, .int x8), (9, .int x9)] → W p l e rmL_act s m args below meth c H locs 0 0 (MQ below (Qm (some (.int res.1)) D (fun W9 => ∃ (xc : XC) (xB : Nat → Option DB) (xo xh : Nat), XP xc xB xo xh res.2.2.2.2 ∧ WF res.2.2.2.2 ∧ W9 = ((zr_a, .inl (T.1, (60, .inl res.2.1))) :: (za_a, .inl (T.1, (16, .inl res.2.2.1))) :: (zg_a, .inl (T.1, (2, .inl res.2.2.2.1))) :: (XW T xa xc ++ PW T xB))) A) args s 22 264 A) (F0 m 105 ls [.int s0, .int s1, .int s2]) := by
  obtain ⟨hx, hb, hml, hown, hts, hr, hlocks, hK, hN⟩ := id C
  intro s0 s1 s2 x7 x8 x9 zr za zg E hf xc xB xo xh hX hw H locs hP hD hS ls hl
  unfold f_L_act_b105 at hf
  obtain ⟨q105, e_105, hf⟩ := bd_some hf
  refine callPi (va_runS (As := [.int s1, .int s0]) (rest := [.int s2]) ⟨hx, hb, hml, hown, hts⟩ (c_L_low l D T s1 s0 q105 e_105) (va_cwS 2 hts gL_act_L_low rfl rfl rfl hdS_L_low ⟨Nat.le_of_ble_eq_true rfl, Nat.le_of_ble_eq_true rfl⟩) (preBS va_P0 hK hN) rfl rfl hl.1 rfl (lv_room (Nat.le_of_ble_eq_true rfl)) dL_act_105 ⟨Nat.le_of_ble_eq_true rfl, Nat.le_of_ble_eq_true rfl⟩) ?_
  refine lv_iadd hx hb dL_act_108 ?_
  obtain ⟨v109, e_109, hf⟩ := nm_some hf
  refine lv_nmi e_109 ?_
  refine lv_istore (lv' := [(10, .int v109), (0, .ref xa.1), (3, .ref zr_a), (5, .ref zg_a), (7, .int x7), (8, .int x8), (9, .int x9)]) hx hb dL_act_109 hl (by decide) rfl (fun ls hl => ?_)
  refine lv_iload hx hb dL_act_111 (lv_at hl 5 rfl) ?_
  refine lv_iconst (v := (4 : Int32)) hx hb dL_act_113 (by decide) ?_
  refine lv_idiv hx hb dL_act_114 (by decide) ?_
  refine lv_iload hx hb dL_act_115 (lv_at hl 6 rfl) ?_
  refine lv_iconst (v := (4 : Int32)) hx hb dL_act_117 (by decide) ?_
  refine lv_idiv hx hb dL_act_118 (by decide) ?_
  refine lv_icmp_ne (tgt := 171) hx hb dL_act_119 (by decide) (fun c_119 => ?_) (fun c_119 => ?_)
  · have hf := it_neg c_119 hf
    refine lv_iload hx hb dL_act_171 (lv_at hl 4 rfl) ?_
    refine lv_bipush (v := (20 : Int32)) hx hb dL_act_173 (by decide) ?_
    refine lv_icmp_ne (tgt := 199) hx hb dL_act_175 (by decide) (fun c_175 => ?_) (fun c_175 => ?_)
    · have hf := it_neg c_175 hf
      refine lv_aload_n hx hb dL_act_199 rfl (lv_at hl 2 rfl) ?_
      refine lv_iconst (v := (3 : Int32)) hx hb dL_act_200 (by decide) ?_
      refine lv_iload hx hb dL_act_201 (lv_at hl 4 rfl) ?_
      refine lv_imul hx hb dL_act_203 ?_
      refine lv_iload hx hb dL_act_204 (lv_at hl 5 rfl) ?_
      obtain ⟨g_206, hf⟩ := gd_some hf
      refine va_iast (D := D) hx hb hK hP hD hS 0 0 rfl rfl (gd_in g_206) dL_act_206 (fun H locs hP hD hS => ?_)
      have hP : va_P D vwCl ((zr_a, .inl (T.1, (60, .inl (upd zr ((3 : Int32) * x7).toNatClampNeg x8)))) :: (za_a, .inl (T.1, (16, .inl za))) :: (zg_a, .inl (T.1, (2, .inl zg))) :: (XW T xa xc ++ PW T xB)) H := hP
      have hD : va_D A ((zr_a, .inl (T.1, (60, .inl (upd zr ((3 : Int32) * x7).toNatClampNeg x8)))) :: (za_a, .inl (T.1, (16, .inl za))) :: (zg_a, .inl (T.1, (2, .inl zg))) :: (XW T xa xc ++ PW T xB)) := hD
      refine lv_aload_n hx hb dL_act_207 rfl (lv_at hl 2 rfl) ?_
      refine lv_iconst (v := (3 : Int32)) hx hb dL_act_208 (by decide) ?_
      refine lv_iload hx hb dL_act_209 (lv_at hl 4 rfl) ?_
      refine lv_imul hx hb dL_act_211 ?_
      refine lv_iconst (v := (1 : Int32)) hx hb dL_act_212 (by decide) ?_
      refine lv_iadd hx hb dL_act_213 ?_
      refine lv_iload hx hb dL_act_214 (lv_at hl 6 rfl) ?_
      obtain ⟨g_216, hf⟩ := gd_some hf
      refine va_iast (D := D) hx hb hK hP hD hS 0 0 rfl rfl (gd_in g_216) dL_act_216 (fun H locs hP hD hS => ?_)
      have hP : va_P D vwCl ((zr_a, .inl (T.1, (60, .inl (upd (upd zr ((3 : Int32) * x7).toNatClampNeg x8) (((3 : Int32) * x7) + (1 : Int32)).toNatClampNeg x9)))) :: (za_a, .inl (T.1, (16, .inl za))) :: (zg_a, .inl (T.1, (2, .inl zg))) :: (XW T xa xc ++ PW T xB)) H := hP
      have hD : va_D A ((zr_a, .inl (T.1, (60, .inl (upd (upd zr ((3 : Int32) * x7).toNatClampNeg x8) (((3 : Int32) * x7) + (1 : Int32)).toNatClampNeg x9)))) :: (za_a, .inl (T.1, (16, .inl za))) :: (zg_a, .inl (T.1, (2, .inl zg))) :: (XW T xa xc ++ PW T xB)) := hD
      refine lv_aload_n hx hb dL_act_217 rfl (lv_at hl 2 rfl) ?_
      refine lv_iconst (v := (3 : Int32)) hx hb dL_act_218 (by decide) ?_
      refine lv_iload hx hb dL_act_219 (lv_at hl 4 rfl) ?_
      refine lv_imul hx hb dL_act_221 ?_
      refine lv_iconst (v := (2 : Int32)) hx hb dL_act_222 (by decide) ?_
      refine lv_iadd hx hb dL_act_223 ?_
      refine lv_iload hx hb dL_act_224 (lv_at hl 0 rfl) ?_
      obtain ⟨g_226, hf⟩ := gd_some hf
      refine va_iast (D := D) hx hb hK hP hD hS 0 0 rfl rfl (gd_in g_226) dL_act_226 (fun H locs hP hD hS => ?_)
      have hP : va_P D vwCl ((zr_a, .inl (T.1, (60, .inl (upd (upd (upd zr ((3 : Int32) * x7).toNatClampNeg x8) (((3 : Int32) * x7) + (1 : Int32)).toNatClampNeg x9) (((3 : Int32) * x7) + (2 : Int32)).toNatClampNeg v109)))) :: (za_a, .inl (T.1, (16, .inl za))) :: (zg_a, .inl (T.1, (2, .inl zg))) :: (XW T xa xc ++ PW T xB)) H := hP
      have hD : va_D A ((zr_a, .inl (T.1, (60, .inl (upd (upd (upd zr ((3 : Int32) * x7).toNatClampNeg x8) (((3 : Int32) * x7) + (1 : Int32)).toNatClampNeg x9) (((3 : Int32) * x7) + (2 : Int32)).toNatClampNeg v109)))) :: (za_a, .inl (T.1, (16, .inl za))) :: (zg_a, .inl (T.1, (2, .inl zg))) :: (XW T xa xc ++ PW T xB)) := hD
      refine lv_aload hx hb dL_act_227 (lv_at hl 3 rfl) ?_
      refine lv_iconst (v := (0 : Int32)) hx hb dL_act_229 (by decide) ?_
      refine lv_dup2_11 hx hb dL_act_230 rfl rfl ?_
      refine va_iald (D := D) hx hb hK hP 2 0 rfl rfl (gd_in (by decide)) dL_act_231 ?_
      refine lv_iconst (v := (1 : Int32)) hx hb dL_act_232 (by decide) ?_
      refine lv_iadd hx hb dL_act_233 ?_
      obtain ⟨v234, e_234, hf⟩ := nm_some hf
      refine lv_nmi e_234 ?_
      refine va_iast (D := D) hx hb hK hP hD hS 2 0 rfl rfl (gd_in (by decide)) dL_act_234 (fun H locs hP hD hS => ?_)
      have hP : va_P D vwCl ((zr_a, .inl (T.1, (60, .inl (upd (upd (upd zr ((3 : Int32) * x7).toNatClampNeg x8) (((3 : Int32) * x7) + (1 : Int32)).toNatClampNeg x9) (((3 : Int32) * x7) + (2 : Int32)).toNatClampNeg v109)))) :: (za_a, .inl (T.1, (16, .inl za))) :: (zg_a, .inl (T.1, (2, .inl (upd zg (0 : Int32).toNatClampNeg v234)))) :: (XW T xa xc ++ PW T xB)) H := hP
      have hD : va_D A ((zr_a, .inl (T.1, (60, .inl (upd (upd (upd zr ((3 : Int32) * x7).toNatClampNeg x8) (((3 : Int32) * x7) + (1 : Int32)).toNatClampNeg x9) (((3 : Int32) * x7) + (2 : Int32)).toNatClampNeg v109)))) :: (za_a, .inl (T.1, (16, .inl za))) :: (zg_a, .inl (T.1, (2, .inl (upd zg (0 : Int32).toNatClampNeg v234)))) :: (XW T xa xc ++ PW T xB)) := hD
      refine lv_aload_n hx hb dL_act_235 rfl (lv_at hl 1 rfl) ?_
      refine lv_iload hx hb dL_act_236 (lv_at hl 5 rfl) ?_
      refine lv_iload hx hb dL_act_238 (lv_at hl 6 rfl) ?_
      refine lv_iload hx hb dL_act_240 (lv_at hl 0 rfl) ?_
      obtain ⟨q242, e_242, hf⟩ := bd_some hf
      refine k_ribbon hfl hZB hAn ⟨by decide, by decide⟩ hK hN hA (a := xa) (R := [(zr_a, .inl (T.1, (60, .inl (upd (upd (upd zr ((3 : Int32) * x7).toNatClampNeg x8) (((3 : Int32) * x7) + (1 : Int32)).toNatClampNeg x9) (((3 : Int32) * x7) + (2 : Int32)).toNatClampNeg v109)))), (za_a, .inl (T.1, (16, .inl za))), (zg_a, .inl (T.1, (2, .inl (upd zg (0 : Int32).toNatClampNeg v234))))]) hX hw (v := q242.1) (E' := q242.2) e_242 (fun H locs cells slots rm mc ms Pc Qc free hMt hrc hrs hR hpre hroom => vx_runSW (n := 4) (As := [.ref xa.1, .int x8, .int x9, .int v109]) (rest := []) ⟨hx, hb, hml, hown, hts⟩ hMt (vx_cwSW 4 hts gL_act_L_ribbon rfl hrc hrs hdS_L_ribbonA hR) hpre rfl rfl hl.1 rfl (lv_room (Nat.le_of_ble_eq_true rfl)) dL_act_242 hroom) ⟨hP, hD⟩ hS ⟨Nat.le_of_ble_eq_true rfl, Nat.le_of_ble_eq_true rfl⟩ (fun xc xB xo xh H locs hX hw hW hS => ?_)
      obtain ⟨hP, hD⟩ := hW
      have hP : va_P D vwCl ((zr_a, .inl (T.1, (60, .inl (upd (upd (upd zr ((3 : Int32) * x7).toNatClampNeg x8) (((3 : Int32) * x7) + (1 : Int32)).toNatClampNeg x9) (((3 : Int32) * x7) + (2 : Int32)).toNatClampNeg v109)))) :: (za_a, .inl (T.1, (16, .inl za))) :: (zg_a, .inl (T.1, (2, .inl (upd zg (0 : Int32).toNatClampNeg v234)))) :: (XW T xa xc ++ PW T xB)) H := hP
      have hD : va_D A ((zr_a, .inl (T.1, (60, .inl (upd (upd (upd zr ((3 : Int32) * x7).toNatClampNeg x8) (((3 : Int32) * x7) + (1 : Int32)).toNatClampNeg x9) (((3 : Int32) * x7) + (2 : Int32)).toNatClampNeg v109)))) :: (za_a, .inl (T.1, (16, .inl za))) :: (zg_a, .inl (T.1, (2, .inl (upd zg (0 : Int32).toNatClampNeg v234)))) :: (XW T xa xc ++ PW T xB)) := hD
      refine W.widen (k := 6) (n := 88) (by decide) (by decide) ?_
      refine lv_iload hx hb dL_act_245 (lv_at hl 4 rfl) ?_
      refine lv_icmp_ne (tgt := 254) hx hb dL_act_247 (by decide) (fun c_247 => ?_) (fun c_247 => ?_)
      · have hf := it_neg c_247 hf
        refine lv_iconst (v := (0 : Int32)) hx hb dL_act_254 (by decide) ?_
        obtain rfl := Option.some.inj hf
        refine W.widen (k := 22) (n := 264) (by decide) (by decide) ?_
        exact W.zret hx hb hr (by decide) (fun t ht hW => ⟨rfl, ⟨_, ⟨_, _, _, _, hX, hw, rfl⟩, by rw [ht]; exact hP, hD⟩, hS.F ht⟩) hS.2.2 dL_act_255 hlocks
      · have hf := it_pos c_247 hf
        refine lv_iconst (v := (1 : Int32)) hx hb dL_act_250 (by decide) ?_
        refine lv_goto (tgt := 255) hx hb dL_act_251 (by decide) ?_
        obtain rfl := Option.some.inj hf
        refine W.widen (k := 22) (n := 264) (by decide) (by decide) ?_
        exact W.zret hx hb hr (by decide) (fun t ht hW => ⟨rfl, ⟨_, ⟨_, _, _, _, hX, hw, rfl⟩, by rw [ht]; exact hP, hD⟩, hS.F ht⟩) hS.2.2 dL_act_255 hlocks
    · have hf := it_pos c_175 hf
      refine lv_aload_n hx hb dL_act_178 rfl (lv_at hl 1 rfl) ?_
      refine lv_iload hx hb dL_act_179 (lv_at hl 5 rfl) ?_
      refine lv_iload hx hb dL_act_181 (lv_at hl 6 rfl) ?_
      refine lv_iload hx hb dL_act_183 (lv_at hl 0 rfl) ?_
      obtain ⟨q185, e_185, hf⟩ := bd_some hf
      refine k_ribbon hfl hZB hAn ⟨by decide, by decide⟩ hK hN hA (a := xa) (R := [(zr_a, .inl (T.1, (60, .inl zr))), (za_a, .inl (T.1, (16, .inl za))), (zg_a, .inl (T.1, (2, .inl zg)))]) hX hw (v := q185.1) (E' := q185.2) e_185 (fun H locs cells slots rm mc ms Pc Qc free hMt hrc hrs hR hpre hroom => vx_runSW (n := 4) (As := [.ref xa.1, .int x8, .int x9, .int v109]) (rest := []) ⟨hx, hb, hml, hown, hts⟩ hMt (vx_cwSW 4 hts gL_act_L_ribbon rfl hrc hrs hdS_L_ribbonA hR) hpre rfl rfl hl.1 rfl (lv_room (Nat.le_of_ble_eq_true rfl)) dL_act_185 hroom) ⟨hP, hD⟩ hS ⟨Nat.le_of_ble_eq_true rfl, Nat.le_of_ble_eq_true rfl⟩ (fun xc xB xo xh H locs hX hw hW hS => ?_)
      obtain ⟨hP, hD⟩ := hW
      have hP : va_P D vwCl ((zr_a, .inl (T.1, (60, .inl zr))) :: (za_a, .inl (T.1, (16, .inl za))) :: (zg_a, .inl (T.1, (2, .inl zg))) :: (XW T xa xc ++ PW T xB)) H := hP
      have hD : va_D A ((zr_a, .inl (T.1, (60, .inl zr))) :: (za_a, .inl (T.1, (16, .inl za))) :: (zg_a, .inl (T.1, (2, .inl zg))) :: (XW T xa xc ++ PW T xB)) := hD
      refine W.widen (k := 6) (n := 88) (by decide) (by decide) ?_
      refine lv_bipush (v := (-33 : Int32)) hx hb dL_act_188 (by decide) ?_
      refine lv_icmp_ne (tgt := 197) hx hb dL_act_190 (by decide) (fun c_190 => ?_) (fun c_190 => ?_)
      · have hf := it_neg c_190 hf
        refine lv_iconst (v := (0 : Int32)) hx hb dL_act_197 (by decide) ?_
        obtain rfl := Option.some.inj hf
        refine W.widen (k := 22) (n := 264) (by decide) (by decide) ?_
        exact W.zret hx hb hr (by decide) (fun t ht hW => ⟨rfl, ⟨_, ⟨_, _, _, _, hX, hw, rfl⟩, by rw [ht]; exact hP, hD⟩, hS.F ht⟩) hS.2.2 dL_act_198 hlocks
      · have hf := it_pos c_190 hf
        refine lv_iconst (v := (1 : Int32)) hx hb dL_act_193 (by decide) ?_
        refine lv_goto (tgt := 198) hx hb dL_act_194 (by decide) ?_
        obtain rfl := Option.some.inj hf
        refine W.widen (k := 22) (n := 264) (by decide) (by decide) ?_
        exact W.zret hx hb hr (by decide) (fun t ht hW => ⟨rfl, ⟨_, ⟨_, _, _, _, hX, hw, rfl⟩, by rw [ht]; exact hP, hD⟩, hS.F ht⟩) hS.2.2 dL_act_198 hlocks
  · have hf := it_pos c_119 hf
    refine lv_aload_n hx hb dL_act_122 rfl (lv_at hl 1 rfl) ?_
    refine lv_iload hx hb dL_act_123 (lv_at hl 5 rfl) ?_
    refine lv_iload hx hb dL_act_125 (lv_at hl 6 rfl) ?_
    refine lv_iload hx hb dL_act_127 (lv_at hl 0 rfl) ?_
    obtain ⟨q129, e_129, hf⟩ := bd_some hf
    refine k_ribbon hfl hZB hAn ⟨by decide, by decide⟩ hK hN hA (a := xa) (R := [(zr_a, .inl (T.1, (60, .inl zr))), (za_a, .inl (T.1, (16, .inl za))), (zg_a, .inl (T.1, (2, .inl zg)))]) hX hw (v := q129.1) (E' := q129.2) e_129 (fun H locs cells slots rm mc ms Pc Qc free hMt hrc hrs hR hpre hroom => vx_runSW (n := 4) (As := [.ref xa.1, .int x8, .int x9, .int v109]) (rest := []) ⟨hx, hb, hml, hown, hts⟩ hMt (vx_cwSW 4 hts gL_act_L_ribbon rfl hrc hrs hdS_L_ribbonA hR) hpre rfl rfl hl.1 rfl (lv_room (Nat.le_of_ble_eq_true rfl)) dL_act_129 hroom) ⟨hP, hD⟩ hS ⟨Nat.le_of_ble_eq_true rfl, Nat.le_of_ble_eq_true rfl⟩ (fun xc xB xo xh H locs hX hw hW hS => ?_)
    obtain ⟨hP, hD⟩ := hW
    have hP : va_P D vwCl ((zr_a, .inl (T.1, (60, .inl zr))) :: (za_a, .inl (T.1, (16, .inl za))) :: (zg_a, .inl (T.1, (2, .inl zg))) :: (XW T xa xc ++ PW T xB)) H := hP
    have hD : va_D A ((zr_a, .inl (T.1, (60, .inl zr))) :: (za_a, .inl (T.1, (16, .inl za))) :: (zg_a, .inl (T.1, (2, .inl zg))) :: (XW T xa xc ++ PW T xB)) := hD
    refine W.widen (k := 6) (n := 88) (by decide) (by decide) ?_
    refine lv_bipush (v := (-32 : Int32)) hx hb dL_act_132 (by decide) ?_
    refine lv_icmp_ne (tgt := 169) hx hb dL_act_134 (by decide) (fun c_134 => ?_) (fun c_134 => ?_)
    · have hf := it_neg c_134 hf
      refine lv_iconst (v := (0 : Int32)) hx hb dL_act_169 (by decide) ?_
      obtain rfl := Option.some.inj hf
      refine W.widen (k := 22) (n := 264) (by decide) (by decide) ?_
      exact W.zret hx hb hr (by decide) (fun t ht hW => ⟨rfl, ⟨_, ⟨_, _, _, _, hX, hw, rfl⟩, by rw [ht]; exact hP, hD⟩, hS.F ht⟩) hS.2.2 dL_act_170 hlocks
    · have hf := it_pos c_134 hf
      refine lv_aload_n hx hb dL_act_137 rfl (lv_at hl 1 rfl) ?_
      refine lv_bipush (v := (16 : Int32)) hx hb dL_act_138 (by decide) ?_
      refine lv_iload hx hb dL_act_140 (lv_at hl 6 rfl) ?_
      refine lv_iconst (v := (0 : Int32)) hx hb dL_act_142 (by decide) ?_
      obtain ⟨q143, e_143, hf⟩ := bd_some hf
      refine k_ribbon hfl hZB hAn ⟨by decide, by decide⟩ hK hN hA (a := xa) (R := [(zr_a, .inl (T.1, (60, .inl zr))), (za_a, .inl (T.1, (16, .inl za))), (zg_a, .inl (T.1, (2, .inl zg)))]) hX hw (v := q143.1) (E' := q143.2) e_143 (fun H locs cells slots rm mc ms Pc Qc free hMt hrc hrs hR hpre hroom => vx_runSW (n := 4) (As := [.ref xa.1, .int (16 : Int32), .int x9, .int (0 : Int32)]) (rest := []) ⟨hx, hb, hml, hown, hts⟩ hMt (vx_cwSW 4 hts gL_act_L_ribbon rfl hrc hrs hdS_L_ribbonA hR) hpre rfl rfl hl.1 rfl (lv_room (Nat.le_of_ble_eq_true rfl)) dL_act_143 hroom) ⟨hP, hD⟩ hS ⟨Nat.le_of_ble_eq_true rfl, Nat.le_of_ble_eq_true rfl⟩ (fun xc xB xo xh H locs hX hw hW hS => ?_)
      obtain ⟨hP, hD⟩ := hW
      have hP : va_P D vwCl ((zr_a, .inl (T.1, (60, .inl zr))) :: (za_a, .inl (T.1, (16, .inl za))) :: (zg_a, .inl (T.1, (2, .inl zg))) :: (XW T xa xc ++ PW T xB)) H := hP
      have hD : va_D A ((zr_a, .inl (T.1, (60, .inl zr))) :: (za_a, .inl (T.1, (16, .inl za))) :: (zg_a, .inl (T.1, (2, .inl zg))) :: (XW T xa xc ++ PW T xB)) := hD
      refine W.widen (k := 12) (n := 176) (by decide) (by decide) ?_
      refine lv_bipush (v := (-31 : Int32)) hx hb dL_act_146 (by decide) ?_
      refine lv_icmp_ne (tgt := 169) hx hb dL_act_148 (by decide) (fun c_148 => ?_) (fun c_148 => ?_)
      · have hf := it_neg c_148 hf
        refine lv_iconst (v := (0 : Int32)) hx hb dL_act_169 (by decide) ?_
        obtain rfl := Option.some.inj hf
        refine W.widen (k := 22) (n := 264) (by decide) (by decide) ?_
        exact W.zret hx hb hr (by decide) (fun t ht hW => ⟨rfl, ⟨_, ⟨_, _, _, _, hX, hw, rfl⟩, by rw [ht]; exact hP, hD⟩, hS.F ht⟩) hS.2.2 dL_act_170 hlocks
      · have hf := it_pos c_148 hf
        refine lv_aload_n hx hb dL_act_151 rfl (lv_at hl 1 rfl) ?_
        refine lv_iconst (v := (0 : Int32)) hx hb dL_act_152 (by decide) ?_
        refine lv_bipush (v := (15 : Int32)) hx hb dL_act_153 (by decide) ?_
        refine lv_bipush (v := (51 : Int32)) hx hb dL_act_155 (by decide) ?_
        obtain ⟨q157, e_157, hf⟩ := bd_some hf
        refine k_ribbon hfl hZB hAn ⟨by decide, by decide⟩ hK hN hA (a := xa) (R := [(zr_a, .inl (T.1, (60, .inl zr))), (za_a, .inl (T.1, (16, .inl za))), (zg_a, .inl (T.1, (2, .inl zg)))]) hX hw (v := q157.1) (E' := q157.2) e_157 (fun H locs cells slots rm mc ms Pc Qc free hMt hrc hrs hR hpre hroom => vx_runSW (n := 4) (As := [.ref xa.1, .int (0 : Int32), .int (15 : Int32), .int (51 : Int32)]) (rest := []) ⟨hx, hb, hml, hown, hts⟩ hMt (vx_cwSW 4 hts gL_act_L_ribbon rfl hrc hrs hdS_L_ribbonA hR) hpre rfl rfl hl.1 rfl (lv_room (Nat.le_of_ble_eq_true rfl)) dL_act_157 hroom) ⟨hP, hD⟩ hS ⟨Nat.le_of_ble_eq_true rfl, Nat.le_of_ble_eq_true rfl⟩ (fun xc xB xo xh H locs hX hw hW hS => ?_)
        obtain ⟨hP, hD⟩ := hW
        have hP : va_P D vwCl ((zr_a, .inl (T.1, (60, .inl zr))) :: (za_a, .inl (T.1, (16, .inl za))) :: (zg_a, .inl (T.1, (2, .inl zg))) :: (XW T xa xc ++ PW T xB)) H := hP
        have hD : va_D A ((zr_a, .inl (T.1, (60, .inl zr))) :: (za_a, .inl (T.1, (16, .inl za))) :: (zg_a, .inl (T.1, (2, .inl zg))) :: (XW T xa xc ++ PW T xB)) := hD
        refine W.widen (k := 18) (n := 264) (by decide) (by decide) ?_
        refine lv_bipush (v := (-32 : Int32)) hx hb dL_act_160 (by decide) ?_
        refine lv_icmp_ne (tgt := 169) hx hb dL_act_162 (by decide) (fun c_162 => ?_) (fun c_162 => ?_)
        · have hf := it_neg c_162 hf
          refine lv_iconst (v := (0 : Int32)) hx hb dL_act_169 (by decide) ?_
          obtain rfl := Option.some.inj hf
          refine W.widen (k := 22) (n := 264) (by decide) (by decide) ?_
          exact W.zret hx hb hr (by decide) (fun t ht hW => ⟨rfl, ⟨_, ⟨_, _, _, _, hX, hw, rfl⟩, by rw [ht]; exact hP, hD⟩, hS.F ht⟩) hS.2.2 dL_act_170 hlocks
        · have hf := it_pos c_162 hf
          refine lv_iconst (v := (1 : Int32)) hx hb dL_act_165 (by decide) ?_
          refine lv_goto (tgt := 170) hx hb dL_act_166 (by decide) ?_
          obtain rfl := Option.some.inj hf
          refine W.widen (k := 22) (n := 264) (by decide) (by decide) ?_
          exact W.zret hx hb hr (by decide) (fun t ht hW => ⟨rfl, ⟨_, ⟨_, _, _, _, hX, hw, rfl⟩, by rw [ht]; exact hP, hD⟩, hS.F ht⟩) hS.2.2 dL_act_170 hlocks
set_option maxHeartbeats 4000000 in
set_option maxRecDepth 100000 in
theorem w_L_act_b82 {p : Program} {l : Launch} {e : Env} {s : State} {m : MethodId} {args : Array Value} {below : List Frame} {meth : Method} {c : Code} {D : va_G} {T : TY} {zr_a za_a zg_a : Nat} {xa : XA} {x1 : Int32} {x2 : Int32} {res : Int32 × (Nat → Int32) × (Nat → Int32) × (Nat → Int32) × DR} (hfl : l.stackTraces = false) (C : CX p s m args meth c cL_act 12 RL wsL_act (some .boolean) D T) {n0 : Nat} (hZB : ZB n0 s) {A : Nat → Prop} (hAn : ∀ q, A q → n0 ≤ q) (hA : ∀ q, s.heap.size ≤ q → A q) : ∀ s0 : Int32, ∀ x7 : Int32, ∀ x8 : Int32, ∀ zr : Nat → Int32, ∀ za : Nat → Int32, ∀ zg : Nat → Int32, ∀ E : DR, f_L_act_b82 x1 x2 s0 x7 x8 zr za zg E = some res → ∀ (xc : XC) (xB : Nat → Option DB) (xo xh : Nat), XP xc xB xo xh E → WF E → ∀ (H : Heap) (locs : List Loc), va_P D vwCl ((zr_a, .inl (T.1, (60, .inl zr))) :: (za_a, .inl (T.1, (16, .inl za))) :: (zg_a, .inl (T.1, (2, .inl zg))) :: (XW T xa xc ++ PW T xB)) H → va_D A ((zr_a, .inl (T.1, (60, .inl zr))) :: (za_a, .inl (T.1, (16, .inl za))) :: (zg_a, .inl (T.1, (2, .inl zg))) :: (XW T xa xc ++ PW T xB)) → va_S A s.heap H locs → ∀ ls : Array Slot, lv_has ls 12 [(0, .ref xa.1), (2, .int x2), (3, .ref zr_a), (5, .ref zg_a), (7, .int x7), (8, .int x8)] → W p l e rmL_act s m args below meth c H locs 0 0 (MQ below (Qm (some (.int res.1)) D (fun W9 => ∃ (xc : XC) (xB : Nat → Option DB) (xo xh : Nat), XP xc xB xo xh res.2.2.2.2 ∧ WF res.2.2.2.2 ∧ W9 = ((zr_a, .inl (T.1, (60, .inl res.2.1))) :: (za_a, .inl (T.1, (16, .inl res.2.2.1))) :: (zg_a, .inl (T.1, (2, .inl res.2.2.2.1))) :: (XW T xa xc ++ PW T xB))) A) args s 22 264 A) (F0 m 82 ls [.int s0]) := by
  obtain ⟨hx, hb, hml, hown, hts, hr, hlocks, hK, hN⟩ := id C
  intro s0 x7 x8 zr za zg E hf xc xB xo xh hX hw H locs hP hD hS ls hl
  unfold f_L_act_b82 at hf
  refine lv_istore (lv' := [(9, .int s0), (0, .ref xa.1), (2, .int x2), (3, .ref zr_a), (5, .ref zg_a), (7, .int x7), (8, .int x8)]) hx hb dL_act_82 hl (by decide) rfl (fun ls hl => ?_)
  refine lv_iconst (v := (1 : Int32)) hx hb dL_act_84 (by decide) ?_
  refine lv_iload_n hx hb dL_act_85 rfl (lv_at hl 2 rfl) ?_
  refine lv_bipush (v := (8 : Int32)) hx hb dL_act_86 (by decide) ?_
  refine lv_ishr hx hb dL_act_88 ?_
  refine lv_iload_n hx hb dL_act_89 rfl (lv_at hl 2 rfl) ?_
  refine lv_bipush (v := (7 : Int32)) hx hb dL_act_90 (by decide) ?_
  refine lv_ishr hx hb dL_act_92 ?_
  refine lv_iconst (v := (1 : Int32)) hx hb dL_act_93 (by decide) ?_
  refine lv_iand hx hb dL_act_94 ?_
  refine lv_if_ne (tgt := 103) hx hb dL_act_95 (by decide) (fun c_95 => ?_) (fun c_95 => ?_)
  · have hf := it_neg c_95 hf
    refine lv_bipush (v := (50 : Int32)) hx hb dL_act_103 (by decide) ?_
    exact w_L_act_b105 hfl C hZB hAn hA _ _ _ _ _ _ _ _ _ _ hf _ _ _ _ hX hw _ _ hP hD hS _ (lv_sub hl [1, 3, 4, 5, 6, 0] rfl)
  · have hf := it_pos c_95 hf
    refine lv_bipush (v := (9 : Int32)) hx hb dL_act_98 (by decide) ?_
    refine lv_goto (tgt := 105) hx hb dL_act_100 (by decide) ?_
    exact w_L_act_b105 hfl C hZB hAn hA _ _ _ _ _ _ _ _ _ _ hf _ _ _ _ hX hw _ _ hP hD hS _ (lv_sub hl [1, 3, 4, 5, 6, 0] rfl)
set_option maxHeartbeats 4000000 in
set_option maxRecDepth 100000 in
theorem w_L_act_b38 {p : Program} {l : Launch} {e : Env} {s : State} {m : MethodId} {args : Array Value} {below : List Frame} {meth : Method} {c : Code} {D : va_G} {T : TY} {zr_a za_a zg_a : Nat} {xa : XA} {x1 : Int32} {x2 : Int32} {res : Int32 × (Nat → Int32) × (Nat → Int32) × (Nat → Int32) × DR} (hfl : l.stackTraces = false) (C : CX p s m args meth c cL_act 12 RL wsL_act (some .boolean) D T) {n0 : Nat} (hZB : ZB n0 s) {A : Nat → Prop} (hAn : ∀ q, A q → n0 ≤ q) (hA : ∀ q, s.heap.size ≤ q → A q) : ∀ s0 : Int32, ∀ s1 : Int32, ∀ x7 : Int32, ∀ zr : Nat → Int32, ∀ za : Nat → Int32, ∀ zg : Nat → Int32, ∀ E : DR, f_L_act_b38 x1 x2 s0 s1 x7 zr za zg E = some res → ∀ (xc : XC) (xB : Nat → Option DB) (xo xh : Nat), XP xc xB xo xh E → WF E → ∀ (H : Heap) (locs : List Loc), va_P D vwCl ((zr_a, .inl (T.1, (60, .inl zr))) :: (za_a, .inl (T.1, (16, .inl za))) :: (zg_a, .inl (T.1, (2, .inl zg))) :: (XW T xa xc ++ PW T xB)) H → va_D A ((zr_a, .inl (T.1, (60, .inl zr))) :: (za_a, .inl (T.1, (16, .inl za))) :: (zg_a, .inl (T.1, (2, .inl zg))) :: (XW T xa xc ++ PW T xB)) → va_S A s.heap H locs → ∀ ls : Array Slot, lv_has ls 12 [(0, .ref xa.1), (2, .int x2), (3, .ref zr_a), (5, .ref zg_a), (7, .int x7)] → W p l e rmL_act s m args below meth c H locs 0 0 (MQ below (Qm (some (.int res.1)) D (fun W9 => ∃ (xc : XC) (xB : Nat → Option DB) (xo xh : Nat), XP xc xB xo xh res.2.2.2.2 ∧ WF res.2.2.2.2 ∧ W9 = ((zr_a, .inl (T.1, (60, .inl res.2.1))) :: (za_a, .inl (T.1, (16, .inl res.2.2.1))) :: (zg_a, .inl (T.1, (2, .inl res.2.2.2.1))) :: (XW T xa xc ++ PW T xB))) A) args s 22 264 A) (F0 m 38 ls [.int s0, .int s1]) := by
  obtain ⟨hx, hb, hml, hown, hts, hr, hlocks, hK, hN⟩ := id C
  intro s0 s1 x7 zr za zg E hf xc xB xo xh hX hw H locs hP hD hS ls hl
  unfold f_L_act_b38 at hf
  obtain ⟨q38, e_38, hf⟩ := bd_some hf
  refine callPi (va_runS (As := [.int s1, .int s0]) (rest := []) ⟨hx, hb, hml, hown, hts⟩ (c_L_low l D T s1 s0 q38 e_38) (va_cwS 2 hts gL_act_L_low rfl rfl rfl hdS_L_low ⟨Nat.le_of_ble_eq_true rfl, Nat.le_of_ble_eq_true rfl⟩) (preBS va_P0 hK hN) rfl rfl hl.1 rfl (lv_room (Nat.le_of_ble_eq_true rfl)) dL_act_38 ⟨Nat.le_of_ble_eq_true rfl, Nat.le_of_ble_eq_true rfl⟩) ?_
  refine lv_istore (lv' := [(8, .int q38), (0, .ref xa.1), (2, .int x2), (3, .ref zr_a), (5, .ref zg_a), (7, .int x7)]) hx hb dL_act_41 hl (by decide) rfl (fun ls hl => ?_)
  refine lv_iload_n hx hb dL_act_43 rfl (lv_at hl 2 rfl) ?_
  refine lv_bipush (v := (14 : Int32)) hx hb dL_act_44 (by decide) ?_
  refine lv_ishr hx hb dL_act_46 ?_
  refine lv_iconst (v := (3 : Int32)) hx hb dL_act_47 (by decide) ?_
  refine lv_iand hx hb dL_act_48 ?_
  refine lv_if_ne (tgt := 63) hx hb dL_act_49 (by decide) (fun c_49 => ?_) (fun c_49 => ?_)
  · have hf := it_neg c_49 hf
    refine lv_iconst (v := (4 : Int32)) hx hb dL_act_63 (by decide) ?_
    refine lv_iload hx hb dL_act_64 (lv_at hl 0 rfl) ?_
    refine lv_iconst (v := (4 : Int32)) hx hb dL_act_66 (by decide) ?_
    refine lv_idiv hx hb dL_act_67 (by decide) ?_
    refine lv_iconst (v := (1 : Int32)) hx hb dL_act_68 (by decide) ?_
    refine lv_iadd hx hb dL_act_69 ?_
    refine lv_imul hx hb dL_act_70 ?_
    refine lv_bipush (v := (16 : Int32)) hx hb dL_act_71 (by decide) ?_
    refine lv_irem hx hb dL_act_73 (by decide) ?_
    refine lv_iload_n hx hb dL_act_74 rfl (lv_at hl 2 rfl) ?_
    refine lv_iconst (v := (4 : Int32)) hx hb dL_act_75 (by decide) ?_
    refine lv_ishr hx hb dL_act_76 ?_
    refine lv_iconst (v := (4 : Int32)) hx hb dL_act_77 (by decide) ?_
    obtain ⟨q78, e_78, hf⟩ := bd_some hf
    refine callPi (va_runS (As := [.int (x2 >>> ((4 : Int32) &&& 31)), .int (4 : Int32)]) (rest := [.int (((4 : Int32) * ((q38 / (4 : Int32)) + (1 : Int32))) - ((4 : Int32) * ((q38 / (4 : Int32)) + (1 : Int32))) / (16 : Int32) * (16 : Int32))]) ⟨hx, hb, hml, hown, hts⟩ (c_L_low l D T (x2 >>> ((4 : Int32) &&& 31)) (4 : Int32) q78 e_78) (va_cwS 2 hts gL_act_L_low rfl rfl rfl hdS_L_low ⟨Nat.le_of_ble_eq_true rfl, Nat.le_of_ble_eq_true rfl⟩) (preBS va_P0 hK hN) rfl rfl hl.1 rfl (lv_room (Nat.le_of_ble_eq_true rfl)) dL_act_78 ⟨Nat.le_of_ble_eq_true rfl, Nat.le_of_ble_eq_true rfl⟩) ?_
    refine lv_iadd hx hb dL_act_81 ?_
    exact w_L_act_b82 hfl C hZB hAn hA _ _ _ _ _ _ _ hf _ _ _ _ hX hw _ _ hP hD hS _ (lv_sub hl [1, 2, 3, 4, 5, 0] rfl)
  · have hf := it_pos c_49 hf
    refine lv_iload_n hx hb dL_act_52 rfl (lv_at hl 2 rfl) ?_
    refine lv_iconst (v := (4 : Int32)) hx hb dL_act_53 (by decide) ?_
    refine lv_ishr hx hb dL_act_54 ?_
    refine lv_bipush (v := (16 : Int32)) hx hb dL_act_55 (by decide) ?_
    obtain ⟨q57, e_57, hf⟩ := bd_some hf
    refine callPi (va_runS (As := [.int (x2 >>> ((4 : Int32) &&& 31)), .int (16 : Int32)]) (rest := []) ⟨hx, hb, hml, hown, hts⟩ (c_L_low l D T (x2 >>> ((4 : Int32) &&& 31)) (16 : Int32) q57 e_57) (va_cwS 2 hts gL_act_L_low rfl rfl rfl hdS_L_low ⟨Nat.le_of_ble_eq_true rfl, Nat.le_of_ble_eq_true rfl⟩) (preBS va_P0 hK hN) rfl rfl hl.1 rfl (lv_room (Nat.le_of_ble_eq_true rfl)) dL_act_57 ⟨Nat.le_of_ble_eq_true rfl, Nat.le_of_ble_eq_true rfl⟩) ?_
    refine lv_goto (tgt := 82) hx hb dL_act_60 (by decide) ?_
    exact w_L_act_b82 hfl C hZB hAn hA _ _ _ _ _ _ _ hf _ _ _ _ hX hw _ _ hP hD hS _ (lv_sub hl [1, 2, 3, 4, 5, 0] rfl)
set_option maxHeartbeats 4000000 in
set_option maxRecDepth 100000 in
theorem w_L_act_b326 {p : Program} {l : Launch} {e : Env} {s : State} {m : MethodId} {args : Array Value} {below : List Frame} {meth : Method} {c : Code} {D : va_G} {T : TY} {zr_a za_a zg_a : Nat} {xa : XA} {x1 : Int32} {x2 : Int32} {res : Int32 × (Nat → Int32) × (Nat → Int32) × (Nat → Int32) × DR} (hfl : l.stackTraces = false) (C : CX p s m args meth c cL_act 12 RL wsL_act (some .boolean) D T) {n0 : Nat} (hZB : ZB n0 s) {A : Nat → Prop} (hAn : ∀ q, A q → n0 ≤ q) (hA : ∀ q, s.heap.size ≤ q → A q) : ∀ x8 : Int32, ∀ x9 : Int32, ∀ zr : Nat → Int32, ∀ za : Nat → Int32, ∀ zg : Nat → Int32, ∀ E : DR, f_L_act_b326 x1 x2 x8 x9 zr za zg E = some res → ∀ (xc : XC) (xB : Nat → Option DB) (xo xh : Nat), XP xc xB xo xh E → WF E → ∀ (H : Heap) (locs : List Loc), va_P D vwCl ((zr_a, .inl (T.1, (60, .inl zr))) :: (za_a, .inl (T.1, (16, .inl za))) :: (zg_a, .inl (T.1, (2, .inl zg))) :: (XW T xa xc ++ PW T xB)) H → va_D A ((zr_a, .inl (T.1, (60, .inl zr))) :: (za_a, .inl (T.1, (16, .inl za))) :: (zg_a, .inl (T.1, (2, .inl zg))) :: (XW T xa xc ++ PW T xB)) → va_S A s.heap H locs → ∀ ls : Array Slot, lv_has ls 12 [(0, .ref xa.1), (2, .int x2), (3, .ref zr_a), (8, .int x8), (9, .int x9)] → W p l e rmL_act s m args below meth c H locs 0 0 (MQ below (Qm (some (.int res.1)) D (fun W9 => ∃ (xc : XC) (xB : Nat → Option DB) (xo xh : Nat), XP xc xB xo xh res.2.2.2.2 ∧ WF res.2.2.2.2 ∧ W9 = ((zr_a, .inl (T.1, (60, .inl res.2.1))) :: (za_a, .inl (T.1, (16, .inl res.2.2.1))) :: (zg_a, .inl (T.1, (2, .inl res.2.2.2.1))) :: (XW T xa xc ++ PW T xB))) A) args s 22 264 A) (F0 m 326 ls []) := by
  obtain ⟨hx, hb, hml, hown, hts, hr, hlocks, hK, hN⟩ := id C
  intro x8 x9 zr za zg E hf xc xB xo xh hX hw H locs hP hD hS ls hl
  unfold f_L_act_b326 at hf
  refine lv_aload_n hx hb dL_act_326 rfl (lv_at hl 2 rfl) ?_
  refine lv_iconst (v := (3 : Int32)) hx hb dL_act_327 (by decide) ?_
  refine lv_iload hx hb dL_act_328 (lv_at hl 3 rfl) ?_
  refine lv_imul hx hb dL_act_330 ?_
  refine lv_iconst (v := (2 : Int32)) hx hb dL_act_331 (by decide) ?_
  refine lv_iadd hx hb dL_act_332 ?_
  refine lv_iload_n hx hb dL_act_333 rfl (lv_at hl 1 rfl) ?_
  refine lv_iconst (v := (5 : Int32)) hx hb dL_act_334 (by decide) ?_
  refine lv_ishr hx hb dL_act_335 ?_
  refine lv_bipush (v := (51 : Int32)) hx hb dL_act_336 (by decide) ?_
  obtain ⟨q338, e_338, hf⟩ := bd_some hf
  refine callPi (va_runS (As := [.int (x2 >>> ((5 : Int32) &&& 31)), .int (51 : Int32)]) (rest := [.int (((3 : Int32) * x8) + (2 : Int32)), .ref zr_a]) ⟨hx, hb, hml, hown, hts⟩ (c_L_low l D T (x2 >>> ((5 : Int32) &&& 31)) (51 : Int32) q338 e_338) (va_cwS 2 hts gL_act_L_low rfl rfl rfl hdS_L_low ⟨Nat.le_of_ble_eq_true rfl, Nat.le_of_ble_eq_true rfl⟩) (preBS va_P0 hK hN) rfl rfl hl.1 rfl (lv_room (Nat.le_of_ble_eq_true rfl)) dL_act_338 ⟨Nat.le_of_ble_eq_true rfl, Nat.le_of_ble_eq_true rfl⟩) ?_
  obtain ⟨g_341, hf⟩ := gd_some hf
  refine va_iast (D := D) hx hb hK hP hD hS 0 0 rfl rfl (gd_in g_341) dL_act_341 (fun H locs hP hD hS => ?_)
  have hP : va_P D vwCl ((zr_a, .inl (T.1, (60, .inl (upd zr (((3 : Int32) * x8) + (2 : Int32)).toNatClampNeg q338)))) :: (za_a, .inl (T.1, (16, .inl za))) :: (zg_a, .inl (T.1, (2, .inl zg))) :: (XW T xa xc ++ PW T xB)) H := hP
  have hD : va_D A ((zr_a, .inl (T.1, (60, .inl (upd zr (((3 : Int32) * x8) + (2 : Int32)).toNatClampNeg q338)))) :: (za_a, .inl (T.1, (16, .inl za))) :: (zg_a, .inl (T.1, (2, .inl zg))) :: (XW T xa xc ++ PW T xB)) := hD
  refine lv_aload_n hx hb dL_act_342 rfl (lv_at hl 0 rfl) ?_
  refine lv_iload hx hb dL_act_343 (lv_at hl 3 rfl) ?_
  refine lv_aload_n hx hb dL_act_345 rfl (lv_at hl 2 rfl) ?_
  refine lv_iconst (v := (3 : Int32)) hx hb dL_act_346 (by decide) ?_
  refine lv_iload hx hb dL_act_347 (lv_at hl 3 rfl) ?_
  refine lv_imul hx hb dL_act_349 ?_
  refine lv_iconst (v := (2 : Int32)) hx hb dL_act_350 (by decide) ?_
  refine lv_iadd hx hb dL_act_351 ?_
  obtain ⟨g_352, hf⟩ := gd_some hf
  refine va_iald (D := D) hx hb hK hP 0 0 rfl rfl (gd_in g_352) dL_act_352 ?_
  obtain ⟨q353, e_353, hf⟩ := bd_some hf
  refine k_widen hfl hZB hAn ⟨by decide, by decide⟩ hK hN hA (a := xa) (R := [(zr_a, .inl (T.1, (60, .inl (upd zr (((3 : Int32) * x8) + (2 : Int32)).toNatClampNeg q338)))), (za_a, .inl (T.1, (16, .inl za))), (zg_a, .inl (T.1, (2, .inl zg)))]) hX hw (v := q353.1) (E' := q353.2) e_353 (fun H locs cells slots rm mc ms Pc Qc free hMt hrc hrs hR hpre hroom => vx_runSW (n := 3) (As := [.ref xa.1, .int x8, .int ((upd zr (((3 : Int32) * x8) + (2 : Int32)).toNatClampNeg q338) (((3 : Int32) * x8) + (2 : Int32)).toNatClampNeg)]) (rest := []) ⟨hx, hb, hml, hown, hts⟩ hMt (vx_cwSW 3 hts gL_act_L_widen rfl hrc hrs hdS_L_widenA hR) hpre rfl rfl hl.1 rfl (lv_room (Nat.le_of_ble_eq_true rfl)) dL_act_353 hroom) ⟨hP, hD⟩ hS ⟨Nat.le_of_ble_eq_true rfl, Nat.le_of_ble_eq_true rfl⟩ (fun xc xB xo xh H locs hX hw hW hS => ?_)
  obtain ⟨hP, hD⟩ := hW
  have hP : va_P D vwCl ((zr_a, .inl (T.1, (60, .inl (upd zr (((3 : Int32) * x8) + (2 : Int32)).toNatClampNeg q338)))) :: (za_a, .inl (T.1, (16, .inl za))) :: (zg_a, .inl (T.1, (2, .inl zg))) :: (XW T xa xc ++ PW T xB)) H := hP
  have hD : va_D A ((zr_a, .inl (T.1, (60, .inl (upd zr (((3 : Int32) * x8) + (2 : Int32)).toNatClampNeg q338)))) :: (za_a, .inl (T.1, (16, .inl za))) :: (zg_a, .inl (T.1, (2, .inl zg))) :: (XW T xa xc ++ PW T xB)) := hD
  refine W.widen (k := 6) (n := 88) (by decide) (by decide) ?_
  refine lv_iload hx hb dL_act_356 (lv_at hl 4 rfl) ?_
  refine lv_icmp_ne (tgt := 378) hx hb dL_act_358 (by decide) (fun c_358 => ?_) (fun c_358 => ?_)
  · have hf := it_neg c_358 hf
    refine lv_iconst (v := (0 : Int32)) hx hb dL_act_378 (by decide) ?_
    obtain rfl := Option.some.inj hf
    refine W.widen (k := 22) (n := 264) (by decide) (by decide) ?_
    exact W.zret hx hb hr (by decide) (fun t ht hW => ⟨rfl, ⟨_, ⟨_, _, _, _, hX, hw, rfl⟩, by rw [ht]; exact hP, hD⟩, hS.F ht⟩) hS.2.2 dL_act_379 hlocks
  · have hf := it_pos c_358 hf
    refine lv_aload_n hx hb dL_act_361 rfl (lv_at hl 0 rfl) ?_
    refine lv_iload hx hb dL_act_362 (lv_at hl 3 rfl) ?_
    refine lv_bipush (v := (51 : Int32)) hx hb dL_act_364 (by decide) ?_
    obtain ⟨q366, e_366, hf⟩ := bd_some hf
    refine k_widen hfl hZB hAn ⟨by decide, by decide⟩ hK hN hA (a := xa) (R := [(zr_a, .inl (T.1, (60, .inl (upd zr (((3 : Int32) * x8) + (2 : Int32)).toNatClampNeg q338)))), (za_a, .inl (T.1, (16, .inl za))), (zg_a, .inl (T.1, (2, .inl zg)))]) hX hw (v := q366.1) (E' := q366.2) e_366 (fun H locs cells slots rm mc ms Pc Qc free hMt hrc hrs hR hpre hroom => vx_runSW (n := 3) (As := [.ref xa.1, .int x8, .int (51 : Int32)]) (rest := []) ⟨hx, hb, hml, hown, hts⟩ hMt (vx_cwSW 3 hts gL_act_L_widen rfl hrc hrs hdS_L_widenA hR) hpre rfl rfl hl.1 rfl (lv_room (Nat.le_of_ble_eq_true rfl)) dL_act_366 hroom) ⟨hP, hD⟩ hS ⟨Nat.le_of_ble_eq_true rfl, Nat.le_of_ble_eq_true rfl⟩ (fun xc xB xo xh H locs hX hw hW hS => ?_)
    obtain ⟨hP, hD⟩ := hW
    have hP : va_P D vwCl ((zr_a, .inl (T.1, (60, .inl (upd zr (((3 : Int32) * x8) + (2 : Int32)).toNatClampNeg q338)))) :: (za_a, .inl (T.1, (16, .inl za))) :: (zg_a, .inl (T.1, (2, .inl zg))) :: (XW T xa xc ++ PW T xB)) H := hP
    have hD : va_D A ((zr_a, .inl (T.1, (60, .inl (upd zr (((3 : Int32) * x8) + (2 : Int32)).toNatClampNeg q338)))) :: (za_a, .inl (T.1, (16, .inl za))) :: (zg_a, .inl (T.1, (2, .inl zg))) :: (XW T xa xc ++ PW T xB)) := hD
    refine W.widen (k := 12) (n := 176) (by decide) (by decide) ?_
    refine lv_bipush (v := (-32 : Int32)) hx hb dL_act_369 (by decide) ?_
    refine lv_icmp_ne (tgt := 378) hx hb dL_act_371 (by decide) (fun c_371 => ?_) (fun c_371 => ?_)
    · have hf := it_neg c_371 hf
      refine lv_iconst (v := (0 : Int32)) hx hb dL_act_378 (by decide) ?_
      obtain rfl := Option.some.inj hf
      refine W.widen (k := 22) (n := 264) (by decide) (by decide) ?_
      exact W.zret hx hb hr (by decide) (fun t ht hW => ⟨rfl, ⟨_, ⟨_, _, _, _, hX, hw, rfl⟩, by rw [ht]; exact hP, hD⟩, hS.F ht⟩) hS.2.2 dL_act_379 hlocks
    · have hf := it_pos c_371 hf
      refine lv_iconst (v := (1 : Int32)) hx hb dL_act_374 (by decide) ?_
      refine lv_goto (tgt := 379) hx hb dL_act_375 (by decide) ?_
      obtain rfl := Option.some.inj hf
      refine W.widen (k := 22) (n := 264) (by decide) (by decide) ?_
      exact W.zret hx hb hr (by decide) (fun t ht hW => ⟨rfl, ⟨_, ⟨_, _, _, _, hX, hw, rfl⟩, by rw [ht]; exact hP, hD⟩, hS.F ht⟩) hS.2.2 dL_act_379 hlocks
set_option maxHeartbeats 4000000 in
set_option maxRecDepth 100000 in
theorem w_L_act_b394 {p : Program} {l : Launch} {e : Env} {s : State} {m : MethodId} {args : Array Value} {below : List Frame} {meth : Method} {c : Code} {D : va_G} {T : TY} {zr_a za_a zg_a : Nat} {xa : XA} {x1 : Int32} {x2 : Int32} {res : Int32 × (Nat → Int32) × (Nat → Int32) × (Nat → Int32) × DR} (hfl : l.stackTraces = false) (C : CX p s m args meth c cL_act 12 RL wsL_act (some .boolean) D T) {n0 : Nat} (hZB : ZB n0 s) {A : Nat → Prop} (hAn : ∀ q, A q → n0 ≤ q) (hA : ∀ q, s.heap.size ≤ q → A q) : ∀ F : Nat, ∀ x8 : Int32, ∀ x9 : Int32, ∀ x10 : Int32, ∀ zr : Nat → Int32, ∀ za : Nat → Int32, ∀ zg : Nat → Int32, ∀ E : DR, f_L_act_b394 x1 x2 F x8 x9 x10 zr za zg E = some res → ∀ (xc : XC) (xB : Nat → Option DB) (xo xh : Nat), XP xc xB xo xh E → WF E → ∀ (H : Heap) (locs : List Loc), va_P D vwCl ((zr_a, .inl (T.1, (60, .inl zr))) :: (za_a, .inl (T.1, (16, .inl za))) :: (zg_a, .inl (T.1, (2, .inl zg))) :: (XW T xa xc ++ PW T xB)) H → va_D A ((zr_a, .inl (T.1, (60, .inl zr))) :: (za_a, .inl (T.1, (16, .inl za))) :: (zg_a, .inl (T.1, (2, .inl zg))) :: (XW T xa xc ++ PW T xB)) → va_S A s.heap H locs → ∀ ls : Array Slot, lv_has ls 12 [(0, .ref xa.1), (3, .ref zr_a), (5, .ref zg_a), (8, .int x8), (9, .int x9), (10, .int x10)] → W p l e rmL_act s m args below meth c H locs 0 0 (MQ below (Qm (some (.int res.1)) D (fun W9 => ∃ (xc : XC) (xB : Nat → Option DB) (xo xh : Nat), XP xc xB xo xh res.2.2.2.2 ∧ WF res.2.2.2.2 ∧ W9 = ((zr_a, .inl (T.1, (60, .inl res.2.1))) :: (za_a, .inl (T.1, (16, .inl res.2.2.1))) :: (zg_a, .inl (T.1, (2, .inl res.2.2.2.1))) :: (XW T xa xc ++ PW T xB))) A) args s 22 264 A) (F0 m 394 ls []) := by
  obtain ⟨hx, hb, hml, hown, hts, hr, hlocks, hK, hN⟩ := id C
  intro F
  induction F with
  | zero => intro _ _ _ _ _ _ _ hf; cases hf
  | succ F ih =>
    intro x8 x9 x10 zr za zg E hf xc xB xo xh hX hw H locs hP hD hS ls hl
    unfold f_L_act_b394 at hf
    refine lv_iload hx hb dL_act_394 (lv_at hl 5 rfl) ?_
    refine lv_iconst (v := (3 : Int32)) hx hb dL_act_396 (by decide) ?_
    refine lv_aload hx hb dL_act_397 (lv_at hl 2 rfl) ?_
    refine lv_iconst (v := (0 : Int32)) hx hb dL_act_399 (by decide) ?_
    refine va_iald (D := D) hx hb hK hP 2 0 rfl rfl (gd_in (by decide)) dL_act_400 ?_
    refine lv_imul hx hb dL_act_401 ?_
    refine lv_icmp_ge (tgt := 421) hx hb dL_act_402 (by decide) (fun c_402 => ?_) (fun c_402 => ?_)
    · have hf := it_pos c_402 hf
      refine lv_aload_n hx hb dL_act_421 rfl (lv_at hl 0 rfl) ?_
      refine lv_iload hx hb dL_act_422 (lv_at hl 3 rfl) ?_
      obtain ⟨q424, e_424, hf⟩ := bd_some hf
      refine k_remove hfl hZB hAn ⟨by decide, by decide⟩ hK hN hA (a := xa) (R := [(zr_a, .inl (T.1, (60, .inl zr))), (za_a, .inl (T.1, (16, .inl za))), (zg_a, .inl (T.1, (2, .inl zg)))]) hX hw (v := q424.1) (E' := q424.2) e_424 (fun H locs cells slots rm mc ms Pc Qc free hMt hrc hrs hR hpre hroom => vx_runSW (n := 2) (As := [.ref xa.1, .int x8]) (rest := []) ⟨hx, hb, hml, hown, hts⟩ hMt (vx_cwSW 2 hts gL_act_L_remove rfl hrc hrs hdS_L_removeA hR) hpre rfl rfl hl.1 rfl (lv_room (Nat.le_of_ble_eq_true rfl)) dL_act_424 hroom) ⟨hP, hD⟩ hS ⟨Nat.le_of_ble_eq_true rfl, Nat.le_of_ble_eq_true rfl⟩ (fun xc xB xo xh H locs hX hw hW hS => ?_)
      obtain ⟨hP, hD⟩ := hW
      have hP : va_P D vwCl ((zr_a, .inl (T.1, (60, .inl zr))) :: (za_a, .inl (T.1, (16, .inl za))) :: (zg_a, .inl (T.1, (2, .inl zg))) :: (XW T xa xc ++ PW T xB)) H := hP
      have hD : va_D A ((zr_a, .inl (T.1, (60, .inl zr))) :: (za_a, .inl (T.1, (16, .inl za))) :: (zg_a, .inl (T.1, (2, .inl zg))) :: (XW T xa xc ++ PW T xB)) := hD
      refine W.widen (k := 6) (n := 88) (by decide) (by decide) ?_
      refine lv_iload hx hb dL_act_427 (lv_at hl 4 rfl) ?_
      refine lv_icmp_ne (tgt := 449) hx hb dL_act_429 (by decide) (fun c_429 => ?_) (fun c_429 => ?_)
      · have hf := it_neg c_429 hf
        refine lv_iconst (v := (0 : Int32)) hx hb dL_act_449 (by decide) ?_
        obtain rfl := Option.some.inj hf
        refine W.widen (k := 22) (n := 264) (by decide) (by decide) ?_
        exact W.zret hx hb hr (by decide) (fun t ht hW => ⟨rfl, ⟨_, ⟨_, _, _, _, hX, hw, rfl⟩, by rw [ht]; exact hP, hD⟩, hS.F ht⟩) hS.2.2 dL_act_450 hlocks
      · have hf := it_pos c_429 hf
        refine lv_aload_n hx hb dL_act_432 rfl (lv_at hl 0 rfl) ?_
        refine lv_aload hx hb dL_act_433 (lv_at hl 2 rfl) ?_
        refine lv_iconst (v := (0 : Int32)) hx hb dL_act_435 (by decide) ?_
        refine va_iald (D := D) hx hb hK hP 2 0 rfl rfl (gd_in (by decide)) dL_act_436 ?_
        obtain ⟨q437, e_437, hf⟩ := bd_some hf
        refine k_remove hfl hZB hAn ⟨by decide, by decide⟩ hK hN hA (a := xa) (R := [(zr_a, .inl (T.1, (60, .inl zr))), (za_a, .inl (T.1, (16, .inl za))), (zg_a, .inl (T.1, (2, .inl zg)))]) hX hw (v := q437.1) (E' := q437.2) e_437 (fun H locs cells slots rm mc ms Pc Qc free hMt hrc hrs hR hpre hroom => vx_runSW (n := 2) (As := [.ref xa.1, .int (zg (0 : Int32).toNatClampNeg)]) (rest := []) ⟨hx, hb, hml, hown, hts⟩ hMt (vx_cwSW 2 hts gL_act_L_remove rfl hrc hrs hdS_L_removeA hR) hpre rfl rfl hl.1 rfl (lv_room (Nat.le_of_ble_eq_true rfl)) dL_act_437 hroom) ⟨hP, hD⟩ hS ⟨Nat.le_of_ble_eq_true rfl, Nat.le_of_ble_eq_true rfl⟩ (fun xc xB xo xh H locs hX hw hW hS => ?_)
        obtain ⟨hP, hD⟩ := hW
        have hP : va_P D vwCl ((zr_a, .inl (T.1, (60, .inl zr))) :: (za_a, .inl (T.1, (16, .inl za))) :: (zg_a, .inl (T.1, (2, .inl zg))) :: (XW T xa xc ++ PW T xB)) H := hP
        have hD : va_D A ((zr_a, .inl (T.1, (60, .inl zr))) :: (za_a, .inl (T.1, (16, .inl za))) :: (zg_a, .inl (T.1, (2, .inl zg))) :: (XW T xa xc ++ PW T xB)) := hD
        refine W.widen (k := 12) (n := 176) (by decide) (by decide) ?_
        refine lv_bipush (v := (-31 : Int32)) hx hb dL_act_440 (by decide) ?_
        refine lv_icmp_ne (tgt := 449) hx hb dL_act_442 (by decide) (fun c_442 => ?_) (fun c_442 => ?_)
        · have hf := it_neg c_442 hf
          refine lv_iconst (v := (0 : Int32)) hx hb dL_act_449 (by decide) ?_
          obtain rfl := Option.some.inj hf
          refine W.widen (k := 22) (n := 264) (by decide) (by decide) ?_
          exact W.zret hx hb hr (by decide) (fun t ht hW => ⟨rfl, ⟨_, ⟨_, _, _, _, hX, hw, rfl⟩, by rw [ht]; exact hP, hD⟩, hS.F ht⟩) hS.2.2 dL_act_450 hlocks
        · have hf := it_pos c_442 hf
          refine lv_iconst (v := (1 : Int32)) hx hb dL_act_445 (by decide) ?_
          refine lv_goto (tgt := 450) hx hb dL_act_446 (by decide) ?_
          obtain rfl := Option.some.inj hf
          refine W.widen (k := 22) (n := 264) (by decide) (by decide) ?_
          exact W.zret hx hb hr (by decide) (fun t ht hW => ⟨rfl, ⟨_, ⟨_, _, _, _, hX, hw, rfl⟩, by rw [ht]; exact hP, hD⟩, hS.F ht⟩) hS.2.2 dL_act_450 hlocks
    · have hf := it_neg c_402 hf
      refine lv_aload_n hx hb dL_act_405 rfl (lv_at hl 1 rfl) ?_
      refine lv_iload hx hb dL_act_406 (lv_at hl 5 rfl) ?_
      refine lv_aload_n hx hb dL_act_408 rfl (lv_at hl 1 rfl) ?_
      refine lv_iload hx hb dL_act_409 (lv_at hl 5 rfl) ?_
      refine lv_iconst (v := (3 : Int32)) hx hb dL_act_411 (by decide) ?_
      refine lv_iadd hx hb dL_act_412 ?_
      obtain ⟨g_413, hf⟩ := gd_some hf
      refine va_iald (D := D) hx hb hK hP 0 0 rfl rfl (gd_in g_413) dL_act_413 ?_
      obtain ⟨v414, e_414, hf⟩ := nm_some hf
      refine lv_nmi e_414 ?_
      obtain ⟨g_414, hf⟩ := gd_some hf
      refine va_iast (D := D) hx hb hK hP hD hS 0 0 rfl rfl (gd_in g_414) dL_act_414 (fun H locs hP hD hS => ?_)
      have hP : va_P D vwCl ((zr_a, .inl (T.1, (60, .inl (upd zr x10.toNatClampNeg v414)))) :: (za_a, .inl (T.1, (16, .inl za))) :: (zg_a, .inl (T.1, (2, .inl zg))) :: (XW T xa xc ++ PW T xB)) H := hP
      have hD : va_D A ((zr_a, .inl (T.1, (60, .inl (upd zr x10.toNatClampNeg v414)))) :: (za_a, .inl (T.1, (16, .inl za))) :: (zg_a, .inl (T.1, (2, .inl zg))) :: (XW T xa xc ++ PW T xB)) := hD
      obtain ⟨v415, e_415, hf⟩ := nm_some hf
      refine lv_iinc (v := v415) (lv' := [(10, .int v415), (0, .ref xa.1), (3, .ref zr_a), (5, .ref zg_a), (8, .int x8), (9, .int x9)]) hx hb dL_act_415 hl (k := 5) rfl (by rw [e_415]; rfl) (by decide) rfl (fun ls hl => ?_)
      refine lv_goto (tgt := 394) hx hb dL_act_418 (by decide) ?_
      exact ih _ _ _ _ _ _ _ hf _ _ _ _ hX hw _ _ hP hD hS _ (lv_sub hl [1, 2, 3, 4, 5, 0] rfl)
set_option maxHeartbeats 4000000 in
set_option maxRecDepth 100000 in
theorem w_L_act_b0 {p : Program} {l : Launch} {e : Env} {s : State} {m : MethodId} {args : Array Value} {below : List Frame} {meth : Method} {c : Code} {D : va_G} {T : TY} {zr_a za_a zg_a : Nat} {xa : XA} {x1 : Int32} {x2 : Int32} {res : Int32 × (Nat → Int32) × (Nat → Int32) × (Nat → Int32) × DR} (hfl : l.stackTraces = false) (C : CX p s m args meth c cL_act 12 RL wsL_act (some .boolean) D T) {n0 : Nat} (hZB : ZB n0 s) {A : Nat → Prop} (hAn : ∀ q, A q → n0 ≤ q) (hA : ∀ q, s.heap.size ≤ q → A q) : ∀ zr : Nat → Int32, ∀ za : Nat → Int32, ∀ zg : Nat → Int32, ∀ E : DR, f_L_act x1 x2 zr za zg E = some res → ∀ (xc : XC) (xB : Nat → Option DB) (xo xh : Nat), XP xc xB xo xh E → WF E → ∀ (H : Heap) (locs : List Loc), va_P D vwCl ((zr_a, .inl (T.1, (60, .inl zr))) :: (za_a, .inl (T.1, (16, .inl za))) :: (zg_a, .inl (T.1, (2, .inl zg))) :: (XW T xa xc ++ PW T xB)) H → va_D A ((zr_a, .inl (T.1, (60, .inl zr))) :: (za_a, .inl (T.1, (16, .inl za))) :: (zg_a, .inl (T.1, (2, .inl zg))) :: (XW T xa xc ++ PW T xB)) → va_S A s.heap H locs → ∀ ls : Array Slot, lv_has ls 12 [(0, .ref xa.1), (1, .int x1), (2, .int x2), (3, .ref zr_a), (4, .ref za_a), (5, .ref zg_a)] → W p l e rmL_act s m args below meth c H locs 0 0 (MQ below (Qm (some (.int res.1)) D (fun W9 => ∃ (xc : XC) (xB : Nat → Option DB) (xo xh : Nat), XP xc xB xo xh res.2.2.2.2 ∧ WF res.2.2.2.2 ∧ W9 = ((zr_a, .inl (T.1, (60, .inl res.2.1))) :: (za_a, .inl (T.1, (16, .inl res.2.2.1))) :: (zg_a, .inl (T.1, (2, .inl res.2.2.2.1))) :: (XW T xa xc ++ PW T xB))) A) args s 22 264 A) (F0 m 0 ls []) := by
  obtain ⟨hx, hb, hml, hown, hts, hr, hlocks, hK, hN⟩ := id C
  intro zr za zg E hf xc xB xo xh hX hw H locs hP hD hS ls hl
  unfold f_L_act at hf
  refine lv_iload_n hx hb dL_act_0 rfl (lv_at hl 1 rfl) ?_
  refine lv_bipush (v := (14 : Int32)) hx hb dL_act_1 (by decide) ?_
  obtain ⟨q3, e_3, hf⟩ := bd_some hf
  refine callPi (va_runS (As := [.int x1, .int (14 : Int32)]) (rest := []) ⟨hx, hb, hml, hown, hts⟩ (c_L_low l D T x1 (14 : Int32) q3 e_3) (va_cwS 2 hts gL_act_L_low rfl rfl rfl hdS_L_low ⟨Nat.le_of_ble_eq_true rfl, Nat.le_of_ble_eq_true rfl⟩) (preBS va_P0 hK hN) rfl rfl hl.1 rfl (lv_room (Nat.le_of_ble_eq_true rfl)) dL_act_3 ⟨Nat.le_of_ble_eq_true rfl, Nat.le_of_ble_eq_true rfl⟩) ?_
  refine lv_istore (lv' := [(6, .int q3), (0, .ref xa.1), (1, .int x1), (2, .int x2), (3, .ref zr_a), (4, .ref za_a), (5, .ref zg_a)]) hx hb dL_act_6 hl (by decide) rfl (fun ls hl => ?_)
  refine lv_aload hx hb dL_act_8 (lv_at hl 6 rfl) ?_
  refine lv_iconst (v := (0 : Int32)) hx hb dL_act_10 (by decide) ?_
  refine va_iald (D := D) hx hb hK hP 2 0 rfl rfl (gd_in (by decide)) dL_act_11 ?_
  obtain ⟨v12, e_12, hf⟩ := nm_some hf
  refine lv_nmi e_12 ?_
  refine lv_istore (lv' := [(7, .int v12), (6, .int q3), (0, .ref xa.1), (1, .int x1), (2, .int x2), (3, .ref zr_a), (4, .ref za_a), (5, .ref zg_a)]) hx hb dL_act_12 hl (by decide) rfl (fun ls hl => ?_)
  refine lv_iload hx hb dL_act_14 (lv_at hl 1 rfl) ?_
  refine lv_iconst (v := (5 : Int32)) hx hb dL_act_16 (by decide) ?_
  refine lv_icmp_ge (tgt := 256) hx hb dL_act_17 (by decide) (fun c_17 => ?_) (fun c_17 => ?_)
  · have hf := it_pos c_17 hf
    refine lv_iload hx hb dL_act_256 (lv_at hl 1 rfl) ?_
    refine lv_bipush (v := (7 : Int32)) hx hb dL_act_258 (by decide) ?_
    refine lv_icmp_ge (tgt := 451) hx hb dL_act_260 (by decide) (fun c_260 => ?_) (fun c_260 => ?_)
    · have hf := it_pos c_260 hf
      refine lv_iload hx hb dL_act_451 (lv_at hl 1 rfl) ?_
      refine lv_bipush (v := (9 : Int32)) hx hb dL_act_453 (by decide) ?_
      refine lv_icmp_ge (tgt := 605) hx hb dL_act_455 (by decide) (fun c_455 => ?_) (fun c_455 => ?_)
      · have hf := it_pos c_455 hf
        refine lv_iload hx hb dL_act_605 (lv_at hl 1 rfl) ?_
        refine lv_bipush (v := (9 : Int32)) hx hb dL_act_607 (by decide) ?_
        refine lv_icmp_ne (tgt := 641) hx hb dL_act_609 (by decide) (fun c_609 => ?_) (fun c_609 => ?_)
        · have hf := it_neg c_609 hf
          refine lv_iload hx hb dL_act_641 (lv_at hl 1 rfl) ?_
          refine lv_bipush (v := (10 : Int32)) hx hb dL_act_643 (by decide) ?_
          refine lv_icmp_ne (tgt := 776) hx hb dL_act_645 (by decide) (fun c_645 => ?_) (fun c_645 => ?_)
          · have hf := it_neg c_645 hf
            refine lv_iload hx hb dL_act_776 (lv_at hl 1 rfl) ?_
            refine lv_bipush (v := (13 : Int32)) hx hb dL_act_778 (by decide) ?_
            refine lv_icmp_ge (tgt := 850) hx hb dL_act_780 (by decide) (fun c_780 => ?_) (fun c_780 => ?_)
            · have hf := it_pos c_780 hf
              refine lv_aload_n hx hb dL_act_850 rfl (lv_at hl 5 rfl) ?_
              refine lv_iload hx hb dL_act_851 (lv_at hl 0 rfl) ?_
              obtain ⟨q853, e_853, hf⟩ := bd_some hf
              refine callLi (wr := ((za_a, .inl (T.1, (16, .inl za))) :: (zg_a, .inl (T.1, (2, .inl zg))) :: (XW T xa xc ++ PW T xB))) (va_runS (As := [.ref zr_a, .int v12]) (rest := []) ⟨hx, hb, hml, hown, hts⟩ (c_L_settled l D T zr_a zr v12 q853 e_853 H.size) (va_cwS 2 hts gL_act_L_settled rfl rfl rfl hdS_L_settled ⟨Nat.le_of_ble_eq_true rfl, Nat.le_of_ble_eq_true rfl⟩) (preMS (hP.sub [0] rfl) (hD.sub [0] rfl rfl) hK hN) rfl rfl hl.1 rfl (lv_room (Nat.le_of_ble_eq_true rfl)) dL_act_853 ⟨Nat.le_of_ble_eq_true rfl, Nat.le_of_ble_eq_true rfl⟩) ⟨hP, hD⟩ hS hA (fun W9 H locs hw9 hW hS => ?_)
              subst hw9
              obtain ⟨hP, hD⟩ := hW
              have hP : va_P D vwCl ((zr_a, .inl (T.1, (60, .inl q853.2))) :: (za_a, .inl (T.1, (16, .inl za))) :: (zg_a, .inl (T.1, (2, .inl zg))) :: (XW T xa xc ++ PW T xB)) H := hP
              have hD : va_D A ((zr_a, .inl (T.1, (60, .inl q853.2))) :: (za_a, .inl (T.1, (16, .inl za))) :: (zg_a, .inl (T.1, (2, .inl zg))) :: (XW T xa xc ++ PW T xB)) := hD
              refine lv_istore (lv' := [(8, .int q853.1), (7, .int v12), (6, .int q3), (0, .ref xa.1), (1, .int x1), (2, .int x2), (3, .ref zr_a), (4, .ref za_a), (5, .ref zg_a)]) hx hb dL_act_856 hl (by decide) rfl (fun ls hl => ?_)
              refine lv_aload hx hb dL_act_858 (lv_at hl 8 rfl) ?_
              refine lv_iconst (v := (1 : Int32)) hx hb dL_act_860 (by decide) ?_
              refine lv_dup2_11 hx hb dL_act_861 rfl rfl ?_
              refine va_iald (D := D) hx hb hK hP 2 0 rfl rfl (gd_in (by decide)) dL_act_862 ?_
              refine lv_iload hx hb dL_act_863 (lv_at hl 0 rfl) ?_
              refine lv_iadd hx hb dL_act_865 ?_
              obtain ⟨v866, e_866, hf⟩ := nm_some hf
              refine lv_nmi e_866 ?_
              refine va_iast (D := D) hx hb hK hP hD hS 2 0 rfl rfl (gd_in (by decide)) dL_act_866 (fun H locs hP hD hS => ?_)
              have hP : va_P D vwCl ((zr_a, .inl (T.1, (60, .inl q853.2))) :: (za_a, .inl (T.1, (16, .inl za))) :: (zg_a, .inl (T.1, (2, .inl (upd zg (1 : Int32).toNatClampNeg v866)))) :: (XW T xa xc ++ PW T xB)) H := hP
              have hD : va_D A ((zr_a, .inl (T.1, (60, .inl q853.2))) :: (za_a, .inl (T.1, (16, .inl za))) :: (zg_a, .inl (T.1, (2, .inl (upd zg (1 : Int32).toNatClampNeg v866)))) :: (XW T xa xc ++ PW T xB)) := hD
              refine lv_aload_n hx hb dL_act_867 rfl (lv_at hl 3 rfl) ?_
              obtain ⟨q868, e_868, hf⟩ := bd_some hf
              refine k_ifSettled ⟨by decide, by decide⟩ hK hN hA (a := xa) (R := [(zr_a, .inl (T.1, (60, .inl q853.2))), (za_a, .inl (T.1, (16, .inl za))), (zg_a, .inl (T.1, (2, .inl (upd zg (1 : Int32).toNatClampNeg v866))))]) hX hw e_868 (fun H locs cells slots rm mc ms Pc Qc free hMt hrc hrs hR hpre hroom => va_runV (n := 0) (C := RX6) (b := xa.1) (As := []) (rest := []) ⟨hx, hb, hml, hown, hts⟩ hMt (cwV 0 hts gL_act_X6_ifSettled rfl hrc hrs hdV_X6_ifSettled hR) hpre rfl rfl hl.1 rfl (lv_room (Nat.le_of_ble_eq_true rfl)) dL_act_868 hroom) ⟨hP, hD⟩ hS ⟨Nat.le_of_ble_eq_true rfl, Nat.le_of_ble_eq_true rfl⟩ (fun xc H locs hX hW hS => ?_)
              obtain ⟨hP, hD⟩ := hW
              have hP : va_P D vwCl ((zr_a, .inl (T.1, (60, .inl q853.2))) :: (za_a, .inl (T.1, (16, .inl za))) :: (zg_a, .inl (T.1, (2, .inl (upd zg (1 : Int32).toNatClampNeg v866)))) :: (XW T xa xc ++ PW T xB)) H := hP
              have hD : va_D A ((zr_a, .inl (T.1, (60, .inl q853.2))) :: (za_a, .inl (T.1, (16, .inl za))) :: (zg_a, .inl (T.1, (2, .inl (upd zg (1 : Int32).toNatClampNeg v866)))) :: (XW T xa xc ++ PW T xB)) := hD
              refine lv_iload hx hb dL_act_871 (lv_at hl 0 rfl) ?_
              refine lv_icmp_ne (tgt := 904) hx hb dL_act_873 (by decide) (fun c_873 => ?_) (fun c_873 => ?_)
              · have hf := it_neg c_873 hf
                refine lv_iconst (v := (0 : Int32)) hx hb dL_act_904 (by decide) ?_
                obtain rfl := Option.some.inj hf
                refine W.widen (k := 22) (n := 264) (by decide) (by decide) ?_
                exact W.zret hx hb hr (by decide) (fun t ht hW => ⟨rfl, ⟨_, ⟨_, _, _, _, hX, hw, rfl⟩, by rw [ht]; exact hP, hD⟩, hS.F ht⟩) hS.2.2 dL_act_905 hlocks
              · have hf := it_pos c_873 hf
                refine lv_aload_n hx hb dL_act_876 rfl (lv_at hl 3 rfl) ?_
                obtain ⟨q877, e_877, hf⟩ := bd_some hf
                refine k_settle ⟨by decide, by decide⟩ hK hN hA (a := xa) (R := [(zr_a, .inl (T.1, (60, .inl q853.2))), (za_a, .inl (T.1, (16, .inl za))), (zg_a, .inl (T.1, (2, .inl (upd zg (1 : Int32).toNatClampNeg v866))))]) hX hw (v := q877.1) (E' := q877.2) e_877 (fun H locs cells slots rm mc ms Pc Qc free hMt hrc hrs hR hpre hroom => va_runV (n := 0) (C := RX6) (b := xa.1) (As := []) (rest := []) ⟨hx, hb, hml, hown, hts⟩ hMt (cwV 0 hts gL_act_X6_settle rfl hrc hrs hdV_X6_settleA hR) hpre rfl rfl hl.1 rfl (lv_room (Nat.le_of_ble_eq_true rfl)) dL_act_877 hroom) ⟨hP, hD⟩ hS ⟨Nat.le_of_ble_eq_true rfl, Nat.le_of_ble_eq_true rfl⟩ (fun xc xB xo xh H locs hX hw hW hS => ?_)
                obtain ⟨hP, hD⟩ := hW
                have hP : va_P D vwCl ((zr_a, .inl (T.1, (60, .inl q853.2))) :: (za_a, .inl (T.1, (16, .inl za))) :: (zg_a, .inl (T.1, (2, .inl (upd zg (1 : Int32).toNatClampNeg v866)))) :: (XW T xa xc ++ PW T xB)) H := hP
                have hD : va_D A ((zr_a, .inl (T.1, (60, .inl q853.2))) :: (za_a, .inl (T.1, (16, .inl za))) :: (zg_a, .inl (T.1, (2, .inl (upd zg (1 : Int32).toNatClampNeg v866)))) :: (XW T xa xc ++ PW T xB)) := hD
                refine W.widen (k := 6) (n := 88) (by decide) (by decide) ?_
                refine lv_iload hx hb dL_act_880 (lv_at hl 0 rfl) ?_
                refine lv_icmp_ne (tgt := 904) hx hb dL_act_882 (by decide) (fun c_882 => ?_) (fun c_882 => ?_)
                · have hf := it_neg c_882 hf
                  refine lv_iconst (v := (0 : Int32)) hx hb dL_act_904 (by decide) ?_
                  obtain rfl := Option.some.inj hf
                  refine W.widen (k := 22) (n := 264) (by decide) (by decide) ?_
                  exact W.zret hx hb hr (by decide) (fun t ht hW => ⟨rfl, ⟨_, ⟨_, _, _, _, hX, hw, rfl⟩, by rw [ht]; exact hP, hD⟩, hS.F ht⟩) hS.2.2 dL_act_905 hlocks
                · have hf := it_pos c_882 hf
                  refine lv_aload_n hx hb dL_act_885 rfl (lv_at hl 3 rfl) ?_
                  obtain ⟨q886, e_886, hf⟩ := bd_some hf
                  refine k_ifSettled ⟨by decide, by decide⟩ hK hN hA (a := xa) (R := [(zr_a, .inl (T.1, (60, .inl q853.2))), (za_a, .inl (T.1, (16, .inl za))), (zg_a, .inl (T.1, (2, .inl (upd zg (1 : Int32).toNatClampNeg v866))))]) hX hw e_886 (fun H locs cells slots rm mc ms Pc Qc free hMt hrc hrs hR hpre hroom => va_runV (n := 0) (C := RX6) (b := xa.1) (As := []) (rest := []) ⟨hx, hb, hml, hown, hts⟩ hMt (cwV 0 hts gL_act_X6_ifSettled rfl hrc hrs hdV_X6_ifSettled hR) hpre rfl rfl hl.1 rfl (lv_room (Nat.le_of_ble_eq_true rfl)) dL_act_886 hroom) ⟨hP, hD⟩ hS ⟨Nat.le_of_ble_eq_true rfl, Nat.le_of_ble_eq_true rfl⟩ (fun xc H locs hX hW hS => ?_)
                  obtain ⟨hP, hD⟩ := hW
                  have hP : va_P D vwCl ((zr_a, .inl (T.1, (60, .inl q853.2))) :: (za_a, .inl (T.1, (16, .inl za))) :: (zg_a, .inl (T.1, (2, .inl (upd zg (1 : Int32).toNatClampNeg v866)))) :: (XW T xa xc ++ PW T xB)) H := hP
                  have hD : va_D A ((zr_a, .inl (T.1, (60, .inl q853.2))) :: (za_a, .inl (T.1, (16, .inl za))) :: (zg_a, .inl (T.1, (2, .inl (upd zg (1 : Int32).toNatClampNeg v866)))) :: (XW T xa xc ++ PW T xB)) := hD
                  refine lv_if_ne (tgt := 904) hx hb dL_act_889 (by decide) (fun c_889 => ?_) (fun c_889 => ?_)
                  · have hf := it_neg c_889 hf
                    refine lv_iconst (v := (0 : Int32)) hx hb dL_act_904 (by decide) ?_
                    obtain rfl := Option.some.inj hf
                    refine W.widen (k := 22) (n := 264) (by decide) (by decide) ?_
                    exact W.zret hx hb hr (by decide) (fun t ht hW => ⟨rfl, ⟨_, ⟨_, _, _, _, hX, hw, rfl⟩, by rw [ht]; exact hP, hD⟩, hS.F ht⟩) hS.2.2 dL_act_905 hlocks
                  · have hf := it_pos c_889 hf
                    refine lv_aload_n hx hb dL_act_892 rfl (lv_at hl 3 rfl) ?_
                    refine lv_iconst (v := (5 : Int32)) hx hb dL_act_893 (by decide) ?_
                    obtain ⟨q894, e_894, hf⟩ := bd_some hf
                    refine k_count ⟨by decide, by decide⟩ hK hN hA (a := xa) (R := [(zr_a, .inl (T.1, (60, .inl q853.2))), (za_a, .inl (T.1, (16, .inl za))), (zg_a, .inl (T.1, (2, .inl (upd zg (1 : Int32).toNatClampNeg v866))))]) hX hw e_894 (fun H locs cells slots rm mc ms Pc Qc free hMt hrc hrs hR hpre hroom => va_runV (n := 1) (C := RX6) (b := xa.1) (As := [.int (5 : Int32)]) (rest := []) ⟨hx, hb, hml, hown, hts⟩ hMt (cwV 1 hts gL_act_X6_count rfl hrc hrs hdV_X6_count hR) hpre rfl rfl hl.1 rfl (lv_room (Nat.le_of_ble_eq_true rfl)) dL_act_894 hroom) ⟨hP, hD⟩ hS ⟨Nat.le_of_ble_eq_true rfl, Nat.le_of_ble_eq_true rfl⟩ (fun xc H locs hX hW hS => ?_)
                    obtain ⟨hP, hD⟩ := hW
                    have hP : va_P D vwCl ((zr_a, .inl (T.1, (60, .inl q853.2))) :: (za_a, .inl (T.1, (16, .inl za))) :: (zg_a, .inl (T.1, (2, .inl (upd zg (1 : Int32).toNatClampNeg v866)))) :: (XW T xa xc ++ PW T xB)) H := hP
                    have hD : va_D A ((zr_a, .inl (T.1, (60, .inl q853.2))) :: (za_a, .inl (T.1, (16, .inl za))) :: (zg_a, .inl (T.1, (2, .inl (upd zg (1 : Int32).toNatClampNeg v866)))) :: (XW T xa xc ++ PW T xB)) := hD
                    refine lv_if_ne (tgt := 904) hx hb dL_act_897 (by decide) (fun c_897 => ?_) (fun c_897 => ?_)
                    · have hf := it_neg c_897 hf
                      refine lv_iconst (v := (0 : Int32)) hx hb dL_act_904 (by decide) ?_
                      obtain rfl := Option.some.inj hf
                      refine W.widen (k := 22) (n := 264) (by decide) (by decide) ?_
                      exact W.zret hx hb hr (by decide) (fun t ht hW => ⟨rfl, ⟨_, ⟨_, _, _, _, hX, hw, rfl⟩, by rw [ht]; exact hP, hD⟩, hS.F ht⟩) hS.2.2 dL_act_905 hlocks
                    · have hf := it_pos c_897 hf
                      refine lv_iconst (v := (1 : Int32)) hx hb dL_act_900 (by decide) ?_
                      refine lv_goto (tgt := 905) hx hb dL_act_901 (by decide) ?_
                      obtain rfl := Option.some.inj hf
                      refine W.widen (k := 22) (n := 264) (by decide) (by decide) ?_
                      exact W.zret hx hb hr (by decide) (fun t ht hW => ⟨rfl, ⟨_, ⟨_, _, _, _, hX, hw, rfl⟩, by rw [ht]; exact hP, hD⟩, hS.F ht⟩) hS.2.2 dL_act_905 hlocks
            · have hf := it_neg c_780 hf
              refine lv_iconst (v := (4 : Int32)) hx hb dL_act_783 (by decide) ?_
              refine lv_iload_n hx hb dL_act_784 rfl (lv_at hl 4 rfl) ?_
              refine lv_bipush (v := (8 : Int32)) hx hb dL_act_785 (by decide) ?_
              obtain ⟨q787, e_787, hf⟩ := bd_some hf
              refine callPi (va_runS (As := [.int x2, .int (8 : Int32)]) (rest := [.int (4 : Int32)]) ⟨hx, hb, hml, hown, hts⟩ (c_L_low l D T x2 (8 : Int32) q787 e_787) (va_cwS 2 hts gL_act_L_low rfl rfl rfl hdS_L_low ⟨Nat.le_of_ble_eq_true rfl, Nat.le_of_ble_eq_true rfl⟩) (preBS va_P0 hK hN) rfl rfl hl.1 rfl (lv_room (Nat.le_of_ble_eq_true rfl)) dL_act_787 ⟨Nat.le_of_ble_eq_true rfl, Nat.le_of_ble_eq_true rfl⟩) ?_
              refine lv_iadd hx hb dL_act_790 ?_
              obtain ⟨v791, e_791, hf⟩ := nm_some hf
              refine lv_nmi e_791 ?_
              refine lv_istore (lv' := [(8, .int v791), (7, .int v12), (6, .int q3), (0, .ref xa.1), (1, .int x1), (2, .int x2), (3, .ref zr_a), (4, .ref za_a), (5, .ref zg_a)]) hx hb dL_act_791 hl (by decide) rfl (fun ls hl => ?_)
              refine lv_aload_n hx hb dL_act_793 rfl (lv_at hl 6 rfl) ?_
              refine lv_iload hx hb dL_act_794 (lv_at hl 1 rfl) ?_
              refine lv_iload hx hb dL_act_796 (lv_at hl 0 rfl) ?_
              obtain ⟨q798, e_798, hf⟩ := bd_some hf
              refine callLi (wr := ((za_a, .inl (T.1, (16, .inl za))) :: (zg_a, .inl (T.1, (2, .inl zg))) :: (XW T xa xc ++ PW T xB))) (va_runS (As := [.ref zr_a, .int v12, .int v791]) (rest := []) ⟨hx, hb, hml, hown, hts⟩ (c_L_trimmed l D T zr_a zr v12 v791 q798 e_798 H.size) (va_cwS 3 hts gL_act_L_trimmed rfl rfl rfl hdS_L_trimmed ⟨Nat.le_of_ble_eq_true rfl, Nat.le_of_ble_eq_true rfl⟩) (preMS (hP.sub [0] rfl) (hD.sub [0] rfl rfl) hK hN) rfl rfl hl.1 rfl (lv_room (Nat.le_of_ble_eq_true rfl)) dL_act_798 ⟨Nat.le_of_ble_eq_true rfl, Nat.le_of_ble_eq_true rfl⟩) ⟨hP, hD⟩ hS hA (fun W9 H locs hw9 hW hS => ?_)
              subst hw9
              obtain ⟨hP, hD⟩ := hW
              have hP : va_P D vwCl ((zr_a, .inl (T.1, (60, .inl q798.2))) :: (za_a, .inl (T.1, (16, .inl za))) :: (zg_a, .inl (T.1, (2, .inl zg))) :: (XW T xa xc ++ PW T xB)) H := hP
              have hD : va_D A ((zr_a, .inl (T.1, (60, .inl q798.2))) :: (za_a, .inl (T.1, (16, .inl za))) :: (zg_a, .inl (T.1, (2, .inl zg))) :: (XW T xa xc ++ PW T xB)) := hD
              refine lv_istore (lv' := [(9, .int q798.1), (8, .int v791), (7, .int v12), (6, .int q3), (0, .ref xa.1), (1, .int x1), (2, .int x2), (3, .ref zr_a), (4, .ref za_a), (5, .ref zg_a)]) hx hb dL_act_801 hl (by decide) rfl (fun ls hl => ?_)
              refine lv_aload hx hb dL_act_803 (lv_at hl 9 rfl) ?_
              refine lv_iconst (v := (1 : Int32)) hx hb dL_act_805 (by decide) ?_
              refine lv_dup2_11 hx hb dL_act_806 rfl rfl ?_
              refine va_iald (D := D) hx hb hK hP 2 0 rfl rfl (gd_in (by decide)) dL_act_807 ?_
              refine lv_iload hx hb dL_act_808 (lv_at hl 0 rfl) ?_
              refine lv_iadd hx hb dL_act_810 ?_
              obtain ⟨v811, e_811, hf⟩ := nm_some hf
              refine lv_nmi e_811 ?_
              refine va_iast (D := D) hx hb hK hP hD hS 2 0 rfl rfl (gd_in (by decide)) dL_act_811 (fun H locs hP hD hS => ?_)
              have hP : va_P D vwCl ((zr_a, .inl (T.1, (60, .inl q798.2))) :: (za_a, .inl (T.1, (16, .inl za))) :: (zg_a, .inl (T.1, (2, .inl (upd zg (1 : Int32).toNatClampNeg v811)))) :: (XW T xa xc ++ PW T xB)) H := hP
              have hD : va_D A ((zr_a, .inl (T.1, (60, .inl q798.2))) :: (za_a, .inl (T.1, (16, .inl za))) :: (zg_a, .inl (T.1, (2, .inl (upd zg (1 : Int32).toNatClampNeg v811)))) :: (XW T xa xc ++ PW T xB)) := hD
              refine lv_aload_n hx hb dL_act_812 rfl (lv_at hl 4 rfl) ?_
              refine lv_iload hx hb dL_act_813 (lv_at hl 1 rfl) ?_
              obtain ⟨q815, e_815, hf⟩ := bd_some hf
              refine k_trim hfl hZB hAn ⟨by decide, by decide⟩ hK hN hA (a := xa) (R := [(zr_a, .inl (T.1, (60, .inl q798.2))), (za_a, .inl (T.1, (16, .inl za))), (zg_a, .inl (T.1, (2, .inl (upd zg (1 : Int32).toNatClampNeg v811))))]) hX hw (v := q815.1) (E' := q815.2) e_815 (fun H locs cells slots rm mc ms Pc Qc free hMt hrc hrs hR hpre hroom => vx_runSW (n := 2) (As := [.ref xa.1, .int v791]) (rest := []) ⟨hx, hb, hml, hown, hts⟩ hMt (vx_cwSW 2 hts gL_act_L_trim rfl hrc hrs hdS_L_trimA hR) hpre rfl rfl hl.1 rfl (lv_room (Nat.le_of_ble_eq_true rfl)) dL_act_815 hroom) ⟨hP, hD⟩ hS ⟨Nat.le_of_ble_eq_true rfl, Nat.le_of_ble_eq_true rfl⟩ (fun xc xB xo xh H locs hX hw hW hS => ?_)
              obtain ⟨hP, hD⟩ := hW
              have hP : va_P D vwCl ((zr_a, .inl (T.1, (60, .inl q798.2))) :: (za_a, .inl (T.1, (16, .inl za))) :: (zg_a, .inl (T.1, (2, .inl (upd zg (1 : Int32).toNatClampNeg v811)))) :: (XW T xa xc ++ PW T xB)) H := hP
              have hD : va_D A ((zr_a, .inl (T.1, (60, .inl q798.2))) :: (za_a, .inl (T.1, (16, .inl za))) :: (zg_a, .inl (T.1, (2, .inl (upd zg (1 : Int32).toNatClampNeg v811)))) :: (XW T xa xc ++ PW T xB)) := hD
              refine W.widen (k := 6) (n := 88) (by decide) (by decide) ?_
              refine lv_iload hx hb dL_act_818 (lv_at hl 0 rfl) ?_
              refine lv_icmp_ne (tgt := 848) hx hb dL_act_820 (by decide) (fun c_820 => ?_) (fun c_820 => ?_)
              · have hf := it_neg c_820 hf
                refine lv_iconst (v := (0 : Int32)) hx hb dL_act_848 (by decide) ?_
                obtain rfl := Option.some.inj hf
                refine W.widen (k := 22) (n := 264) (by decide) (by decide) ?_
                exact W.zret hx hb hr (by decide) (fun t ht hW => ⟨rfl, ⟨_, ⟨_, _, _, _, hX, hw, rfl⟩, by rw [ht]; exact hP, hD⟩, hS.F ht⟩) hS.2.2 dL_act_849 hlocks
              · have hf := it_pos c_820 hf
                refine lv_aload_n hx hb dL_act_823 rfl (lv_at hl 4 rfl) ?_
                refine lv_iconst (v := (3 : Int32)) hx hb dL_act_824 (by decide) ?_
                obtain ⟨q825, e_825, hf⟩ := bd_some hf
                refine k_trim hfl hZB hAn ⟨by decide, by decide⟩ hK hN hA (a := xa) (R := [(zr_a, .inl (T.1, (60, .inl q798.2))), (za_a, .inl (T.1, (16, .inl za))), (zg_a, .inl (T.1, (2, .inl (upd zg (1 : Int32).toNatClampNeg v811))))]) hX hw (v := q825.1) (E' := q825.2) e_825 (fun H locs cells slots rm mc ms Pc Qc free hMt hrc hrs hR hpre hroom => vx_runSW (n := 2) (As := [.ref xa.1, .int (3 : Int32)]) (rest := []) ⟨hx, hb, hml, hown, hts⟩ hMt (vx_cwSW 2 hts gL_act_L_trim rfl hrc hrs hdS_L_trimA hR) hpre rfl rfl hl.1 rfl (lv_room (Nat.le_of_ble_eq_true rfl)) dL_act_825 hroom) ⟨hP, hD⟩ hS ⟨Nat.le_of_ble_eq_true rfl, Nat.le_of_ble_eq_true rfl⟩ (fun xc xB xo xh H locs hX hw hW hS => ?_)
                obtain ⟨hP, hD⟩ := hW
                have hP : va_P D vwCl ((zr_a, .inl (T.1, (60, .inl q798.2))) :: (za_a, .inl (T.1, (16, .inl za))) :: (zg_a, .inl (T.1, (2, .inl (upd zg (1 : Int32).toNatClampNeg v811)))) :: (XW T xa xc ++ PW T xB)) H := hP
                have hD : va_D A ((zr_a, .inl (T.1, (60, .inl q798.2))) :: (za_a, .inl (T.1, (16, .inl za))) :: (zg_a, .inl (T.1, (2, .inl (upd zg (1 : Int32).toNatClampNeg v811)))) :: (XW T xa xc ++ PW T xB)) := hD
                refine W.widen (k := 12) (n := 176) (by decide) (by decide) ?_
                refine lv_bipush (v := (-31 : Int32)) hx hb dL_act_828 (by decide) ?_
                refine lv_icmp_ne (tgt := 848) hx hb dL_act_830 (by decide) (fun c_830 => ?_) (fun c_830 => ?_)
                · have hf := it_neg c_830 hf
                  refine lv_iconst (v := (0 : Int32)) hx hb dL_act_848 (by decide) ?_
                  obtain rfl := Option.some.inj hf
                  refine W.widen (k := 22) (n := 264) (by decide) (by decide) ?_
                  exact W.zret hx hb hr (by decide) (fun t ht hW => ⟨rfl, ⟨_, ⟨_, _, _, _, hX, hw, rfl⟩, by rw [ht]; exact hP, hD⟩, hS.F ht⟩) hS.2.2 dL_act_849 hlocks
                · have hf := it_pos c_830 hf
                  refine lv_aload_n hx hb dL_act_833 rfl (lv_at hl 4 rfl) ?_
                  refine lv_bipush (v := (12 : Int32)) hx hb dL_act_834 (by decide) ?_
                  obtain ⟨q836, e_836, hf⟩ := bd_some hf
                  refine k_trim hfl hZB hAn ⟨by decide, by decide⟩ hK hN hA (a := xa) (R := [(zr_a, .inl (T.1, (60, .inl q798.2))), (za_a, .inl (T.1, (16, .inl za))), (zg_a, .inl (T.1, (2, .inl (upd zg (1 : Int32).toNatClampNeg v811))))]) hX hw (v := q836.1) (E' := q836.2) e_836 (fun H locs cells slots rm mc ms Pc Qc free hMt hrc hrs hR hpre hroom => vx_runSW (n := 2) (As := [.ref xa.1, .int (12 : Int32)]) (rest := []) ⟨hx, hb, hml, hown, hts⟩ hMt (vx_cwSW 2 hts gL_act_L_trim rfl hrc hrs hdS_L_trimA hR) hpre rfl rfl hl.1 rfl (lv_room (Nat.le_of_ble_eq_true rfl)) dL_act_836 hroom) ⟨hP, hD⟩ hS ⟨Nat.le_of_ble_eq_true rfl, Nat.le_of_ble_eq_true rfl⟩ (fun xc xB xo xh H locs hX hw hW hS => ?_)
                  obtain ⟨hP, hD⟩ := hW
                  have hP : va_P D vwCl ((zr_a, .inl (T.1, (60, .inl q798.2))) :: (za_a, .inl (T.1, (16, .inl za))) :: (zg_a, .inl (T.1, (2, .inl (upd zg (1 : Int32).toNatClampNeg v811)))) :: (XW T xa xc ++ PW T xB)) H := hP
                  have hD : va_D A ((zr_a, .inl (T.1, (60, .inl q798.2))) :: (za_a, .inl (T.1, (16, .inl za))) :: (zg_a, .inl (T.1, (2, .inl (upd zg (1 : Int32).toNatClampNeg v811)))) :: (XW T xa xc ++ PW T xB)) := hD
                  refine W.widen (k := 18) (n := 264) (by decide) (by decide) ?_
                  refine lv_bipush (v := (-31 : Int32)) hx hb dL_act_839 (by decide) ?_
                  refine lv_icmp_ne (tgt := 848) hx hb dL_act_841 (by decide) (fun c_841 => ?_) (fun c_841 => ?_)
                  · have hf := it_neg c_841 hf
                    refine lv_iconst (v := (0 : Int32)) hx hb dL_act_848 (by decide) ?_
                    obtain rfl := Option.some.inj hf
                    refine W.widen (k := 22) (n := 264) (by decide) (by decide) ?_
                    exact W.zret hx hb hr (by decide) (fun t ht hW => ⟨rfl, ⟨_, ⟨_, _, _, _, hX, hw, rfl⟩, by rw [ht]; exact hP, hD⟩, hS.F ht⟩) hS.2.2 dL_act_849 hlocks
                  · have hf := it_pos c_841 hf
                    refine lv_iconst (v := (1 : Int32)) hx hb dL_act_844 (by decide) ?_
                    refine lv_goto (tgt := 849) hx hb dL_act_845 (by decide) ?_
                    obtain rfl := Option.some.inj hf
                    refine W.widen (k := 22) (n := 264) (by decide) (by decide) ?_
                    exact W.zret hx hb hr (by decide) (fun t ht hW => ⟨rfl, ⟨_, ⟨_, _, _, _, hX, hw, rfl⟩, by rw [ht]; exact hP, hD⟩, hS.F ht⟩) hS.2.2 dL_act_849 hlocks
          · have hf := it_pos c_645 hf
            refine lv_iload_n hx hb dL_act_648 rfl (lv_at hl 4 rfl) ?_
            refine lv_iconst (v := (4 : Int32)) hx hb dL_act_649 (by decide) ?_
            obtain ⟨q650, e_650, hf⟩ := bd_some hf
            refine callPi (va_runS (As := [.int x2, .int (4 : Int32)]) (rest := []) ⟨hx, hb, hml, hown, hts⟩ (c_L_low l D T x2 (4 : Int32) q650 e_650) (va_cwS 2 hts gL_act_L_low rfl rfl rfl hdS_L_low ⟨Nat.le_of_ble_eq_true rfl, Nat.le_of_ble_eq_true rfl⟩) (preBS va_P0 hK hN) rfl rfl hl.1 rfl (lv_room (Nat.le_of_ble_eq_true rfl)) dL_act_650 ⟨Nat.le_of_ble_eq_true rfl, Nat.le_of_ble_eq_true rfl⟩) ?_
            refine lv_istore (lv' := [(8, .int q650), (7, .int v12), (6, .int q3), (0, .ref xa.1), (1, .int x1), (2, .int x2), (3, .ref zr_a), (4, .ref za_a), (5, .ref zg_a)]) hx hb dL_act_653 hl (by decide) rfl (fun ls hl => ?_)
            refine lv_aload_n hx hb dL_act_655 rfl (lv_at hl 6 rfl) ?_
            refine lv_aload hx hb dL_act_656 (lv_at hl 7 rfl) ?_
            refine lv_iload hx hb dL_act_658 (lv_at hl 1 rfl) ?_
            refine lv_iload hx hb dL_act_660 (lv_at hl 0 rfl) ?_
            obtain ⟨q662, e_662, hf⟩ := bd_some hf
            refine callLi (wr := ((zg_a, .inl (T.1, (2, .inl zg))) :: (XW T xa xc ++ PW T xB))) (va_runS (As := [.ref zr_a, .ref za_a, .int v12, .int q650]) (rest := []) ⟨hx, hb, hml, hown, hts⟩ (c_L_bestOrder l D T zr_a za_a zr za v12 q650 q662 e_662 H.size) (va_cwS 4 hts gL_act_L_bestOrder rfl rfl rfl hdS_L_bestOrder ⟨Nat.le_of_ble_eq_true rfl, Nat.le_of_ble_eq_true rfl⟩) (preMS (hP.sub [0, 1] rfl) (hD.sub [0, 1] rfl rfl) hK hN) rfl rfl hl.1 rfl (lv_room (Nat.le_of_ble_eq_true rfl)) dL_act_662 ⟨Nat.le_of_ble_eq_true rfl, Nat.le_of_ble_eq_true rfl⟩) ⟨hP, hD⟩ hS hA (fun W9 H locs hw9 hW hS => ?_)
            subst hw9
            obtain ⟨hP, hD⟩ := hW
            have hP : va_P D vwCl ((zr_a, .inl (T.1, (60, .inl zr))) :: (za_a, .inl (T.1, (16, .inl za))) :: (zg_a, .inl (T.1, (2, .inl zg))) :: (XW T xa xc ++ PW T xB)) H := hP
            have hD : va_D A ((zr_a, .inl (T.1, (60, .inl zr))) :: (za_a, .inl (T.1, (16, .inl za))) :: (zg_a, .inl (T.1, (2, .inl zg))) :: (XW T xa xc ++ PW T xB)) := hD
            refine W.widen (k := 1) (n := 16) (by decide) (by decide) ?_
            refine lv_istore (lv' := [(9, .int q662), (8, .int q650), (7, .int v12), (6, .int q3), (0, .ref xa.1), (1, .int x1), (2, .int x2), (3, .ref zr_a), (4, .ref za_a), (5, .ref zg_a)]) hx hb dL_act_665 hl (by decide) rfl (fun ls hl => ?_)
            refine lv_aload_n hx hb dL_act_667 rfl (lv_at hl 4 rfl) ?_
            refine lv_iload hx hb dL_act_668 (lv_at hl 1 rfl) ?_
            obtain ⟨q670, e_670, hf⟩ := bd_some hf
            refine k_bestOrder ⟨by decide, by decide⟩ hK hN hA (a := xa) (R := [(zr_a, .inl (T.1, (60, .inl zr))), (za_a, .inl (T.1, (16, .inl za))), (zg_a, .inl (T.1, (2, .inl zg)))]) hX hw e_670 (fun H locs cells slots rm mc ms Pc Qc free hMt hrc hrs hR hpre hroom => va_runV (n := 1) (C := RX6) (b := xa.1) (As := [.int q650]) (rest := []) ⟨hx, hb, hml, hown, hts⟩ hMt (cwV 1 hts gL_act_X6_bestOrder rfl hrc hrs hdV_X6_bestOrder hR) hpre rfl rfl hl.1 rfl (lv_room (Nat.le_of_ble_eq_true rfl)) dL_act_670 hroom) ⟨hP, hD⟩ hS ⟨Nat.le_of_ble_eq_true rfl, Nat.le_of_ble_eq_true rfl⟩ (fun xc H locs hX hW hS => ?_)
            obtain ⟨hP, hD⟩ := hW
            have hP : va_P D vwCl ((zr_a, .inl (T.1, (60, .inl zr))) :: (za_a, .inl (T.1, (16, .inl za))) :: (zg_a, .inl (T.1, (2, .inl zg))) :: (XW T xa xc ++ PW T xB)) H := hP
            have hD : va_D A ((zr_a, .inl (T.1, (60, .inl zr))) :: (za_a, .inl (T.1, (16, .inl za))) :: (zg_a, .inl (T.1, (2, .inl zg))) :: (XW T xa xc ++ PW T xB)) := hD
            refine lv_iload hx hb dL_act_673 (lv_at hl 0 rfl) ?_
            refine lv_icmp_eq (tgt := 680) hx hb dL_act_675 (by decide) (fun c_675 => ?_) (fun c_675 => ?_)
            · have hf := it_pos c_675 hf
              refine lv_aload hx hb dL_act_680 (lv_at hl 8 rfl) ?_
              refine lv_iconst (v := (4 : Int32)) hx hb dL_act_682 (by decide) ?_
              refine lv_iload hx hb dL_act_683 (lv_at hl 1 rfl) ?_
              refine lv_imul hx hb dL_act_685 ?_
              refine lv_iload hx hb dL_act_686 (lv_at hl 0 rfl) ?_
              refine lv_sipush (v := (1000 : Int32)) hx hb dL_act_688 (by decide) ?_
              refine lv_idiv hx hb dL_act_691 (by decide) ?_
              refine lv_iadd hx hb dL_act_692 ?_
              refine lv_iconst (v := (0 : Int32)) hx hb dL_act_693 (by decide) ?_
              obtain ⟨g_694, hf⟩ := gd_some hf
              refine va_iast (D := D) hx hb hK hP hD hS 1 0 rfl rfl (gd_in g_694) dL_act_694 (fun H locs hP hD hS => ?_)
              have hP : va_P D vwCl ((zr_a, .inl (T.1, (60, .inl zr))) :: (za_a, .inl (T.1, (16, .inl (upd za (((4 : Int32) * q650) + (q662 / (1000 : Int32))).toNatClampNeg (0 : Int32))))) :: (zg_a, .inl (T.1, (2, .inl zg))) :: (XW T xa xc ++ PW T xB)) H := hP
              have hD : va_D A ((zr_a, .inl (T.1, (60, .inl zr))) :: (za_a, .inl (T.1, (16, .inl (upd za (((4 : Int32) * q650) + (q662 / (1000 : Int32))).toNatClampNeg (0 : Int32))))) :: (zg_a, .inl (T.1, (2, .inl zg))) :: (XW T xa xc ++ PW T xB)) := hD
              refine lv_aload hx hb dL_act_695 (lv_at hl 8 rfl) ?_
              refine lv_iconst (v := (4 : Int32)) hx hb dL_act_697 (by decide) ?_
              refine lv_iload hx hb dL_act_698 (lv_at hl 1 rfl) ?_
              refine lv_imul hx hb dL_act_700 ?_
              refine lv_iload hx hb dL_act_701 (lv_at hl 0 rfl) ?_
              refine lv_bipush (v := (100 : Int32)) hx hb dL_act_703 (by decide) ?_
              refine lv_idiv hx hb dL_act_705 (by decide) ?_
              refine lv_bipush (v := (10 : Int32)) hx hb dL_act_706 (by decide) ?_
              refine lv_irem hx hb dL_act_708 (by decide) ?_
              refine lv_iadd hx hb dL_act_709 ?_
              refine lv_iconst (v := (1 : Int32)) hx hb dL_act_710 (by decide) ?_
              obtain ⟨g_711, hf⟩ := gd_some hf
              refine va_iast (D := D) hx hb hK hP hD hS 1 0 rfl rfl (gd_in g_711) dL_act_711 (fun H locs hP hD hS => ?_)
              have hP : va_P D vwCl ((zr_a, .inl (T.1, (60, .inl zr))) :: (za_a, .inl (T.1, (16, .inl (upd (upd za (((4 : Int32) * q650) + (q662 / (1000 : Int32))).toNatClampNeg (0 : Int32)) (((4 : Int32) * q650) + ((q662 / (100 : Int32)) - (q662 / (100 : Int32)) / (10 : Int32) * (10 : Int32))).toNatClampNeg (1 : Int32))))) :: (zg_a, .inl (T.1, (2, .inl zg))) :: (XW T xa xc ++ PW T xB)) H := hP
              have hD : va_D A ((zr_a, .inl (T.1, (60, .inl zr))) :: (za_a, .inl (T.1, (16, .inl (upd (upd za (((4 : Int32) * q650) + (q662 / (1000 : Int32))).toNatClampNeg (0 : Int32)) (((4 : Int32) * q650) + ((q662 / (100 : Int32)) - (q662 / (100 : Int32)) / (10 : Int32) * (10 : Int32))).toNatClampNeg (1 : Int32))))) :: (zg_a, .inl (T.1, (2, .inl zg))) :: (XW T xa xc ++ PW T xB)) := hD
              refine lv_aload hx hb dL_act_712 (lv_at hl 8 rfl) ?_
              refine lv_iconst (v := (4 : Int32)) hx hb dL_act_714 (by decide) ?_
              refine lv_iload hx hb dL_act_715 (lv_at hl 1 rfl) ?_
              refine lv_imul hx hb dL_act_717 ?_
              refine lv_iload hx hb dL_act_718 (lv_at hl 0 rfl) ?_
              refine lv_bipush (v := (10 : Int32)) hx hb dL_act_720 (by decide) ?_
              refine lv_idiv hx hb dL_act_722 (by decide) ?_
              refine lv_bipush (v := (10 : Int32)) hx hb dL_act_723 (by decide) ?_
              refine lv_irem hx hb dL_act_725 (by decide) ?_
              refine lv_iadd hx hb dL_act_726 ?_
              refine lv_iconst (v := (2 : Int32)) hx hb dL_act_727 (by decide) ?_
              obtain ⟨g_728, hf⟩ := gd_some hf
              refine va_iast (D := D) hx hb hK hP hD hS 1 0 rfl rfl (gd_in g_728) dL_act_728 (fun H locs hP hD hS => ?_)
              have hP : va_P D vwCl ((zr_a, .inl (T.1, (60, .inl zr))) :: (za_a, .inl (T.1, (16, .inl (upd (upd (upd za (((4 : Int32) * q650) + (q662 / (1000 : Int32))).toNatClampNeg (0 : Int32)) (((4 : Int32) * q650) + ((q662 / (100 : Int32)) - (q662 / (100 : Int32)) / (10 : Int32) * (10 : Int32))).toNatClampNeg (1 : Int32)) (((4 : Int32) * q650) + ((q662 / (10 : Int32)) - (q662 / (10 : Int32)) / (10 : Int32) * (10 : Int32))).toNatClampNeg (2 : Int32))))) :: (zg_a, .inl (T.1, (2, .inl zg))) :: (XW T xa xc ++ PW T xB)) H := hP
              have hD : va_D A ((zr_a, .inl (T.1, (60, .inl zr))) :: (za_a, .inl (T.1, (16, .inl (upd (upd (upd za (((4 : Int32) * q650) + (q662 / (1000 : Int32))).toNatClampNeg (0 : Int32)) (((4 : Int32) * q650) + ((q662 / (100 : Int32)) - (q662 / (100 : Int32)) / (10 : Int32) * (10 : Int32))).toNatClampNeg (1 : Int32)) (((4 : Int32) * q650) + ((q662 / (10 : Int32)) - (q662 / (10 : Int32)) / (10 : Int32) * (10 : Int32))).toNatClampNeg (2 : Int32))))) :: (zg_a, .inl (T.1, (2, .inl zg))) :: (XW T xa xc ++ PW T xB)) := hD
              refine lv_aload hx hb dL_act_729 (lv_at hl 8 rfl) ?_
              refine lv_iconst (v := (4 : Int32)) hx hb dL_act_731 (by decide) ?_
              refine lv_iload hx hb dL_act_732 (lv_at hl 1 rfl) ?_
              refine lv_imul hx hb dL_act_734 ?_
              refine lv_iload hx hb dL_act_735 (lv_at hl 0 rfl) ?_
              refine lv_bipush (v := (10 : Int32)) hx hb dL_act_737 (by decide) ?_
              refine lv_irem hx hb dL_act_739 (by decide) ?_
              refine lv_iadd hx hb dL_act_740 ?_
              refine lv_iconst (v := (3 : Int32)) hx hb dL_act_741 (by decide) ?_
              obtain ⟨g_742, hf⟩ := gd_some hf
              refine va_iast (D := D) hx hb hK hP hD hS 1 0 rfl rfl (gd_in g_742) dL_act_742 (fun H locs hP hD hS => ?_)
              have hP : va_P D vwCl ((zr_a, .inl (T.1, (60, .inl zr))) :: (za_a, .inl (T.1, (16, .inl (upd (upd (upd (upd za (((4 : Int32) * q650) + (q662 / (1000 : Int32))).toNatClampNeg (0 : Int32)) (((4 : Int32) * q650) + ((q662 / (100 : Int32)) - (q662 / (100 : Int32)) / (10 : Int32) * (10 : Int32))).toNatClampNeg (1 : Int32)) (((4 : Int32) * q650) + ((q662 / (10 : Int32)) - (q662 / (10 : Int32)) / (10 : Int32) * (10 : Int32))).toNatClampNeg (2 : Int32)) (((4 : Int32) * q650) + (q662 - q662 / (10 : Int32) * (10 : Int32))).toNatClampNeg (3 : Int32))))) :: (zg_a, .inl (T.1, (2, .inl zg))) :: (XW T xa xc ++ PW T xB)) H := hP
              have hD : va_D A ((zr_a, .inl (T.1, (60, .inl zr))) :: (za_a, .inl (T.1, (16, .inl (upd (upd (upd (upd za (((4 : Int32) * q650) + (q662 / (1000 : Int32))).toNatClampNeg (0 : Int32)) (((4 : Int32) * q650) + ((q662 / (100 : Int32)) - (q662 / (100 : Int32)) / (10 : Int32) * (10 : Int32))).toNatClampNeg (1 : Int32)) (((4 : Int32) * q650) + ((q662 / (10 : Int32)) - (q662 / (10 : Int32)) / (10 : Int32) * (10 : Int32))).toNatClampNeg (2 : Int32)) (((4 : Int32) * q650) + (q662 - q662 / (10 : Int32) * (10 : Int32))).toNatClampNeg (3 : Int32))))) :: (zg_a, .inl (T.1, (2, .inl zg))) :: (XW T xa xc ++ PW T xB)) := hD
              refine lv_aload_n hx hb dL_act_743 rfl (lv_at hl 4 rfl) ?_
              refine lv_iload hx hb dL_act_744 (lv_at hl 1 rfl) ?_
              obtain ⟨q746, e_746, hf⟩ := bd_some hf
              refine k_order hfl hZB hAn ⟨by decide, by decide⟩ hK hN hA (a := xa) (R := [(zr_a, .inl (T.1, (60, .inl zr))), (za_a, .inl (T.1, (16, .inl (upd (upd (upd (upd za (((4 : Int32) * q650) + (q662 / (1000 : Int32))).toNatClampNeg (0 : Int32)) (((4 : Int32) * q650) + ((q662 / (100 : Int32)) - (q662 / (100 : Int32)) / (10 : Int32) * (10 : Int32))).toNatClampNeg (1 : Int32)) (((4 : Int32) * q650) + ((q662 / (10 : Int32)) - (q662 / (10 : Int32)) / (10 : Int32) * (10 : Int32))).toNatClampNeg (2 : Int32)) (((4 : Int32) * q650) + (q662 - q662 / (10 : Int32) * (10 : Int32))).toNatClampNeg (3 : Int32))))), (zg_a, .inl (T.1, (2, .inl zg)))]) hX hw (v := q746.1) (E' := q746.2) e_746 (fun H locs cells slots rm mc ms Pc Qc free hMt hrc hrs hR hpre hroom => vx_runSW (n := 2) (As := [.ref xa.1, .int q650]) (rest := []) ⟨hx, hb, hml, hown, hts⟩ hMt (vx_cwSW 2 hts gL_act_L_order rfl hrc hrs hdS_L_orderA hR) hpre rfl rfl hl.1 rfl (lv_room (Nat.le_of_ble_eq_true rfl)) dL_act_746 hroom) ⟨hP, hD⟩ hS ⟨Nat.le_of_ble_eq_true rfl, Nat.le_of_ble_eq_true rfl⟩ (fun xc xB xo xh H locs hX hw hW hS => ?_)
              obtain ⟨hP, hD⟩ := hW
              have hP : va_P D vwCl ((zr_a, .inl (T.1, (60, .inl zr))) :: (za_a, .inl (T.1, (16, .inl (upd (upd (upd (upd za (((4 : Int32) * q650) + (q662 / (1000 : Int32))).toNatClampNeg (0 : Int32)) (((4 : Int32) * q650) + ((q662 / (100 : Int32)) - (q662 / (100 : Int32)) / (10 : Int32) * (10 : Int32))).toNatClampNeg (1 : Int32)) (((4 : Int32) * q650) + ((q662 / (10 : Int32)) - (q662 / (10 : Int32)) / (10 : Int32) * (10 : Int32))).toNatClampNeg (2 : Int32)) (((4 : Int32) * q650) + (q662 - q662 / (10 : Int32) * (10 : Int32))).toNatClampNeg (3 : Int32))))) :: (zg_a, .inl (T.1, (2, .inl zg))) :: (XW T xa xc ++ PW T xB)) H := hP
              have hD : va_D A ((zr_a, .inl (T.1, (60, .inl zr))) :: (za_a, .inl (T.1, (16, .inl (upd (upd (upd (upd za (((4 : Int32) * q650) + (q662 / (1000 : Int32))).toNatClampNeg (0 : Int32)) (((4 : Int32) * q650) + ((q662 / (100 : Int32)) - (q662 / (100 : Int32)) / (10 : Int32) * (10 : Int32))).toNatClampNeg (1 : Int32)) (((4 : Int32) * q650) + ((q662 / (10 : Int32)) - (q662 / (10 : Int32)) / (10 : Int32) * (10 : Int32))).toNatClampNeg (2 : Int32)) (((4 : Int32) * q650) + (q662 - q662 / (10 : Int32) * (10 : Int32))).toNatClampNeg (3 : Int32))))) :: (zg_a, .inl (T.1, (2, .inl zg))) :: (XW T xa xc ++ PW T xB)) := hD
              refine W.widen (k := 7) (n := 104) (by decide) (by decide) ?_
              refine lv_aload_n hx hb dL_act_749 rfl (lv_at hl 7 rfl) ?_
              refine lv_aload hx hb dL_act_750 (lv_at hl 8 rfl) ?_
              refine lv_iload hx hb dL_act_752 (lv_at hl 2 rfl) ?_
              obtain ⟨q754, e_754, hf⟩ := bd_some hf
              refine callPi (va_runS (As := [.ref zr_a, .ref za_a, .int v12]) (rest := [.int q746.1]) ⟨hx, hb, hml, hown, hts⟩ (c_L_crossings l D T zr_a za_a zr (upd (upd (upd (upd za (((4 : Int32) * q650) + (q662 / (1000 : Int32))).toNatClampNeg (0 : Int32)) (((4 : Int32) * q650) + ((q662 / (100 : Int32)) - (q662 / (100 : Int32)) / (10 : Int32) * (10 : Int32))).toNatClampNeg (1 : Int32)) (((4 : Int32) * q650) + ((q662 / (10 : Int32)) - (q662 / (10 : Int32)) / (10 : Int32) * (10 : Int32))).toNatClampNeg (2 : Int32)) (((4 : Int32) * q650) + (q662 - q662 / (10 : Int32) * (10 : Int32))).toNatClampNeg (3 : Int32)) v12 q754 e_754) (va_cwS 3 hts gL_act_L_crossings rfl rfl rfl hdS_L_crossings ⟨Nat.le_of_ble_eq_true rfl, Nat.le_of_ble_eq_true rfl⟩) (preBS (hP.sub (ws' := [(zr_a, .inl (T.1, (60, .inl zr))), (za_a, .inl (T.1, (16, .inl (upd (upd (upd (upd za (((4 : Int32) * q650) + (q662 / (1000 : Int32))).toNatClampNeg (0 : Int32)) (((4 : Int32) * q650) + ((q662 / (100 : Int32)) - (q662 / (100 : Int32)) / (10 : Int32) * (10 : Int32))).toNatClampNeg (1 : Int32)) (((4 : Int32) * q650) + ((q662 / (10 : Int32)) - (q662 / (10 : Int32)) / (10 : Int32) * (10 : Int32))).toNatClampNeg (2 : Int32)) (((4 : Int32) * q650) + (q662 - q662 / (10 : Int32) * (10 : Int32))).toNatClampNeg (3 : Int32)))))]) [0, 1] rfl) hK hN) rfl rfl hl.1 rfl (lv_room (Nat.le_of_ble_eq_true rfl)) dL_act_754 ⟨Nat.le_of_ble_eq_true rfl, Nat.le_of_ble_eq_true rfl⟩) ?_
              refine lv_icmp_ne (tgt := 774) hx hb dL_act_757 (by decide) (fun c_757 => ?_) (fun c_757 => ?_)
              · have hf := it_neg c_757 hf
                refine lv_iconst (v := (0 : Int32)) hx hb dL_act_774 (by decide) ?_
                obtain rfl := Option.some.inj hf
                refine W.widen (k := 22) (n := 264) (by decide) (by decide) ?_
                exact W.zret hx hb hr (by decide) (fun t ht hW => ⟨rfl, ⟨_, ⟨_, _, _, _, hX, hw, rfl⟩, by rw [ht]; exact hP, hD⟩, hS.F ht⟩) hS.2.2 dL_act_775 hlocks
              · have hf := it_pos c_757 hf
                refine lv_aload_n hx hb dL_act_760 rfl (lv_at hl 4 rfl) ?_
                refine lv_iconst (v := (4 : Int32)) hx hb dL_act_761 (by decide) ?_
                obtain ⟨q762, e_762, hf⟩ := bd_some hf
                refine k_order hfl hZB hAn ⟨by decide, by decide⟩ hK hN hA (a := xa) (R := [(zr_a, .inl (T.1, (60, .inl zr))), (za_a, .inl (T.1, (16, .inl (upd (upd (upd (upd za (((4 : Int32) * q650) + (q662 / (1000 : Int32))).toNatClampNeg (0 : Int32)) (((4 : Int32) * q650) + ((q662 / (100 : Int32)) - (q662 / (100 : Int32)) / (10 : Int32) * (10 : Int32))).toNatClampNeg (1 : Int32)) (((4 : Int32) * q650) + ((q662 / (10 : Int32)) - (q662 / (10 : Int32)) / (10 : Int32) * (10 : Int32))).toNatClampNeg (2 : Int32)) (((4 : Int32) * q650) + (q662 - q662 / (10 : Int32) * (10 : Int32))).toNatClampNeg (3 : Int32))))), (zg_a, .inl (T.1, (2, .inl zg)))]) hX hw (v := q762.1) (E' := q762.2) e_762 (fun H locs cells slots rm mc ms Pc Qc free hMt hrc hrs hR hpre hroom => vx_runSW (n := 2) (As := [.ref xa.1, .int (4 : Int32)]) (rest := []) ⟨hx, hb, hml, hown, hts⟩ hMt (vx_cwSW 2 hts gL_act_L_order rfl hrc hrs hdS_L_orderA hR) hpre rfl rfl hl.1 rfl (lv_room (Nat.le_of_ble_eq_true rfl)) dL_act_762 hroom) ⟨hP, hD⟩ hS ⟨Nat.le_of_ble_eq_true rfl, Nat.le_of_ble_eq_true rfl⟩ (fun xc xB xo xh H locs hX hw hW hS => ?_)
                obtain ⟨hP, hD⟩ := hW
                have hP : va_P D vwCl ((zr_a, .inl (T.1, (60, .inl zr))) :: (za_a, .inl (T.1, (16, .inl (upd (upd (upd (upd za (((4 : Int32) * q650) + (q662 / (1000 : Int32))).toNatClampNeg (0 : Int32)) (((4 : Int32) * q650) + ((q662 / (100 : Int32)) - (q662 / (100 : Int32)) / (10 : Int32) * (10 : Int32))).toNatClampNeg (1 : Int32)) (((4 : Int32) * q650) + ((q662 / (10 : Int32)) - (q662 / (10 : Int32)) / (10 : Int32) * (10 : Int32))).toNatClampNeg (2 : Int32)) (((4 : Int32) * q650) + (q662 - q662 / (10 : Int32) * (10 : Int32))).toNatClampNeg (3 : Int32))))) :: (zg_a, .inl (T.1, (2, .inl zg))) :: (XW T xa xc ++ PW T xB)) H := hP
                have hD : va_D A ((zr_a, .inl (T.1, (60, .inl zr))) :: (za_a, .inl (T.1, (16, .inl (upd (upd (upd (upd za (((4 : Int32) * q650) + (q662 / (1000 : Int32))).toNatClampNeg (0 : Int32)) (((4 : Int32) * q650) + ((q662 / (100 : Int32)) - (q662 / (100 : Int32)) / (10 : Int32) * (10 : Int32))).toNatClampNeg (1 : Int32)) (((4 : Int32) * q650) + ((q662 / (10 : Int32)) - (q662 / (10 : Int32)) / (10 : Int32) * (10 : Int32))).toNatClampNeg (2 : Int32)) (((4 : Int32) * q650) + (q662 - q662 / (10 : Int32) * (10 : Int32))).toNatClampNeg (3 : Int32))))) :: (zg_a, .inl (T.1, (2, .inl zg))) :: (XW T xa xc ++ PW T xB)) := hD
                refine W.widen (k := 13) (n := 192) (by decide) (by decide) ?_
                refine lv_bipush (v := (-31 : Int32)) hx hb dL_act_765 (by decide) ?_
                refine lv_icmp_ne (tgt := 774) hx hb dL_act_767 (by decide) (fun c_767 => ?_) (fun c_767 => ?_)
                · have hf := it_neg c_767 hf
                  refine lv_iconst (v := (0 : Int32)) hx hb dL_act_774 (by decide) ?_
                  obtain rfl := Option.some.inj hf
                  refine W.widen (k := 22) (n := 264) (by decide) (by decide) ?_
                  exact W.zret hx hb hr (by decide) (fun t ht hW => ⟨rfl, ⟨_, ⟨_, _, _, _, hX, hw, rfl⟩, by rw [ht]; exact hP, hD⟩, hS.F ht⟩) hS.2.2 dL_act_775 hlocks
                · have hf := it_pos c_767 hf
                  refine lv_iconst (v := (1 : Int32)) hx hb dL_act_770 (by decide) ?_
                  refine lv_goto (tgt := 775) hx hb dL_act_771 (by decide) ?_
                  obtain rfl := Option.some.inj hf
                  refine W.widen (k := 22) (n := 264) (by decide) (by decide) ?_
                  exact W.zret hx hb hr (by decide) (fun t ht hW => ⟨rfl, ⟨_, ⟨_, _, _, _, hX, hw, rfl⟩, by rw [ht]; exact hP, hD⟩, hS.F ht⟩) hS.2.2 dL_act_775 hlocks
            · have hf := it_neg c_675 hf
              refine lv_iconst (v := (0 : Int32)) hx hb dL_act_678 (by decide) ?_
              obtain rfl := Option.some.inj hf
              refine W.widen (k := 22) (n := 264) (by decide) (by decide) ?_
              exact W.zret hx hb hr (by decide) (fun t ht hW => ⟨rfl, ⟨_, ⟨_, _, _, _, hX, hw, rfl⟩, by rw [ht]; exact hP, hD⟩, hS.F ht⟩) hS.2.2 dL_act_679 hlocks
        · have hf := it_pos c_609 hf
          refine lv_aload_n hx hb dL_act_612 rfl (lv_at hl 5 rfl) ?_
          refine lv_aload hx hb dL_act_613 (lv_at hl 6 rfl) ?_
          refine lv_iload hx hb dL_act_615 (lv_at hl 0 rfl) ?_
          obtain ⟨q617, e_617, hf⟩ := bd_some hf
          refine callLv (wr := ((zg_a, .inl (T.1, (2, .inl zg))) :: (XW T xa xc ++ PW T xB))) (va_runS (As := [.ref zr_a, .ref za_a, .int v12]) (rest := []) ⟨hx, hb, hml, hown, hts⟩ (c_L_sweep l D T zr_a za_a zr za v12 q617 e_617 H.size) (va_cwS 3 hts gL_act_L_sweep rfl rfl rfl hdS_L_sweep ⟨Nat.le_of_ble_eq_true rfl, Nat.le_of_ble_eq_true rfl⟩) (preMS (hP.sub [0, 1] rfl) (hD.sub [0, 1] rfl rfl) hK hN) rfl rfl hl.1 rfl (lv_room (Nat.le_of_ble_eq_true rfl)) dL_act_617 ⟨Nat.le_of_ble_eq_true rfl, Nat.le_of_ble_eq_true rfl⟩) ⟨hP, hD⟩ hS hA (fun W9 H locs hw9 hW hS => ?_)
          subst hw9
          obtain ⟨hP, hD⟩ := hW
          have hP : va_P D vwCl ((zr_a, .inl (T.1, (60, .inl zr))) :: (za_a, .inl (T.1, (16, .inl q617))) :: (zg_a, .inl (T.1, (2, .inl zg))) :: (XW T xa xc ++ PW T xB)) H := hP
          have hD : va_D A ((zr_a, .inl (T.1, (60, .inl zr))) :: (za_a, .inl (T.1, (16, .inl q617))) :: (zg_a, .inl (T.1, (2, .inl zg))) :: (XW T xa xc ++ PW T xB)) := hD
          refine W.widen (k := 16) (n := 64) (by decide) (by decide) ?_
          refine lv_aload_n hx hb dL_act_620 rfl (lv_at hl 2 rfl) ?_
          obtain ⟨q621, e_621, hf⟩ := bd_some hf
          refine k_sweep ⟨by decide, by decide⟩ hK hN hA (a := xa) (R := [(zr_a, .inl (T.1, (60, .inl zr))), (za_a, .inl (T.1, (16, .inl q617))), (zg_a, .inl (T.1, (2, .inl zg)))]) hX hw (v := q621.1) (E' := q621.2) e_621 (fun H locs cells slots rm mc ms Pc Qc free hMt hrc hrs hR hpre hroom => va_runV (n := 0) (C := RX6) (b := xa.1) (As := []) (rest := []) ⟨hx, hb, hml, hown, hts⟩ hMt (cwV 0 hts gL_act_X6_sweep rfl hrc hrs hdV_X6_sweepA hR) hpre rfl rfl hl.1 rfl (lv_room (Nat.le_of_ble_eq_true rfl)) dL_act_621 hroom) ⟨hP, hD⟩ hS ⟨Nat.le_of_ble_eq_true rfl, Nat.le_of_ble_eq_true rfl⟩ (fun xc xB xo xh H locs hX hw hW hS => ?_)
          obtain ⟨hP, hD⟩ := hW
          have hP : va_P D vwCl ((zr_a, .inl (T.1, (60, .inl zr))) :: (za_a, .inl (T.1, (16, .inl q617))) :: (zg_a, .inl (T.1, (2, .inl zg))) :: (XW T xa xc ++ PW T xB)) H := hP
          have hD : va_D A ((zr_a, .inl (T.1, (60, .inl zr))) :: (za_a, .inl (T.1, (16, .inl q617))) :: (zg_a, .inl (T.1, (2, .inl zg))) :: (XW T xa xc ++ PW T xB)) := hD
          refine W.widen (k := 22) (n := 152) (by decide) (by decide) ?_
          refine lv_aload_n hx hb dL_act_624 rfl (lv_at hl 5 rfl) ?_
          refine lv_aload hx hb dL_act_625 (lv_at hl 6 rfl) ?_
          refine lv_iload hx hb dL_act_627 (lv_at hl 0 rfl) ?_
          obtain ⟨q629, e_629, hf⟩ := bd_some hf
          refine callPi (va_runS (As := [.ref zr_a, .ref za_a, .int v12]) (rest := [.int q621.1]) ⟨hx, hb, hml, hown, hts⟩ (c_L_crossings l D T zr_a za_a zr q617 v12 q629 e_629) (va_cwS 3 hts gL_act_L_crossings rfl rfl rfl hdS_L_crossings ⟨Nat.le_of_ble_eq_true rfl, Nat.le_of_ble_eq_true rfl⟩) (preBS (hP.sub (ws' := [(zr_a, .inl (T.1, (60, .inl zr))), (za_a, .inl (T.1, (16, .inl q617)))]) [0, 1] rfl) hK hN) rfl rfl hl.1 rfl (lv_room (Nat.le_of_ble_eq_true rfl)) dL_act_629 ⟨Nat.le_of_ble_eq_true rfl, Nat.le_of_ble_eq_true rfl⟩) ?_
          refine lv_icmp_ne (tgt := 639) hx hb dL_act_632 (by decide) (fun c_632 => ?_) (fun c_632 => ?_)
          · have hf := it_neg c_632 hf
            refine lv_iconst (v := (0 : Int32)) hx hb dL_act_639 (by decide) ?_
            obtain rfl := Option.some.inj hf
            refine W.widen (k := 22) (n := 264) (by decide) (by decide) ?_
            exact W.zret hx hb hr (by decide) (fun t ht hW => ⟨rfl, ⟨_, ⟨_, _, _, _, hX, hw, rfl⟩, by rw [ht]; exact hP, hD⟩, hS.F ht⟩) hS.2.2 dL_act_640 hlocks
          · have hf := it_pos c_632 hf
            refine lv_iconst (v := (1 : Int32)) hx hb dL_act_635 (by decide) ?_
            refine lv_goto (tgt := 640) hx hb dL_act_636 (by decide) ?_
            obtain rfl := Option.some.inj hf
            refine W.widen (k := 22) (n := 264) (by decide) (by decide) ?_
            exact W.zret hx hb hr (by decide) (fun t ht hW => ⟨rfl, ⟨_, ⟨_, _, _, _, hX, hw, rfl⟩, by rw [ht]; exact hP, hD⟩, hS.F ht⟩) hS.2.2 dL_act_640 hlocks
      · have hf := it_neg c_455 hf
        refine lv_iload_n hx hb dL_act_458 rfl (lv_at hl 4 rfl) ?_
        refine lv_bipush (v := (16 : Int32)) hx hb dL_act_459 (by decide) ?_
        obtain ⟨q461, e_461, hf⟩ := bd_some hf
        refine callPi (va_runS (As := [.int x2, .int (16 : Int32)]) (rest := []) ⟨hx, hb, hml, hown, hts⟩ (c_L_low l D T x2 (16 : Int32) q461 e_461) (va_cwS 2 hts gL_act_L_low rfl rfl rfl hdS_L_low ⟨Nat.le_of_ble_eq_true rfl, Nat.le_of_ble_eq_true rfl⟩) (preBS va_P0 hK hN) rfl rfl hl.1 rfl (lv_room (Nat.le_of_ble_eq_true rfl)) dL_act_461 ⟨Nat.le_of_ble_eq_true rfl, Nat.le_of_ble_eq_true rfl⟩) ?_
        refine lv_istore (lv' := [(8, .int q461), (7, .int v12), (6, .int q3), (0, .ref xa.1), (1, .int x1), (2, .int x2), (3, .ref zr_a), (4, .ref za_a), (5, .ref zg_a)]) hx hb dL_act_464 hl (by decide) rfl (fun ls hl => ?_)
        refine lv_iload hx hb dL_act_466 (lv_at hl 0 rfl) ?_
        refine lv_iconst (v := (4 : Int32)) hx hb dL_act_468 (by decide) ?_
        refine lv_idiv hx hb dL_act_469 (by decide) ?_
        refine lv_iconst (v := (4 : Int32)) hx hb dL_act_470 (by decide) ?_
        refine lv_imul hx hb dL_act_471 ?_
        refine lv_iload_n hx hb dL_act_472 rfl (lv_at hl 5 rfl) ?_
        refine lv_iconst (v := (4 : Int32)) hx hb dL_act_473 (by decide) ?_
        refine lv_ishr hx hb dL_act_474 ?_
        refine lv_iconst (v := (4 : Int32)) hx hb dL_act_475 (by decide) ?_
        obtain ⟨q476, e_476, hf⟩ := bd_some hf
        refine callPi (va_runS (As := [.int (x2 >>> ((4 : Int32) &&& 31)), .int (4 : Int32)]) (rest := [.int ((q461 / (4 : Int32)) * (4 : Int32))]) ⟨hx, hb, hml, hown, hts⟩ (c_L_low l D T (x2 >>> ((4 : Int32) &&& 31)) (4 : Int32) q476 e_476) (va_cwS 2 hts gL_act_L_low rfl rfl rfl hdS_L_low ⟨Nat.le_of_ble_eq_true rfl, Nat.le_of_ble_eq_true rfl⟩) (preBS va_P0 hK hN) rfl rfl hl.1 rfl (lv_room (Nat.le_of_ble_eq_true rfl)) dL_act_476 ⟨Nat.le_of_ble_eq_true rfl, Nat.le_of_ble_eq_true rfl⟩) ?_
        refine lv_iadd hx hb dL_act_479 ?_
        obtain ⟨v480, e_480, hf⟩ := nm_some hf
        refine lv_nmi e_480 ?_
        refine lv_istore (lv' := [(9, .int v480), (8, .int q461), (7, .int v12), (6, .int q3), (0, .ref xa.1), (1, .int x1), (2, .int x2), (3, .ref zr_a), (4, .ref za_a), (5, .ref zg_a)]) hx hb dL_act_480 hl (by decide) rfl (fun ls hl => ?_)
        refine lv_iload hx hb dL_act_482 (lv_at hl 1 rfl) ?_
        refine lv_iload hx hb dL_act_484 (lv_at hl 0 rfl) ?_
        refine lv_icmp_ne (tgt := 539) hx hb dL_act_486 (by decide) (fun c_486 => ?_) (fun c_486 => ?_)
        · have hf := it_neg c_486 hf
          refine lv_aload hx hb dL_act_539 (lv_at hl 8 rfl) ?_
          refine lv_iload hx hb dL_act_541 (lv_at hl 1 rfl) ?_
          obtain ⟨g_543, hf⟩ := gd_some hf
          refine va_iald (D := D) hx hb hK hP 1 0 rfl rfl (gd_in g_543) dL_act_543 ?_
          obtain ⟨v544, e_544, hf⟩ := nm_some hf
          refine lv_nmi e_544 ?_
          refine lv_istore (lv' := [(10, .int v544), (9, .int v480), (8, .int q461), (7, .int v12), (6, .int q3), (0, .ref xa.1), (1, .int x1), (2, .int x2), (3, .ref zr_a), (4, .ref za_a), (5, .ref zg_a)]) hx hb dL_act_544 hl (by decide) rfl (fun ls hl => ?_)
          refine lv_aload hx hb dL_act_546 (lv_at hl 9 rfl) ?_
          refine lv_iload hx hb dL_act_548 (lv_at hl 2 rfl) ?_
          refine lv_aload hx hb dL_act_550 (lv_at hl 9 rfl) ?_
          refine lv_iload hx hb dL_act_552 (lv_at hl 1 rfl) ?_
          obtain ⟨g_554, hf⟩ := gd_some hf
          refine va_iald (D := D) hx hb hK hP 1 0 rfl rfl (gd_in g_554) dL_act_554 ?_
          obtain ⟨v555, e_555, hf⟩ := nm_some hf
          refine lv_nmi e_555 ?_
          obtain ⟨g_555, hf⟩ := gd_some hf
          refine va_iast (D := D) hx hb hK hP hD hS 1 0 rfl rfl (gd_in g_555) dL_act_555 (fun H locs hP hD hS => ?_)
          have hP : va_P D vwCl ((zr_a, .inl (T.1, (60, .inl zr))) :: (za_a, .inl (T.1, (16, .inl (upd za q461.toNatClampNeg v555)))) :: (zg_a, .inl (T.1, (2, .inl zg))) :: (XW T xa xc ++ PW T xB)) H := hP
          have hD : va_D A ((zr_a, .inl (T.1, (60, .inl zr))) :: (za_a, .inl (T.1, (16, .inl (upd za q461.toNatClampNeg v555)))) :: (zg_a, .inl (T.1, (2, .inl zg))) :: (XW T xa xc ++ PW T xB)) := hD
          refine lv_aload hx hb dL_act_556 (lv_at hl 9 rfl) ?_
          refine lv_iload hx hb dL_act_558 (lv_at hl 1 rfl) ?_
          refine lv_iload hx hb dL_act_560 (lv_at hl 0 rfl) ?_
          obtain ⟨g_562, hf⟩ := gd_some hf
          refine va_iast (D := D) hx hb hK hP hD hS 1 0 rfl rfl (gd_in g_562) dL_act_562 (fun H locs hP hD hS => ?_)
          have hP : va_P D vwCl ((zr_a, .inl (T.1, (60, .inl zr))) :: (za_a, .inl (T.1, (16, .inl (upd (upd za q461.toNatClampNeg v555) v480.toNatClampNeg v544)))) :: (zg_a, .inl (T.1, (2, .inl zg))) :: (XW T xa xc ++ PW T xB)) H := hP
          have hD : va_D A ((zr_a, .inl (T.1, (60, .inl zr))) :: (za_a, .inl (T.1, (16, .inl (upd (upd za q461.toNatClampNeg v555) v480.toNatClampNeg v544)))) :: (zg_a, .inl (T.1, (2, .inl zg))) :: (XW T xa xc ++ PW T xB)) := hD
          refine lv_aload_n hx hb dL_act_563 rfl (lv_at hl 8 rfl) ?_
          refine lv_aload hx hb dL_act_564 (lv_at hl 9 rfl) ?_
          refine lv_iload hx hb dL_act_566 (lv_at hl 3 rfl) ?_
          obtain ⟨q568, e_568, hf⟩ := bd_some hf
          refine callPi (va_runS (As := [.ref zr_a, .ref za_a, .int v12]) (rest := []) ⟨hx, hb, hml, hown, hts⟩ (c_L_crossings l D T zr_a za_a zr (upd (upd za q461.toNatClampNeg v555) v480.toNatClampNeg v544) v12 q568 e_568) (va_cwS 3 hts gL_act_L_crossings rfl rfl rfl hdS_L_crossings ⟨Nat.le_of_ble_eq_true rfl, Nat.le_of_ble_eq_true rfl⟩) (preBS (hP.sub (ws' := [(zr_a, .inl (T.1, (60, .inl zr))), (za_a, .inl (T.1, (16, .inl (upd (upd za q461.toNatClampNeg v555) v480.toNatClampNeg v544))))]) [0, 1] rfl) hK hN) rfl rfl hl.1 rfl (lv_room (Nat.le_of_ble_eq_true rfl)) dL_act_568 ⟨Nat.le_of_ble_eq_true rfl, Nat.le_of_ble_eq_true rfl⟩) ?_
          refine lv_istore (lv' := [(11, .int q568), (10, .int v544), (9, .int v480), (8, .int q461), (7, .int v12), (6, .int q3), (0, .ref xa.1), (1, .int x1), (2, .int x2), (3, .ref zr_a), (4, .ref za_a), (5, .ref zg_a)]) hx hb dL_act_571 hl (by decide) rfl (fun ls hl => ?_)
          refine lv_aload_n hx hb dL_act_573 rfl (lv_at hl 6 rfl) ?_
          refine lv_iload hx hb dL_act_574 (lv_at hl 3 rfl) ?_
          refine lv_iload hx hb dL_act_576 (lv_at hl 2 rfl) ?_
          obtain ⟨q578, e_578, hf⟩ := bd_some hf
          refine k_ifSwapped ⟨by decide, by decide⟩ hK hN hA (a := xa) (R := [(zr_a, .inl (T.1, (60, .inl zr))), (za_a, .inl (T.1, (16, .inl (upd (upd za q461.toNatClampNeg v555) v480.toNatClampNeg v544)))), (zg_a, .inl (T.1, (2, .inl zg)))]) hX hw e_578 (fun H locs cells slots rm mc ms Pc Qc free hMt hrc hrs hR hpre hroom => va_runV (n := 2) (C := RX6) (b := xa.1) (As := [.int q461, .int v480]) (rest := []) ⟨hx, hb, hml, hown, hts⟩ hMt (cwV 2 hts gL_act_X6_ifSwapped rfl hrc hrs hdV_X6_ifSwapped hR) hpre rfl rfl hl.1 rfl (lv_room (Nat.le_of_ble_eq_true rfl)) dL_act_578 hroom) ⟨hP, hD⟩ hS ⟨Nat.le_of_ble_eq_true rfl, Nat.le_of_ble_eq_true rfl⟩ (fun xc H locs hX hW hS => ?_)
          obtain ⟨hP, hD⟩ := hW
          have hP : va_P D vwCl ((zr_a, .inl (T.1, (60, .inl zr))) :: (za_a, .inl (T.1, (16, .inl (upd (upd za q461.toNatClampNeg v555) v480.toNatClampNeg v544)))) :: (zg_a, .inl (T.1, (2, .inl zg))) :: (XW T xa xc ++ PW T xB)) H := hP
          have hD : va_D A ((zr_a, .inl (T.1, (60, .inl zr))) :: (za_a, .inl (T.1, (16, .inl (upd (upd za q461.toNatClampNeg v555) v480.toNatClampNeg v544)))) :: (zg_a, .inl (T.1, (2, .inl zg))) :: (XW T xa xc ++ PW T xB)) := hD
          refine lv_iload hx hb dL_act_581 (lv_at hl 0 rfl) ?_
          refine lv_icmp_ne (tgt := 603) hx hb dL_act_583 (by decide) (fun c_583 => ?_) (fun c_583 => ?_)
          · have hf := it_neg c_583 hf
            refine lv_iconst (v := (0 : Int32)) hx hb dL_act_603 (by decide) ?_
            obtain rfl := Option.some.inj hf
            refine W.widen (k := 22) (n := 264) (by decide) (by decide) ?_
            exact W.zret hx hb hr (by decide) (fun t ht hW => ⟨rfl, ⟨_, ⟨_, _, _, _, hX, hw, rfl⟩, by rw [ht]; exact hP, hD⟩, hS.F ht⟩) hS.2.2 dL_act_604 hlocks
          · have hf := it_pos c_583 hf
            refine lv_aload_n hx hb dL_act_586 rfl (lv_at hl 6 rfl) ?_
            refine lv_iload hx hb dL_act_587 (lv_at hl 3 rfl) ?_
            refine lv_iload hx hb dL_act_589 (lv_at hl 2 rfl) ?_
            obtain ⟨q591, e_591, hf⟩ := bd_some hf
            refine k_swap hfl hZB hAn ⟨by decide, by decide⟩ hK hN hA (a := xa) (R := [(zr_a, .inl (T.1, (60, .inl zr))), (za_a, .inl (T.1, (16, .inl (upd (upd za q461.toNatClampNeg v555) v480.toNatClampNeg v544)))), (zg_a, .inl (T.1, (2, .inl zg)))]) hX hw (v := q591.1) (E' := q591.2) e_591 (fun H locs cells slots rm mc ms Pc Qc free hMt hrc hrs hR hpre hroom => vx_runSW (n := 3) (As := [.ref xa.1, .int q461, .int v480]) (rest := []) ⟨hx, hb, hml, hown, hts⟩ hMt (vx_cwSW 3 hts gL_act_L_swap rfl hrc hrs hdS_L_swapA hR) hpre rfl rfl hl.1 rfl (lv_room (Nat.le_of_ble_eq_true rfl)) dL_act_591 hroom) ⟨hP, hD⟩ hS ⟨Nat.le_of_ble_eq_true rfl, Nat.le_of_ble_eq_true rfl⟩ (fun xc xB xo xh H locs hX hw hW hS => ?_)
            obtain ⟨hP, hD⟩ := hW
            have hP : va_P D vwCl ((zr_a, .inl (T.1, (60, .inl zr))) :: (za_a, .inl (T.1, (16, .inl (upd (upd za q461.toNatClampNeg v555) v480.toNatClampNeg v544)))) :: (zg_a, .inl (T.1, (2, .inl zg))) :: (XW T xa xc ++ PW T xB)) H := hP
            have hD : va_D A ((zr_a, .inl (T.1, (60, .inl zr))) :: (za_a, .inl (T.1, (16, .inl (upd (upd za q461.toNatClampNeg v555) v480.toNatClampNeg v544)))) :: (zg_a, .inl (T.1, (2, .inl zg))) :: (XW T xa xc ++ PW T xB)) := hD
            refine W.widen (k := 6) (n := 88) (by decide) (by decide) ?_
            refine lv_iload hx hb dL_act_594 (lv_at hl 0 rfl) ?_
            refine lv_icmp_ne (tgt := 603) hx hb dL_act_596 (by decide) (fun c_596 => ?_) (fun c_596 => ?_)
            · have hf := it_neg c_596 hf
              refine lv_iconst (v := (0 : Int32)) hx hb dL_act_603 (by decide) ?_
              obtain rfl := Option.some.inj hf
              refine W.widen (k := 22) (n := 264) (by decide) (by decide) ?_
              exact W.zret hx hb hr (by decide) (fun t ht hW => ⟨rfl, ⟨_, ⟨_, _, _, _, hX, hw, rfl⟩, by rw [ht]; exact hP, hD⟩, hS.F ht⟩) hS.2.2 dL_act_604 hlocks
            · have hf := it_pos c_596 hf
              refine lv_iconst (v := (1 : Int32)) hx hb dL_act_599 (by decide) ?_
              refine lv_goto (tgt := 604) hx hb dL_act_600 (by decide) ?_
              obtain rfl := Option.some.inj hf
              refine W.widen (k := 22) (n := 264) (by decide) (by decide) ?_
              exact W.zret hx hb hr (by decide) (fun t ht hW => ⟨rfl, ⟨_, ⟨_, _, _, _, hX, hw, rfl⟩, by rw [ht]; exact hP, hD⟩, hS.F ht⟩) hS.2.2 dL_act_604 hlocks
        · have hf := it_pos c_486 hf
          refine lv_aload_n hx hb dL_act_489 rfl (lv_at hl 4 rfl) ?_
          refine lv_iload hx hb dL_act_490 (lv_at hl 1 rfl) ?_
          refine lv_iload hx hb dL_act_492 (lv_at hl 0 rfl) ?_
          obtain ⟨q494, e_494, hf⟩ := bd_some hf
          refine k_swap hfl hZB hAn ⟨by decide, by decide⟩ hK hN hA (a := xa) (R := [(zr_a, .inl (T.1, (60, .inl zr))), (za_a, .inl (T.1, (16, .inl za))), (zg_a, .inl (T.1, (2, .inl zg)))]) hX hw (v := q494.1) (E' := q494.2) e_494 (fun H locs cells slots rm mc ms Pc Qc free hMt hrc hrs hR hpre hroom => vx_runSW (n := 3) (As := [.ref xa.1, .int q461, .int v480]) (rest := []) ⟨hx, hb, hml, hown, hts⟩ hMt (vx_cwSW 3 hts gL_act_L_swap rfl hrc hrs hdS_L_swapA hR) hpre rfl rfl hl.1 rfl (lv_room (Nat.le_of_ble_eq_true rfl)) dL_act_494 hroom) ⟨hP, hD⟩ hS ⟨Nat.le_of_ble_eq_true rfl, Nat.le_of_ble_eq_true rfl⟩ (fun xc xB xo xh H locs hX hw hW hS => ?_)
          obtain ⟨hP, hD⟩ := hW
          have hP : va_P D vwCl ((zr_a, .inl (T.1, (60, .inl zr))) :: (za_a, .inl (T.1, (16, .inl za))) :: (zg_a, .inl (T.1, (2, .inl zg))) :: (XW T xa xc ++ PW T xB)) H := hP
          have hD : va_D A ((zr_a, .inl (T.1, (60, .inl zr))) :: (za_a, .inl (T.1, (16, .inl za))) :: (zg_a, .inl (T.1, (2, .inl zg))) :: (XW T xa xc ++ PW T xB)) := hD
          refine W.widen (k := 6) (n := 88) (by decide) (by decide) ?_
          refine lv_bipush (v := (-32 : Int32)) hx hb dL_act_497 (by decide) ?_
          refine lv_icmp_ne (tgt := 537) hx hb dL_act_499 (by decide) (fun c_499 => ?_) (fun c_499 => ?_)
          · have hf := it_neg c_499 hf
            refine lv_iconst (v := (0 : Int32)) hx hb dL_act_537 (by decide) ?_
            obtain rfl := Option.some.inj hf
            refine W.widen (k := 22) (n := 264) (by decide) (by decide) ?_
            exact W.zret hx hb hr (by decide) (fun t ht hW => ⟨rfl, ⟨_, ⟨_, _, _, _, hX, hw, rfl⟩, by rw [ht]; exact hP, hD⟩, hS.F ht⟩) hS.2.2 dL_act_538 hlocks
          · have hf := it_pos c_499 hf
            refine lv_aload_n hx hb dL_act_502 rfl (lv_at hl 4 rfl) ?_
            refine lv_iload hx hb dL_act_503 (lv_at hl 1 rfl) ?_
            refine lv_iload hx hb dL_act_505 (lv_at hl 1 rfl) ?_
            refine lv_iconst (v := (4 : Int32)) hx hb dL_act_507 (by decide) ?_
            refine lv_iadd hx hb dL_act_508 ?_
            refine lv_bipush (v := (16 : Int32)) hx hb dL_act_509 (by decide) ?_
            refine lv_irem hx hb dL_act_511 (by decide) ?_
            obtain ⟨q512, e_512, hf⟩ := bd_some hf
            refine k_swap hfl hZB hAn ⟨by decide, by decide⟩ hK hN hA (a := xa) (R := [(zr_a, .inl (T.1, (60, .inl zr))), (za_a, .inl (T.1, (16, .inl za))), (zg_a, .inl (T.1, (2, .inl zg)))]) hX hw (v := q512.1) (E' := q512.2) e_512 (fun H locs cells slots rm mc ms Pc Qc free hMt hrc hrs hR hpre hroom => vx_runSW (n := 3) (As := [.ref xa.1, .int q461, .int ((q461 + (4 : Int32)) - (q461 + (4 : Int32)) / (16 : Int32) * (16 : Int32))]) (rest := []) ⟨hx, hb, hml, hown, hts⟩ hMt (vx_cwSW 3 hts gL_act_L_swap rfl hrc hrs hdS_L_swapA hR) hpre rfl rfl hl.1 rfl (lv_room (Nat.le_of_ble_eq_true rfl)) dL_act_512 hroom) ⟨hP, hD⟩ hS ⟨Nat.le_of_ble_eq_true rfl, Nat.le_of_ble_eq_true rfl⟩ (fun xc xB xo xh H locs hX hw hW hS => ?_)
            obtain ⟨hP, hD⟩ := hW
            have hP : va_P D vwCl ((zr_a, .inl (T.1, (60, .inl zr))) :: (za_a, .inl (T.1, (16, .inl za))) :: (zg_a, .inl (T.1, (2, .inl zg))) :: (XW T xa xc ++ PW T xB)) H := hP
            have hD : va_D A ((zr_a, .inl (T.1, (60, .inl zr))) :: (za_a, .inl (T.1, (16, .inl za))) :: (zg_a, .inl (T.1, (2, .inl zg))) :: (XW T xa xc ++ PW T xB)) := hD
            refine W.widen (k := 12) (n := 176) (by decide) (by decide) ?_
            refine lv_bipush (v := (-32 : Int32)) hx hb dL_act_515 (by decide) ?_
            refine lv_icmp_ne (tgt := 537) hx hb dL_act_517 (by decide) (fun c_517 => ?_) (fun c_517 => ?_)
            · have hf := it_neg c_517 hf
              refine lv_iconst (v := (0 : Int32)) hx hb dL_act_537 (by decide) ?_
              obtain rfl := Option.some.inj hf
              refine W.widen (k := 22) (n := 264) (by decide) (by decide) ?_
              exact W.zret hx hb hr (by decide) (fun t ht hW => ⟨rfl, ⟨_, ⟨_, _, _, _, hX, hw, rfl⟩, by rw [ht]; exact hP, hD⟩, hS.F ht⟩) hS.2.2 dL_act_538 hlocks
            · have hf := it_pos c_517 hf
              refine lv_aload_n hx hb dL_act_520 rfl (lv_at hl 4 rfl) ?_
              refine lv_bipush (v := (16 : Int32)) hx hb dL_act_521 (by decide) ?_
              refine lv_bipush (v := (16 : Int32)) hx hb dL_act_523 (by decide) ?_
              obtain ⟨q525, e_525, hf⟩ := bd_some hf
              refine k_swap hfl hZB hAn ⟨by decide, by decide⟩ hK hN hA (a := xa) (R := [(zr_a, .inl (T.1, (60, .inl zr))), (za_a, .inl (T.1, (16, .inl za))), (zg_a, .inl (T.1, (2, .inl zg)))]) hX hw (v := q525.1) (E' := q525.2) e_525 (fun H locs cells slots rm mc ms Pc Qc free hMt hrc hrs hR hpre hroom => vx_runSW (n := 3) (As := [.ref xa.1, .int (16 : Int32), .int (16 : Int32)]) (rest := []) ⟨hx, hb, hml, hown, hts⟩ hMt (vx_cwSW 3 hts gL_act_L_swap rfl hrc hrs hdS_L_swapA hR) hpre rfl rfl hl.1 rfl (lv_room (Nat.le_of_ble_eq_true rfl)) dL_act_525 hroom) ⟨hP, hD⟩ hS ⟨Nat.le_of_ble_eq_true rfl, Nat.le_of_ble_eq_true rfl⟩ (fun xc xB xo xh H locs hX hw hW hS => ?_)
              obtain ⟨hP, hD⟩ := hW
              have hP : va_P D vwCl ((zr_a, .inl (T.1, (60, .inl zr))) :: (za_a, .inl (T.1, (16, .inl za))) :: (zg_a, .inl (T.1, (2, .inl zg))) :: (XW T xa xc ++ PW T xB)) H := hP
              have hD : va_D A ((zr_a, .inl (T.1, (60, .inl zr))) :: (za_a, .inl (T.1, (16, .inl za))) :: (zg_a, .inl (T.1, (2, .inl zg))) :: (XW T xa xc ++ PW T xB)) := hD
              refine W.widen (k := 18) (n := 264) (by decide) (by decide) ?_
              refine lv_bipush (v := (-31 : Int32)) hx hb dL_act_528 (by decide) ?_
              refine lv_icmp_ne (tgt := 537) hx hb dL_act_530 (by decide) (fun c_530 => ?_) (fun c_530 => ?_)
              · have hf := it_neg c_530 hf
                refine lv_iconst (v := (0 : Int32)) hx hb dL_act_537 (by decide) ?_
                obtain rfl := Option.some.inj hf
                refine W.widen (k := 22) (n := 264) (by decide) (by decide) ?_
                exact W.zret hx hb hr (by decide) (fun t ht hW => ⟨rfl, ⟨_, ⟨_, _, _, _, hX, hw, rfl⟩, by rw [ht]; exact hP, hD⟩, hS.F ht⟩) hS.2.2 dL_act_538 hlocks
              · have hf := it_pos c_530 hf
                refine lv_iconst (v := (1 : Int32)) hx hb dL_act_533 (by decide) ?_
                refine lv_goto (tgt := 538) hx hb dL_act_534 (by decide) ?_
                obtain rfl := Option.some.inj hf
                refine W.widen (k := 22) (n := 264) (by decide) (by decide) ?_
                exact W.zret hx hb hr (by decide) (fun t ht hW => ⟨rfl, ⟨_, ⟨_, _, _, _, hX, hw, rfl⟩, by rw [ht]; exact hP, hD⟩, hS.F ht⟩) hS.2.2 dL_act_538 hlocks
    · have hf := it_neg c_260 hf
      refine lv_iload hx hb dL_act_263 (lv_at hl 0 rfl) ?_
      refine lv_if_ne (tgt := 296) hx hb dL_act_265 (by decide) (fun c_265 => ?_) (fun c_265 => ?_)
      · have hf := it_neg c_265 hf
        refine lv_iload_n hx hb dL_act_296 rfl (lv_at hl 4 rfl) ?_
        refine lv_iload hx hb dL_act_297 (lv_at hl 0 rfl) ?_
        obtain ⟨q299, e_299, hf⟩ := bd_some hf
        refine callPi (va_runS (As := [.int x2, .int v12]) (rest := []) ⟨hx, hb, hml, hown, hts⟩ (c_L_low l D T x2 v12 q299 e_299) (va_cwS 2 hts gL_act_L_low rfl rfl rfl hdS_L_low ⟨Nat.le_of_ble_eq_true rfl, Nat.le_of_ble_eq_true rfl⟩) (preBS va_P0 hK hN) rfl rfl hl.1 rfl (lv_room (Nat.le_of_ble_eq_true rfl)) dL_act_299 ⟨Nat.le_of_ble_eq_true rfl, Nat.le_of_ble_eq_true rfl⟩) ?_
        refine lv_istore (lv' := [(8, .int q299), (7, .int v12), (6, .int q3), (0, .ref xa.1), (1, .int x1), (2, .int x2), (3, .ref zr_a), (4, .ref za_a), (5, .ref zg_a)]) hx hb dL_act_302 hl (by decide) rfl (fun ls hl => ?_)
        refine lv_aload_n hx hb dL_act_304 rfl (lv_at hl 6 rfl) ?_
        refine lv_iconst (v := (3 : Int32)) hx hb dL_act_305 (by decide) ?_
        refine lv_iload hx hb dL_act_306 (lv_at hl 0 rfl) ?_
        refine lv_imul hx hb dL_act_308 ?_
        refine lv_iconst (v := (2 : Int32)) hx hb dL_act_309 (by decide) ?_
        refine lv_iadd hx hb dL_act_310 ?_
        obtain ⟨g_311, hf⟩ := gd_some hf
        refine va_iald (D := D) hx hb hK hP 0 0 rfl rfl (gd_in g_311) dL_act_311 ?_
        obtain ⟨v312, e_312, hf⟩ := nm_some hf
        refine lv_nmi e_312 ?_
        refine lv_istore (lv' := [(9, .int v312), (8, .int q299), (7, .int v12), (6, .int q3), (0, .ref xa.1), (1, .int x1), (2, .int x2), (3, .ref zr_a), (4, .ref za_a), (5, .ref zg_a)]) hx hb dL_act_312 hl (by decide) rfl (fun ls hl => ?_)
        refine lv_iload hx hb dL_act_314 (lv_at hl 3 rfl) ?_
        refine lv_iconst (v := (5 : Int32)) hx hb dL_act_316 (by decide) ?_
        refine lv_icmp_eq (tgt := 326) hx hb dL_act_317 (by decide) (fun c_317 => ?_) (fun c_317 => ?_)
        · have hf := it_pos c_317 hf
          exact w_L_act_b326 hfl C hZB hAn hA _ _ _ _ _ _ hf _ _ _ _ hX hw _ _ hP hD hS _ (lv_sub hl [4, 6, 7, 1, 0] rfl)
        · have hf := it_neg c_317 hf
          refine lv_iload_n hx hb dL_act_320 rfl (lv_at hl 6 rfl) ?_
          refine lv_iconst (v := (1 : Int32)) hx hb dL_act_321 (by decide) ?_
          refine lv_iand hx hb dL_act_322 ?_
          refine lv_if_ne (tgt := 380) hx hb dL_act_323 (by decide) (fun c_323 => ?_) (fun c_323 => ?_)
          · have hf := it_neg c_323 hf
            refine lv_aload hx hb dL_act_380 (lv_at hl 9 rfl) ?_
            refine lv_iconst (v := (0 : Int32)) hx hb dL_act_382 (by decide) ?_
            refine lv_dup2_11 hx hb dL_act_383 rfl rfl ?_
            refine va_iald (D := D) hx hb hK hP 2 0 rfl rfl (gd_in (by decide)) dL_act_384 ?_
            refine lv_iconst (v := (1 : Int32)) hx hb dL_act_385 (by decide) ?_
            refine lv_isub hx hb dL_act_386 ?_
            obtain ⟨v387, e_387, hf⟩ := nm_some hf
            refine lv_nmi e_387 ?_
            refine va_iast (D := D) hx hb hK hP hD hS 2 0 rfl rfl (gd_in (by decide)) dL_act_387 (fun H locs hP hD hS => ?_)
            have hP : va_P D vwCl ((zr_a, .inl (T.1, (60, .inl zr))) :: (za_a, .inl (T.1, (16, .inl za))) :: (zg_a, .inl (T.1, (2, .inl (upd zg (0 : Int32).toNatClampNeg v387)))) :: (XW T xa xc ++ PW T xB)) H := hP
            have hD : va_D A ((zr_a, .inl (T.1, (60, .inl zr))) :: (za_a, .inl (T.1, (16, .inl za))) :: (zg_a, .inl (T.1, (2, .inl (upd zg (0 : Int32).toNatClampNeg v387)))) :: (XW T xa xc ++ PW T xB)) := hD
            refine lv_iconst (v := (3 : Int32)) hx hb dL_act_388 (by decide) ?_
            refine lv_iload hx hb dL_act_389 (lv_at hl 1 rfl) ?_
            refine lv_imul hx hb dL_act_391 ?_
            obtain ⟨v392, e_392, hf⟩ := nm_some hf
            refine lv_nmi e_392 ?_
            refine lv_istore (lv' := [(10, .int v392), (9, .int v312), (8, .int q299), (7, .int v12), (6, .int q3), (0, .ref xa.1), (1, .int x1), (2, .int x2), (3, .ref zr_a), (4, .ref za_a), (5, .ref zg_a)]) hx hb dL_act_392 hl (by decide) rfl (fun ls hl => ?_)
            exact w_L_act_b394 hfl C hZB hAn hA _ _ _ _ _ _ _ _ hf _ _ _ _ hX hw _ _ hP hD hS _ (lv_sub hl [5, 8, 10, 2, 1, 0] rfl)
          · have hf := it_pos c_323 hf
            exact w_L_act_b326 hfl C hZB hAn hA _ _ _ _ _ _ hf _ _ _ _ hX hw _ _ hP hD hS _ (lv_sub hl [4, 6, 7, 1, 0] rfl)
      · have hf := it_pos c_265 hf
        refine lv_aload_n hx hb dL_act_268 rfl (lv_at hl 2 rfl) ?_
        refine lv_iconst (v := (0 : Int32)) hx hb dL_act_269 (by decide) ?_
        refine lv_bipush (v := (51 : Int32)) hx hb dL_act_270 (by decide) ?_
        obtain ⟨q272, e_272, hf⟩ := bd_some hf
        refine k_widen hfl hZB hAn ⟨by decide, by decide⟩ hK hN hA (a := xa) (R := [(zr_a, .inl (T.1, (60, .inl zr))), (za_a, .inl (T.1, (16, .inl za))), (zg_a, .inl (T.1, (2, .inl zg)))]) hX hw (v := q272.1) (E' := q272.2) e_272 (fun H locs cells slots rm mc ms Pc Qc free hMt hrc hrs hR hpre hroom => vx_runSW (n := 3) (As := [.ref xa.1, .int (0 : Int32), .int (51 : Int32)]) (rest := []) ⟨hx, hb, hml, hown, hts⟩ hMt (vx_cwSW 3 hts gL_act_L_widen rfl hrc hrs hdS_L_widenA hR) hpre rfl rfl hl.1 rfl (lv_room (Nat.le_of_ble_eq_true rfl)) dL_act_272 hroom) ⟨hP, hD⟩ hS ⟨Nat.le_of_ble_eq_true rfl, Nat.le_of_ble_eq_true rfl⟩ (fun xc xB xo xh H locs hX hw hW hS => ?_)
        obtain ⟨hP, hD⟩ := hW
        have hP : va_P D vwCl ((zr_a, .inl (T.1, (60, .inl zr))) :: (za_a, .inl (T.1, (16, .inl za))) :: (zg_a, .inl (T.1, (2, .inl zg))) :: (XW T xa xc ++ PW T xB)) H := hP
        have hD : va_D A ((zr_a, .inl (T.1, (60, .inl zr))) :: (za_a, .inl (T.1, (16, .inl za))) :: (zg_a, .inl (T.1, (2, .inl zg))) :: (XW T xa xc ++ PW T xB)) := hD
        refine W.widen (k := 6) (n := 88) (by decide) (by decide) ?_
        refine lv_bipush (v := (-31 : Int32)) hx hb dL_act_275 (by decide) ?_
        refine lv_icmp_ne (tgt := 294) hx hb dL_act_277 (by decide) (fun c_277 => ?_) (fun c_277 => ?_)
        · have hf := it_neg c_277 hf
          refine lv_iconst (v := (0 : Int32)) hx hb dL_act_294 (by decide) ?_
          obtain rfl := Option.some.inj hf
          refine W.widen (k := 22) (n := 264) (by decide) (by decide) ?_
          exact W.zret hx hb hr (by decide) (fun t ht hW => ⟨rfl, ⟨_, ⟨_, _, _, _, hX, hw, rfl⟩, by rw [ht]; exact hP, hD⟩, hS.F ht⟩) hS.2.2 dL_act_295 hlocks
        · have hf := it_pos c_277 hf
          refine lv_aload_n hx hb dL_act_280 rfl (lv_at hl 2 rfl) ?_
          refine lv_iconst (v := (0 : Int32)) hx hb dL_act_281 (by decide) ?_
          obtain ⟨q282, e_282, hf⟩ := bd_some hf
          refine k_remove hfl hZB hAn ⟨by decide, by decide⟩ hK hN hA (a := xa) (R := [(zr_a, .inl (T.1, (60, .inl zr))), (za_a, .inl (T.1, (16, .inl za))), (zg_a, .inl (T.1, (2, .inl zg)))]) hX hw (v := q282.1) (E' := q282.2) e_282 (fun H locs cells slots rm mc ms Pc Qc free hMt hrc hrs hR hpre hroom => vx_runSW (n := 2) (As := [.ref xa.1, .int (0 : Int32)]) (rest := []) ⟨hx, hb, hml, hown, hts⟩ hMt (vx_cwSW 2 hts gL_act_L_remove rfl hrc hrs hdS_L_removeA hR) hpre rfl rfl hl.1 rfl (lv_room (Nat.le_of_ble_eq_true rfl)) dL_act_282 hroom) ⟨hP, hD⟩ hS ⟨Nat.le_of_ble_eq_true rfl, Nat.le_of_ble_eq_true rfl⟩ (fun xc xB xo xh H locs hX hw hW hS => ?_)
          obtain ⟨hP, hD⟩ := hW
          have hP : va_P D vwCl ((zr_a, .inl (T.1, (60, .inl zr))) :: (za_a, .inl (T.1, (16, .inl za))) :: (zg_a, .inl (T.1, (2, .inl zg))) :: (XW T xa xc ++ PW T xB)) H := hP
          have hD : va_D A ((zr_a, .inl (T.1, (60, .inl zr))) :: (za_a, .inl (T.1, (16, .inl za))) :: (zg_a, .inl (T.1, (2, .inl zg))) :: (XW T xa xc ++ PW T xB)) := hD
          refine W.widen (k := 12) (n := 176) (by decide) (by decide) ?_
          refine lv_bipush (v := (-31 : Int32)) hx hb dL_act_285 (by decide) ?_
          refine lv_icmp_ne (tgt := 294) hx hb dL_act_287 (by decide) (fun c_287 => ?_) (fun c_287 => ?_)
          · have hf := it_neg c_287 hf
            refine lv_iconst (v := (0 : Int32)) hx hb dL_act_294 (by decide) ?_
            obtain rfl := Option.some.inj hf
            refine W.widen (k := 22) (n := 264) (by decide) (by decide) ?_
            exact W.zret hx hb hr (by decide) (fun t ht hW => ⟨rfl, ⟨_, ⟨_, _, _, _, hX, hw, rfl⟩, by rw [ht]; exact hP, hD⟩, hS.F ht⟩) hS.2.2 dL_act_295 hlocks
          · have hf := it_pos c_287 hf
            refine lv_iconst (v := (1 : Int32)) hx hb dL_act_290 (by decide) ?_
            refine lv_goto (tgt := 295) hx hb dL_act_291 (by decide) ?_
            obtain rfl := Option.some.inj hf
            refine W.widen (k := 22) (n := 264) (by decide) (by decide) ?_
            exact W.zret hx hb hr (by decide) (fun t ht hW => ⟨rfl, ⟨_, ⟨_, _, _, _, hX, hw, rfl⟩, by rw [ht]; exact hP, hD⟩, hS.F ht⟩) hS.2.2 dL_act_295 hlocks
  · have hf := it_neg c_17 hf
    refine lv_iload_n hx hb dL_act_20 rfl (lv_at hl 4 rfl) ?_
    refine lv_iload_n hx hb dL_act_21 rfl (lv_at hl 4 rfl) ?_
    refine lv_bipush (v := (14 : Int32)) hx hb dL_act_22 (by decide) ?_
    refine lv_ishr hx hb dL_act_24 ?_
    refine lv_bipush (v := (7 : Int32)) hx hb dL_act_25 (by decide) ?_
    refine lv_iand hx hb dL_act_27 ?_
    refine lv_if_ne (tgt := 36) hx hb dL_act_28 (by decide) (fun c_28 => ?_) (fun c_28 => ?_)
    · have hf := it_neg c_28 hf
      refine lv_bipush (v := (12 : Int32)) hx hb dL_act_36 (by decide) ?_
      exact w_L_act_b38 hfl C hZB hAn hA _ _ _ _ _ _ _ hf _ _ _ _ hX hw _ _ hP hD hS _ (lv_sub hl [2, 4, 5, 7, 0] rfl)
    · have hf := it_pos c_28 hf
      refine lv_bipush (v := (16 : Int32)) hx hb dL_act_31 (by decide) ?_
      refine lv_goto (tgt := 38) hx hb dL_act_33 (by decide) ?_
      exact w_L_act_b38 hfl C hZB hAn hA _ _ _ _ _ _ _ hf _ _ _ _ hX hw _ _ hP hD hS _ (lv_sub hl [2, 4, 5, 7, 0] rfl)
theorem c_L_act (l : Launch) (hfl : l.stackTraces = false) (D : va_G) (T : TY) (zr_a za_a zg_a : Nat) (xa : XA) (zr : Nat → Int32) (za : Nat → Int32) (zg : Nat → Int32) (E : DR) (x1 : Int32) (x2 : Int32) (res : Int32 × (Nat → Int32) × (Nat → Int32) × (Nat → Int32) × DR) (hf : f_L_act x1 x2 zr za zg E = some res) (n0 : Nat) (xc : XC) (xB : Nat → Option DB) (xo xh : Nat) (hX : XP xc xB xo xh E) (hw : WF E) (sz : Nat) : Met l yL_act wsL_act rmL_act (va_Pc [.ref xa.1, .int x1, .int x2, .ref zr_a, .ref za_a, .ref zg_a] (PMB D T ((zr_a, .inl (T.1, (60, .inl zr))) :: (za_a, .inl (T.1, (16, .inl za))) :: (zg_a, .inl (T.1, (2, .inl zg))) :: (XW T xa xc ++ PW T xB)) sz n0)) (Qm (some (.int res.1)) D (fun W9 => ∃ (xc : XC) (xB : Nat → Option DB) (xo xh : Nat), XP xc xB xo xh res.2.2.2.2 ∧ WF res.2.2.2.2 ∧ W9 = ((zr_a, .inl (T.1, (60, .inl res.2.1))) :: (za_a, .inl (T.1, (16, .inl res.2.2.1))) :: (zg_a, .inl (T.1, (2, .inl res.2.2.2.1))) :: (XW T xa xc ++ PW T xB))) (va_A ((zr_a, .inl (T.1, (60, .inl zr))) :: (za_a, .inl (T.1, (16, .inl za))) :: (zg_a, .inl (T.1, (2, .inl zg))) :: (XW T xa xc ++ PW T xB)) sz)) 22 264 (va_A ((zr_a, .inl (T.1, (60, .inl zr))) :: (za_a, .inl (T.1, (16, .inl za))) :: (zg_a, .inl (T.1, (2, .inl zg))) :: (XW T xa xc ++ PW T xB)) sz) :=
  metMB_of (by decide +kernel) rfl (Nat.le_of_ble_eq_true rfl) (fun p e s m args below meth c C hZB A hA hAn hP hD ls hl => w_L_act_b0 hfl C hZB hAn hA _ _ _ _ hf _ _ _ _ hX hw _ _ hP hD va_S.rf ls hl)
