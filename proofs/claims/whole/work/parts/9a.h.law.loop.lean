/-! ===== the law: its loop, laid by wip/gen/genloop.py ===== -/
theorem loop_in {t L : Nat} (hL : L ≤ 2048) (ht : 4 * t ≤ L) (h : ¬ Int32.ofNat L - (4 : Int32) < nI (4 * t)) : 4 * t + 4 ≤ L := by
  rcases Nat.lt_or_ge L (4 * t + 4) with q | q
  · refine absurd ?_ h
    rw [Int32.lt_iff_toInt_lt, nI_toInt (by omega), Int32.toInt_sub, show (Int32.ofNat L).toInt = (L : Int) from nI_toInt (n := L) (by omega), show ((4 : Int32)).toInt = 4 from by decide]
    rw [Int.bmod_eq_of_le (by omega) (by omega)]
    omega
  · exact q
theorem loop_next (t : Nat) : nI (4 * (t + 1)) = nI (4 * t) + (4 : Int32) := by rw [fa_lit 4, nI_step, Nat.mul_add]

set_option maxHeartbeats 4000000 in
set_option maxRecDepth 100000 in
theorem law_loop {p : Program} {l : Launch} {e : Env} {s : State} {m : MethodId} {args : Array Value} {below : List Frame} {meth : Method} {cd : Code} {D : va_G} {T : TY} {b L : Nat} {xs : Nat → Int32} {a : XA} {ma : MA} {oa : Nat} {Q : State → Prop} (C : LX p l s m args cd D T b L xs) (hL : L ≤ 2048)
    (hend : ∀ (H : Heap) (locs : List Loc) (cells slots : Nat) (ls : Array Slot), va_S (fun q => s.heap.size ≤ q) s.heap H locs → cells ≤ 601024 → slots ≤ 7293034 → W p l e room_1 s m args below meth cd H locs cells slots Q (F0 m 1303 ls [])) :
    ∀ (n t : Nat), 4 * t ≤ L → L + 4 ≤ 4 * (t + n) → ∀ (H : Heap) (locs : List Loc) (ls : Array Slot), LI T D s a ma oa H → va_S (fun q => s.heap.size ≤ q) s.heap H locs → lv_has ls 9 [(0, .ref b), (1, .ref a.1), (2, .ref ma.1), (3, .ref oa), (4, .int (nI (4 * t)))] → W p l e room_1 s m args below meth cd H locs (45 + 6 * t) (1394 + 88 * t) Q (F0 m 23 ls []) := by
  obtain ⟨hx, hb, hml, hown, hts, hK, hN, hZ, hfl, hX, hbl⟩ := id C
  have hbA : ¬ (fun q : Nat => s.heap.size ≤ q) b := Nat.not_le.mpr hbl
  intro n
  induction n with
  | zero => intro t h1 h2; exact absurd h2 (by omega)
  | succ n ih =>
    intro t ht htn H locs ls hI hS hl
    refine lv_iload hx hb dL_law_23 (lv_at hl 4 rfl) ?_
    refine lv_aload_n hx hb dL_law_25 rfl (lv_at hl 0 rfl) ?_
    refine va_slen hx hb hX hbl hbA hS dL_law_26 ?_
    refine lv_iconst (v := (4 : Int32)) hx hb dL_law_27 (by decide) ?_
    refine lv_isub hx hb dL_law_28 ?_
    refine lv_icmp_gt (tgt := 1303) hx hb dL_law_29 (by decide) (fun _ => ?_) (fun hng => ?_)
    · exact hend H locs _ _ ls hS (by omega) (by omega)
    · have hi4 : 4 * t + 4 ≤ L := loop_in hL ht hng
      have kk : ∀ (H1 : Heap) (locs1 : List Loc) (ls1 : Array Slot), LI T D s a ma oa H1 → va_S (fun q => s.heap.size ≤ q) s.heap H1 locs1 → lv_has ls1 9 [(0, .ref b), (1, .ref a.1), (2, .ref ma.1), (3, .ref oa), (4, .int (nI (4 * t)))] → W p l e room_1 s m args below meth cd H1 locs1 (45 + 6 * t + 6) (1394 + 88 * t + 88) Q (F0 m 1297 ls1 []) := by
        intro H1 locs1 ls1 hI1 hS1 hl1
        refine lv_iinc (v := nI (4 * (t + 1))) (lv' := [(4, .int (nI (4 * (t + 1)))), (0, .ref b), (1, .ref a.1), (2, .ref ma.1), (3, .ref oa)]) hx hb dL_law_1297 hl1 (k := 4) rfl (by rw [loop_next, show (4 : Int32) = Int32.ofInt 4 from by decide]) (by decide) rfl (fun ls hl => ?_)
        refine lv_goto (tgt := 23) hx hb dL_law_1300 (by decide) ?_
        exact ih (t + 1) (by omega) (by omega) H1 locs1 ls hI1 hS1 (lv_sub hl [1, 2, 3, 4, 0] rfl)
      have hrm : 45 + 6 * t + 12 ≤ room_1.cells ∧ 1394 + 88 * t + 176 ≤ room_1.slots := ⟨show 45 + 6 * t + 12 ≤ 601024 by omega, show 1394 + 88 * t + 176 ≤ 7293034 by omega⟩
      refine lv_aload_n hx hb dL_law_32 rfl (lv_at hl 0 rfl) ?_
      refine lv_iload hx hb dL_law_33 (lv_at hl 4 rfl) ?_
      refine va_sld hx hb hX hbl hbA hS (vp_in_nI (by omega) (by omega)) dL_law_35 ?_
      refine lv_bipush (v := (31 : Int32)) hx hb dL_law_36 (by decide) ?_
      refine lv_iand hx hb dL_law_38 ?_
      refine lv_topi (fun y ey => ?_)
      by_cases c0 : y = (0 : Int32)
      · refine lv_tableIn (tgt := 152) hx hb dL_law_39 (by rw [c0]; decide) (by rw [c0]; decide) (by rw [c0]; rfl) (by decide) ?_
        exact law_ribbon C hL hi4 hI hS hl hrm kk
      by_cases c1 : y = (1 : Int32)
      · refine lv_tableIn (tgt := 232) hx hb dL_law_39 (by rw [c1]; decide) (by rw [c1]; decide) (by rw [c1]; rfl) (by decide) ?_
        exact law_widen C hL hi4 hI hS hl hrm kk
      by_cases c2 : y = (2 : Int32)
      · refine lv_tableIn (tgt := 300) hx hb dL_law_39 (by rw [c2]; decide) (by rw [c2]; decide) (by rw [c2]; rfl) (by decide) ?_
        exact law_remove C hL hi4 hI hS hl hrm kk
      by_cases c3 : y = (3 : Int32)
      · refine lv_tableIn (tgt := 356) hx hb dL_law_39 (by rw [c3]; decide) (by rw [c3]; decide) (by rw [c3]; rfl) (by decide) ?_
        exact law_swap C hL hi4 hI hS hl hrm kk
      by_cases c4 : y = (4 : Int32)
      · refine lv_tableIn (tgt := 424) hx hb dL_law_39 (by rw [c4]; decide) (by rw [c4]; decide) (by rw [c4]; rfl) (by decide) ?_
        exact law_sweep C hL hi4 hI hS hl hrm kk
      by_cases c5 : y = (5 : Int32)
      · refine lv_tableIn (tgt := 437) hx hb dL_law_39 (by rw [c5]; decide) (by rw [c5]; decide) (by rw [c5]; rfl) (by decide) ?_
        exact law_order C hL hi4 hI hS hl hrm kk
      by_cases c6 : y = (6 : Int32)
      · refine lv_tableIn (tgt := 493) hx hb dL_law_39 (by rw [c6]; decide) (by rw [c6]; decide) (by rw [c6]; rfl) (by decide) ?_
        exact law_trim C hL hi4 hI hS hl hrm kk
      by_cases c7 : y = (7 : Int32)
      · refine lv_tableIn (tgt := 549) hx hb dL_law_39 (by rw [c7]; decide) (by rw [c7]; decide) (by rw [c7]; rfl) (by decide) ?_
        exact law_settle C hL hi4 hI hS hl hrm kk
      by_cases c8 : y = (8 : Int32)
      · refine lv_tableIn (tgt := 562) hx hb dL_law_39 (by rw [c8]; decide) (by rw [c8]; decide) (by rw [c8]; rfl) (by decide) ?_
        exact law_append C hL hi4 hI hS hl hrm kk
      by_cases c9 : y = (9 : Int32)
      · refine lv_tableIn (tgt := 618) hx hb dL_law_39 (by rw [c9]; decide) (by rw [c9]; decide) (by rw [c9]; rfl) (by decide) ?_
        exact law_clearBuffer C hL hi4 hI hS hl hrm kk
      by_cases c10 : y = (10 : Int32)
      · refine lv_tableIn (tgt := 631) hx hb dL_law_39 (by rw [c10]; decide) (by rw [c10]; decide) (by rw [c10]; rfl) (by decide) ?_
        exact law_firstError C hL hi4 hI hS hl hrm kk
      by_cases c11 : y = (11 : Int32)
      · refine lv_tableIn (tgt := 644) hx hb dL_law_39 (by rw [c11]; decide) (by rw [c11]; decide) (by rw [c11]; rfl) (by decide) ?_
        exact law_load C hL hi4 hI hS hl hrm kk
      by_cases c12 : y = (12 : Int32)
      · refine lv_tableIn (tgt := 688) hx hb dL_law_39 (by rw [c12]; decide) (by rw [c12]; decide) (by rw [c12]; rfl) (by decide) ?_
        exact law_keep C hL hi4 hI hS hl hrm kk
      by_cases c13 : y = (13 : Int32)
      · refine lv_tableIn (tgt := 744) hx hb dL_law_39 (by rw [c13]; decide) (by rw [c13]; decide) (by rw [c13]; rfl) (by decide) ?_
        exact law_goBack C hL hi4 hI hS hl hrm kk
      by_cases c14 : y = (14 : Int32)
      · refine lv_tableIn (tgt := 800) hx hb dL_law_39 (by rw [c14]; decide) (by rw [c14]; decide) (by rw [c14]; rfl) (by decide) ?_
        exact law_undo C hL hi4 hI hS hl hrm kk
      by_cases c15 : y = (15 : Int32)
      · refine lv_tableIn (tgt := 844) hx hb dL_law_39 (by rw [c15]; decide) (by rw [c15]; decide) (by rw [c15]; rfl) (by decide) ?_
        exact law_postOf C hL hi4 hI hS hl hrm kk
      by_cases c16 : y = (16 : Int32)
      · refine lv_tableIn (tgt := 912) hx hb dL_law_39 (by rw [c16]; decide) (by rw [c16]; decide) (by rw [c16]; rfl) (by decide) ?_
        exact law_ribbonOf C hL hi4 hI hS hl hrm kk
      by_cases c17 : y = (17 : Int32)
      · refine lv_tableIn (tgt := 980) hx hb dL_law_39 (by rw [c17]; decide) (by rw [c17]; decide) (by rw [c17]; rfl) (by decide) ?_
        exact law_count C hL hi4 hI hS hl hrm kk
      by_cases c18 : y = (18 : Int32)
      · refine lv_tableIn (tgt := 1036) hx hb dL_law_39 (by rw [c18]; decide) (by rw [c18]; decide) (by rw [c18]; rfl) (by decide) ?_
        exact law_ifSwapped C hL hi4 hI hS hl hrm kk
      by_cases c19 : y = (19 : Int32)
      · refine lv_tableIn (tgt := 1104) hx hb dL_law_39 (by rw [c19]; decide) (by rw [c19]; decide) (by rw [c19]; rfl) (by decide) ?_
        exact law_bestOrder C hL hi4 hI hS hl hrm kk
      by_cases c20 : y = (20 : Int32)
      · refine lv_tableIn (tgt := 1160) hx hb dL_law_39 (by rw [c20]; decide) (by rw [c20]; decide) (by rw [c20]; rfl) (by decide) ?_
        exact law_ifSettled C hL hi4 hI hS hl hrm kk
      by_cases c21 : y = (21 : Int32)
      · refine lv_tableIn (tgt := 1173) hx hb dL_law_39 (by rw [c21]; decide) (by rw [c21]; decide) (by rw [c21]; rfl) (by decide) ?_
        exact law_mainRibbon C hL hi4 hI hS hl hrm kk
      by_cases c22 : y = (22 : Int32)
      · refine lv_tableIn (tgt := 1186) hx hb dL_law_39 (by rw [c22]; decide) (by rw [c22]; decide) (by rw [c22]; rfl) (by decide) ?_
        exact law_height C hL hi4 hI hS hl hrm kk
      by_cases c23 : y = (23 : Int32)
      · refine lv_tableIn (tgt := 1242) hx hb dL_law_39 (by rw [c23]; decide) (by rw [c23]; decide) (by rw [c23]; rfl) (by decide) ?_
        exact law_throughShare C hL hi4 hI hS hl hrm kk
      by_cases c24 : y = (24 : Int32)
      · refine lv_tableIn (tgt := 1283) hx hb dL_law_39 (by rw [c24]; decide) (by rw [c24]; decide) (by rw [c24]; rfl) (by decide) ?_
        exact law_digest C hL hi4 hI hS hl hrm kk
      refine lv_tableOut (tgt := 1297) hx hb dL_law_39 (tb_out y 0 24 (by decide) (by decide) (fun k hk => ?_)) (by decide) ?_
      · match k, hk with
        | 0, _ => exact c0
        | 1, _ => exact c1
        | 2, _ => exact c2
        | 3, _ => exact c3
        | 4, _ => exact c4
        | 5, _ => exact c5
        | 6, _ => exact c6
        | 7, _ => exact c7
        | 8, _ => exact c8
        | 9, _ => exact c9
        | 10, _ => exact c10
        | 11, _ => exact c11
        | 12, _ => exact c12
        | 13, _ => exact c13
        | 14, _ => exact c14
        | 15, _ => exact c15
        | 16, _ => exact c16
        | 17, _ => exact c17
        | 18, _ => exact c18
        | 19, _ => exact c19
        | 20, _ => exact c20
        | 21, _ => exact c21
        | 22, _ => exact c22
        | 23, _ => exact c23
        | 24, _ => exact c24
        | k + 25, hk => exact absurd hk (by omega)
      · exact W.widen (k := 45 + 6 * t + 6) (n := 1394 + 88 * t + 88) (by omega) (by omega) (kk H locs ls hI hS hl)
