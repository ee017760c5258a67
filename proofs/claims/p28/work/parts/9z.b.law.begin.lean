/-! ===== the law: what its tables and its start give ===== -/
theorem nwm_in : ∀ q ∈ NWm, Cond.methodLinkNest q.1 q.2.1 q.2.2.1 q.2.2.2 ∈ lw_tbl := by decide +kernel
theorem nwf_in : ∀ q ∈ NWf, Cond.fieldLinkNest q.1 q.2.1 q.2.2.1 q.2.2.2.1 q.2.2.2.2.1 q.2.2.2.2.2 ∈ lw_tbl := by decide +kernel
theorem ao_in : Cond.arrayOver (.object RX1) ∈ lw_tbl := by decide +kernel
theorem txl_in : ∀ q ∈ TXl, Cond.stringRef RX6 q.1 q.2 ∈ lw_tbl := by decide +kernel
theorem dcl_in : ∀ q ∈ DCl, Cond.declares (DCm q) ∈ lw_tbl := by decide +kernel
theorem cal_in : ∀ q ∈ CAl, Cond.castable q q ∈ lw_tbl := by decide +kernel
theorem ncl_in : ∀ q ∈ NCl, Cond.not (Cond.castable q.1 q.2) ∈ flatC (Jvm.Cond.and given_1 narrow_1) := by decide +kernel
theorem exl_in : ∀ q ∈ TXl, Cond.exactly (.string RX6 q.1) "java/lang/String" ∈ flatC (Jvm.Cond.and given_1 narrow_1) := by decide +kernel
theorem zq1_in : Cond.laysStatic Bundle.tN "UNASSIGNED_STACK" Bundle.steD ∈ lw_tbl ∧ Cond.initialized Bundle.tN ∈ lw_tbl ∧ Cond.isRef (.static Bundle.tN "UNASSIGNED_STACK" Bundle.steD) ∈ flatC (Jvm.Cond.and given_1 narrow_1) := by decide +kernel
theorem zq2_in : Cond.laysStatic Bundle.tN "SUPPRESSED_SENTINEL" Bundle.listD ∈ lw_tbl ∧ Cond.isRef (.static Bundle.tN "SUPPRESSED_SENTINEL" Bundle.listD) ∈ flatC (Jvm.Cond.and given_1 narrow_1) := by decide +kernel
theorem lar_in : Cond.arrayClass .int ∈ lw_tbl := by decide +kernel
theorem is_in : Cond.instantiable RX0 4 ∈ lw_tbl ∧ Cond.instantiable RX1 6 ∈ lw_tbl ∧ Cond.instantiable RX2 5 ∈ lw_tbl ∧ Cond.instantiable RX3 3 ∈ lw_tbl ∧ Cond.instantiable RX4 2 ∈ lw_tbl ∧ Cond.instantiable RX5 8 ∈ lw_tbl ∧ Cond.instantiable RX6 8 ∈ lw_tbl := by decide +kernel
theorem arr_prim {args : Array Value} {s : State} {ty : FieldType} (h : (Cond.arrayClass ty).before args s = true) : ∃ cA, ArrOfT s cA ty ∧ s.vm.findClass ("[" ++ ty.toString) = some cA := by
  obtain ⟨c, k, comp, h1, h2, h3⟩ := Cond.arrayClass_spec h
  exact ⟨c, fun n z => ⟨fun k h => (by cases h), k, h2, comp, h3⟩, h1⟩
theorem arr_obj {args : Array Value} {s : State} {C : String} (h : (Cond.arrayOver (.object C)).before args s = true) : ∃ cA, ArrOfT s cA (.object C) ∧ va_RA s cA (.object C) := by
  obtain ⟨comp, c, k, h1, h2, h3, h4, h5⟩ := Cond.arrayOver_spec h
  exact ⟨c, fun n z => ⟨fun k h => (by cases h), k, h3, comp, h4⟩, k, comp, h3, h4, h1, h5⟩
theorem str_ref {args : Array Value} {s : State} {t : Term} {C : String} (h : (Cond.exactly t C).before args s = true) : ∃ a, t.eval args s none [] s = some (.ref a) := by
  obtain ⟨a, c, cell, k, h1, -⟩ := Cond.exactly_spec h
  exact ⟨a, h1⟩
theorem law_facts {args : Array Value} {s : State} (hts : ∀ w ∈ lw_tbl, w.before args s = true) (hgv : (Jvm.Cond.and given_1 narrow_1).before args s = true) : ∃ (D : va_G) (T : TY), va_K D vwCl (tyL T) s ∧ NW s ∧ ZT s := by
  have hfl := flat_of_before _ hgv
  obtain ⟨a1, f1, g1⟩ := arr_prim (hts _ lar_in)
  obtain ⟨a3, f3, g3⟩ := arr_obj (hts _ ao_in)
  obtain ⟨i0, i1, i2, i3, i4, i5, i6⟩ := is_in
  obtain ⟨c0, s0, k0⟩ := u_known hts wsL_law_in0_wsX00 (hts _ i0)
  obtain ⟨c1, s1, k1⟩ := u_known hts wsL_law_in0_wsX10 (hts _ i1)
  obtain ⟨c2, s2, k2⟩ := u_known hts wsL_law_in0_wsX20 (hts _ i2)
  obtain ⟨c3, s3, k3⟩ := u_known hts wsL_law_in0_wsX30 (hts _ i3)
  obtain ⟨c4, s4, k4⟩ := u_known hts wsL_law_in0_wsX40 (hts _ i4)
  obtain ⟨c5, s5, k5⟩ := u_known hts wsL_law_in0_wsX50 (hts _ i5)
  obtain ⟨c6, s6, k6⟩ := u_known hts wsL_law_in0_wsX60 (hts _ i6)
  refine ⟨(fun k => [c0, c1, c2, c3, c4, c5, c6].getD k c0, fun k => [s0, s1, s2, s3, s4, s5, s6].getD k s0), (a1, a1, a3, a1), ⟨fun k q hq => ?_, fun k q hq => ?_⟩, ⟨fun q hq => va_Nw.of rfl (hts _ (nwm_in q hq)), fun q hq => va_Nw.of rfl (hts _ (nwf_in q hq)), hts _ ao_in⟩, ?_⟩
  · match k, hq with
    | 0, hq => cases hq; exact k0
    | 1, hq => cases hq; exact k1
    | 2, hq => cases hq; exact k2
    | 3, hq => cases hq; exact k3
    | 4, hq => cases hq; exact k4
    | 5, hq => cases hq; exact k5
    | 6, hq => cases hq; exact k6
    | k + 7, hq => exact absurd hq (by simp [vwCl])
  · match k, hq with
    | 0, hq => cases hq; exact ⟨f1, g1⟩
    | 1, hq => cases hq; exact ⟨f1, g1⟩
    | 2, hq => cases hq; exact ⟨f3, g3⟩
    | k + 3, hq => exact absurd hq (by simp [tyL])
  · refine ⟨vx_Zqof (hts _ zq1_in.1) (hts _ zq1_in.2.1) (hfl _ zq1_in.2.2) (fun a ha => Nat.not_le.mpr ha), vx_Zqof (hts _ zq2_in.1) (hts _ zq1_in.2.1) (hfl _ zq2_in.2) (fun a ha => Nat.not_le.mpr ha), fun q hq => ?_, fun q hq => va_Nw.of rfl (hts _ (dcl_in q hq)), fun q hq => va_Nw.of rfl (hts _ (cal_in q hq)), fun q hq => va_Nc.of (hfl _ (ncl_in q hq))⟩
    obtain ⟨a, ha⟩ := str_ref (hfl _ (exl_in q hq))
    exact ⟨a, vk_R.of (hts _ (txl_in q hq)) ha⟩
