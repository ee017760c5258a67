/-! ===== ways: the most that goes through, told by ways ===== -/
theorem thr_le_cut (D : DR) (x : Nat) (hx : x < 256) : thr D 100 ≤ cuT D x 100 := lmN_at (fun x => cuT D x 100) x 255 (by omega)
theorem p_waysLoop {fr to wd : Nat → Int32} {D : DR} (hf : RR fr (dF D) (dN D)) (hg : RR to (dG D) (dN D)) (hd : RR wd (dW D) (dN D)) (hw : WF D) :
    ∀ (k v i F : Nat) (nu rb qu : Nat → Int32) (f : Nat → Nat), v + k = 1000 → k < F → i ≤ v → RR nu f (dN D) → FL D f → (∀ S, NS S → net D f S = (v : Int)) →
      ∃ nu' rb' qu', f_X5_mostByWays_b12 fr to wd (nI (dN D)) F (nI v) (nI i) nu rb qu = some (nI (thr D 100), nu', rb', qu') := by
  have hn20 := hw.1
  intro k
  induction k using Nat.strongRecOn with
  | _ k ih =>
  intro v i F nu rb qu f hv hF hi hu hl hnet
  cases F with
  | zero => omega
  | succ F =>
    rcases p_findWay hf hg hd hw hu hl rb qu with ⟨n, Q, rb', qu', h1, h2, h3⟩ | ⟨e, n, Q, rb0, qu', i', r, h1, h2, h3, h4, h5, h6, h7⟩
    · have hfin := full_thr hw hl hnet h2 h3
      refine ⟨nu, rb', qu', ?_⟩
      simp only [f_X5_mostByWays_b12, fa_lit]
      rw [if_neg (nle_nI (by omega) (by omega) (by omega)), h1]
      simp only [bs]
      rw [if_pos trivial, hfin]
    · have h12 := BF_n h4
      have hP := PA_of h4 h2 h3 h5 h6 h7
      have hQ : (if n = n then e else Q n) = e := if_pos rfl
      obtain ⟨c, k1, k2, k3, k4⟩ := p_room hf hg hd hw hu hl hP (nI e) n 0 1000000 FU (by omega) (by omega) (FU_big (by omega)) (by omega) (by omega)
      rw [hQ] at k1 k4
      obtain ⟨nu', g', q1, q2, q3, q4⟩ := p_along hf hg hw hP (nI e) (c := c) n 0 FU n nu f (by omega) (by omega) (FU_big (by omega)) hu hl (fun _ _ _ _ _ => rfl) (by
        show pe D f (upd rb0 e (nI r)) c n (if n = n then e else Q n)
        rw [hQ]
        exact k4)
      rw [hQ] at q1 q4
      have hnet' : ∀ S, NS S → net D g' S = ((v + c : Nat) : Int) := by
        intro S hS
        rw [q4 S hS.1, hnet S hS, ch_f (hS.2 e h2)]
        omega
      have hvc : v + c ≤ 1000 := by
        have h8 := net_le hw q3 0
        have h9 := cuT_le hw 0 100
        rw [hnet' _ (sd_NS 0)] at h8
        omega
      obtain ⟨nu2, rb2, qu2, g1⟩ := ih (1000 - (v + c)) (by omega) (v + c) (i + 1) F nu' (upd rb0 e (nI r)) qu' g' (by omega) (by omega) (by omega) q2 q3 hnet'
      refine ⟨nu2, rb2, qu2, ?_⟩
      simp only [f_X5_mostByWays_b12, fa_lit, nme]
      rw [if_neg (nle_nI (by omega) (by omega) (by omega)), h1]
      simp only [bs]
      rw [if_neg (fun z => (m1_ne (by omega)).mp z)]
      have r1 : f_X5_roomTo nu (upd rb0 e (nI r)) fr to wd (nI e) = some (nI c) := by
        unfold f_X5_roomTo
        simp only [fa_lit]
        exact k1
      have r2 : f_X5_addAlong (upd rb0 e (nI r)) fr to (nI (dN D)) (nI e) (nI c) nu = some nu' := by
        unfold f_X5_addAlong
        simp only [fa_lit]
        exact q1
      rw [r1]
      simp only [bs]
      rw [r2]
      simp only [bs]
      rw [nI_step, nI_step]
      exact g1
theorem p_mostByWays {fr to wd : Nat → Int32} {D : DR} (hf : RR fr (dF D) (dN D)) (hg : RR to (dG D) (dN D)) (hd : RR wd (dW D) (dN D)) (hw : WF D) (nu rb qu : Nat → Int32) :
    ∃ nu' rb' qu', f_X5_mostByWays fr to wd (nI (dN D)) nu rb qu = some (nI (thr D 100), nu', rb', qu') := by
  have hn20 := hw.1
  obtain ⟨n0, h1, h2⟩ := p_fill 20 (nI 0) nu (by omega)
  unfold f_X5_mostByWays
  simp only [fa_lit] at h1 ⊢
  rw [h1]
  simp only [bs]
  exact p_waysLoop hf hg hd hw 1000 0 0 FU n0 rb qu (fun _ => 0) (by omega) (FU_big (by omega)) (by omega) (fun r hr => h2 r (by omega)) (fun r hr => ⟨Nat.zero_le _, fun _ => rfl⟩)
    (fun S _ => by
      unfold net
      have h := zN_cong (f := fun r => ((0 : Nat) : Int) * (ch S (dF D r) - ch S (dG D r))) (g := fun r => (((fun _ => 0) r : Nat) : Int)) (n := dN D) (fun k _ => by simp)
      rw [h, zN_sN, sN_0 _ _ (fun _ _ => rfl)])
