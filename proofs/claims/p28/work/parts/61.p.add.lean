/-! ===== a ribbon more ===== -/
def adD (D : DR) (f t w : Nat) : DR := (D.1 + 1, D.2.1, D.2.2.1, (fun k => if k = D.1 then f else D.2.2.2.1 k), (fun k => if k = D.1 then t else D.2.2.2.2.1 k), fun k => if k = D.1 then w else D.2.2.2.2.2 k)
theorem adD_wf {D : DR} (hw : WF D) {f t w : Nat} (hn : dN D < 20) (hf : f < 16) (ht : t < 16) (hc : f / 4 ≠ t / 4) (h : w ≤ 50) : WF (adD D f t w) := by
  obtain ⟨w1, w2, w3, w4⟩ := hw
  refine ⟨hn, w2, w3, fun r hr => ?_⟩
  have hr : r < dN D + 1 := hr
  show (if r = dN D then f else dF D r) < 16 ∧ (if r = dN D then t else dG D r) < 16 ∧ (if r = dN D then f else dF D r) / 4 ≠ (if r = dN D then t else dG D r) / 4 ∧ (if r = dN D then w else dW D r) ≤ 50
  by_cases q : r = dN D
  · rw [if_pos q, if_pos q, if_pos q]; exact ⟨hf, ht, hc, h⟩
  · rw [if_neg q, if_neg q, if_neg q]; exact w4 r (by omega)
theorem RR_add {a : Nat → Int32} {g : Nat → Nat} {n v : Nat} (h : RR a g n) : RR (upd a n (nI v)) (fun k => if k = n then v else g k) (n + 1) := by
  intro r hr
  by_cases q : r = n
  · rw [q, upd_q]
    show _ = nI (if n = n then v else g n)
    rw [if_pos rfl]
  · rw [upd_w q, h r (by omega)]
    show _ = nI (if r = n then v else g r)
    rw [if_neg q]
theorem p_addRibbon {fr to wd : Nat → Int32} {D : DR} (hf : RR fr (dF D) (dN D)) (hg : RR to (dG D) (dN D)) (hd : RR wd (dW D) (dN D)) (hn : dN D < 20) (f t w : Nat) :
    ∃ fr' to' wd', f_X1_addRibbon (nI f) (nI t) (nI w) fr to wd (nI (dN D)) = some (fr', to', wd', nI (dN D + 1)) ∧ RR fr' (dF (adD D f t w)) (dN D + 1) ∧ RR to' (dG (adD D f t w)) (dN D + 1) ∧ RR wd' (dW (adD D f t w)) (dN D + 1) := by
  refine ⟨_, _, _, ?_, RR_add hf, RR_add hg, RR_add hd⟩
  unfold f_X1_addRibbon
  simp only [fa_lit, nme]
  rw [if_neg (nlt_nI (by omega) (by omega) (by omega)), if_pos ((lt_nI (by omega) (by omega)).mpr hn), if_pos (gd_nI hn (by omega)), if_pos (gd_nI hn (by omega)), if_pos (gd_nI hn (by omega)), cl_nI (by omega), nI_step]
  rfl
