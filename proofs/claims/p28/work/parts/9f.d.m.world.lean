/-! ===== worlds of any length: order does not matter; pieces; a pool of drawings ===== -/
def WD (D : va_G) (A : Nat → Prop) (W : va_W) (H : Heap) : Prop := va_P D vwCl W H ∧ va_D A W
theorem vaP_iff {D : va_G} {W : va_W} {H : Heap} : va_P D vwCl W H ↔ ∀ q, q ∈ W → va_at D vwCl q H := by
  constructor
  · intro h q hq
    obtain ⟨k, e⟩ := List.mem_iff_getElem?.mp hq
    exact h k q e
  · intro h k q e
    exact h q (List.mem_of_getElem? e)
theorem vaD_iff {A : Nat → Prop} {W : va_W} : va_D A W ↔ (W.map Prod.fst).Nodup ∧ ∀ q, q ∈ W → A q.1 := by
  constructor
  · rintro ⟨h1, h2⟩
    refine ⟨?_, fun q hq => ?_⟩
    · unfold List.Nodup
      rw [List.pairwise_iff_getElem]
      intro i j hi hj hij he
      rw [List.getElem_map, List.getElem_map] at he
      rw [List.length_map] at hi hj
      have := h1 i j _ _ (List.getElem?_eq_getElem hi) (List.getElem?_eq_getElem hj) he
      omega
    · obtain ⟨k, e⟩ := List.mem_iff_getElem?.mp hq
      exact h2 k q e
  · rintro ⟨h1, h2⟩
    unfold List.Nodup at h1
    rw [List.pairwise_iff_getElem] at h1
    refine ⟨fun i j p q hi hj he => ?_, fun k q e => h2 q (List.mem_of_getElem? e)⟩
    obtain ⟨hiL, ei⟩ := List.getElem?_eq_some_iff.mp hi
    obtain ⟨hjL, ej⟩ := List.getElem?_eq_some_iff.mp hj
    rcases Nat.lt_trichotomy i j with h | h | h
    · exact absurd (by rw [List.getElem_map, List.getElem_map, ei, ej]; exact he) (h1 i j (by rw [List.length_map]; exact hiL) (by rw [List.length_map]; exact hjL) h)
    · exact h
    · exact absurd (by rw [List.getElem_map, List.getElem_map, ei, ej]; exact he.symm) (h1 j i (by rw [List.length_map]; exact hjL) (by rw [List.length_map]; exact hiL) h)
theorem WD.perm {D : va_G} {A : Nat → Prop} {W W' : va_W} {H : Heap} (hp : W.Perm W') (h : WD D A W H) : WD D A W' H := by
  obtain ⟨h1, h2⟩ := h
  rw [vaP_iff] at h1
  rw [vaD_iff] at h2
  refine ⟨vaP_iff.mpr fun q hq => h1 q (hp.mem_iff.mpr hq), vaD_iff.mpr ⟨(hp.map Prod.fst).nodup_iff.mp h2.1, fun q hq => h2.2 q (hp.mem_iff.mpr hq)⟩⟩
theorem WD.split {D : va_G} {A : Nat → Prop} {W1 W2 : va_W} {H : Heap} : WD D A (W1 ++ W2) H ↔ WD D A W1 H ∧ WD D A W2 H ∧ ∀ x, x ∈ W1 → ∀ y, y ∈ W2 → x.1 ≠ y.1 := by
  unfold WD
  rw [vaP_iff, vaP_iff, vaP_iff, vaD_iff, vaD_iff, vaD_iff, List.map_append, List.nodup_append]
  constructor
  · rintro ⟨h1, ⟨n1, n2, n3⟩, h3⟩
    exact ⟨⟨fun q hq => h1 q (List.mem_append_left _ hq), n1, fun q hq => h3 q (List.mem_append_left _ hq)⟩, ⟨fun q hq => h1 q (List.mem_append_right _ hq), n2, fun q hq => h3 q (List.mem_append_right _ hq)⟩, fun x hx y hy => n3 _ (List.mem_map_of_mem hx) _ (List.mem_map_of_mem hy)⟩
  · rintro ⟨⟨h1, n1, a1⟩, ⟨h2, n2, a2⟩, hd⟩
    refine ⟨fun q hq => (List.mem_append.mp hq).elim (h1 q) (h2 q), ⟨n1, n2, fun x hx y hy => ?_⟩, fun q hq => (List.mem_append.mp hq).elim (a1 q) (a2 q)⟩
    obtain ⟨x', hx', rfl⟩ := List.mem_map.mp hx
    obtain ⟨y', hy', rfl⟩ := List.mem_map.mp hy
    exact hd x' hx' y' hy'
/-- the front in another order (or less of it), by places -/
theorem WD.pre {D : va_G} {A : Nat → Prop} {W W' R : va_W} {H : Heap} (js : List Nat) (hn : va_nd js = true) (hj : js.map (fun i => W[i]?) = W'.map some) (h : WD D A (W ++ R) H) : WD D A (W' ++ R) H := by
  obtain ⟨⟨p1, d1⟩, h2, h3⟩ := WD.split.mp h
  have hsub : ∀ q, q ∈ W' → q ∈ W := by
    intro q hq
    have h4 : some q ∈ W'.map some := List.mem_map_of_mem hq
    rw [← hj] at h4
    obtain ⟨i, -, e⟩ := List.mem_map.mp h4
    exact List.mem_of_getElem? e
  refine WD.split.mpr ⟨⟨vaP_iff.mpr fun q hq => vaP_iff.mp p1 q (hsub q hq), d1.sub js hn hj⟩, h2, fun x hx y hy => h3 x (hsub x hx) y hy⟩
/-- the front's cells at other contents, the addresses as they were -/
theorem WD.rot {D : va_G} {A : Nat → Prop} {W1 W2 R : va_W} {H : Heap} (h : WD D A (W1 ++ (W2 ++ R)) H) : WD D A (W2 ++ (W1 ++ R)) H := by
  refine h.perm ?_
  rw [← List.append_assoc, ← List.append_assoc]
  exact List.Perm.append_right R List.perm_append_comm
theorem nd_of {js : List Nat} (h : js.Nodup) : va_nd js = true := by
  induction js with
  | nil => rfl
  | cons a t ih =>
    rw [List.nodup_cons] at h
    simp only [va_nd]
    simp [h.1, ih h.2]
section
variable {p : Program} {l : Launch} {e : Env} {R : Room} {s : State} {m : MethodId} {args : Array Value} {below : List Frame} {meth : Method} {c : Code} {H : Heap} {locs : List Loc} {cells slots : Nat} {Q : State → Prop}
variable {pc : Nat} {ls : Array Slot} {rest st0 : List Value} {a : Array Value} {mc ms : Nat}
/-- behind a call: the callee's world stands in front, whatever else there is -/
theorem callL {v : Option Value} {D : va_G} {Wp : va_W → Prop} {A : Nat → Prop} {wc wr : va_W}
    (hr : va_Run p l e R s m args below meth c H locs cells slots mc ms (F0 m pc ls st0) rest (Qm v D Wp (va_A wc H.size) a) (va_A wc H.size))
    (hW : WD D A (wc ++ wr) H) (hS : va_S A s.heap H locs) (hA : ∀ q, s.heap.size ≤ q → A q)
    (kk : ∀ (W' : va_W) (H1 : Heap) (locs1 : List Loc), Wp W' → WD D A (W' ++ wr) H1 → va_S A s.heap H1 locs1 → W p l e R s m args below meth c H1 locs1 (cells + mc) (slots + ms) Q (F0 m (pc + 3) ls (v.toList ++ rest))) : W p l e R s m args below meth c H locs cells slots Q (F0 m pc ls st0) := by
  refine callAo (isC := List.range wc.length) (isR := (List.range wr.length).map (fun i => wc.length + i)) (wr := wr) hr hW.1 hW.2 hS hA ?_ ?_ ?_ ?_ (fun W' H1 locs1 hw hP hD hS1 => kk W' H1 locs1 hw (WD.perm List.perm_append_comm ⟨hP, hD⟩) hS1)
  · refine List.ext_getElem? fun i => ?_
    rw [List.getElem?_map, List.getElem?_map]
    by_cases h : i < wc.length
    · rw [List.getElem?_range h, Option.map_some, List.getElem?_append_left h, List.getElem?_eq_getElem h, Option.map_some]
    · rw [List.getElem?_eq_none (by rw [List.length_range]; omega), List.getElem?_eq_none (by omega)]
      rfl
  · refine List.ext_getElem? fun i => ?_
    rw [List.getElem?_map, List.getElem?_map, List.getElem?_map]
    by_cases h : i < wr.length
    · rw [List.getElem?_range h, Option.map_some, Option.map_some, List.getElem?_append_right (by omega), Nat.add_sub_cancel_left, List.getElem?_eq_getElem h, Option.map_some]
    · rw [List.getElem?_eq_none (by rw [List.length_range]; omega), List.getElem?_eq_none (by omega)]
      rfl
  · refine nd_of ?_
    have h := List.nodup_range (n := wr.length)
    unfold List.Nodup at h ⊢
    rw [List.pairwise_map]
    exact h.imp (fun {a b} hab he => hab (by omega))
  · rw [List.all_eq_true]
    intro i hi
    obtain ⟨j, hj, rfl⟩ := List.mem_map.mp hi
    simp [List.contains_eq_mem]
end
