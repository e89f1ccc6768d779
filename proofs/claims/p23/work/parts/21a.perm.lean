/-- worlds are told of their members alone: order is nothing -/
theorem va_P_mem {D : va_G} {cl : List vw_C} {ws : va_W} {H : Heap} : va_P D cl ws H ↔ ∀ q ∈ ws, va_at D cl q H :=
  ⟨fun h q hq => by
    obtain ⟨k, hk⟩ := List.mem_iff_getElem?.mp hq
    exact h k q hk, fun h k q hk => h q (List.mem_of_getElem? hk)⟩
theorem va_P_perm {D : va_G} {cl : List vw_C} {ws ws' : va_W} {H : Heap} (p : ws.Perm ws') (h : va_P D cl ws H) : va_P D cl ws' H := va_P_mem.mpr (fun q hq => va_P_mem.mp h q (p.mem_iff.mpr hq))
theorem va_D_mem {A : Nat → Prop} {ws : va_W} : va_D A ws ↔ (ws.map Prod.fst).Nodup ∧ ∀ q ∈ ws, A q.1 := by
  constructor
  · intro h
    refine ⟨?_, fun q hq => ?_⟩
    · unfold List.Nodup
      rw [List.pairwise_iff_getElem]
      intro i j hi hj hij he
      rw [List.length_map] at hi hj
      rw [List.getElem_map, List.getElem_map] at he
      have := h.1 i j ws[i] ws[j] (List.getElem?_eq_getElem hi) (List.getElem?_eq_getElem hj) he
      omega
    · obtain ⟨k, hk⟩ := List.mem_iff_getElem?.mp hq
      exact h.2 k q hk
  · intro h
    refine ⟨fun i j p q hi hj he => ?_, fun k q hk => h.2 q (List.mem_of_getElem? hk)⟩
    have hn := h.1
    unfold List.Nodup at hn
    rw [List.pairwise_iff_getElem] at hn
    obtain ⟨hi1, hi2⟩ := List.getElem?_eq_some_iff.mp hi
    obtain ⟨hj1, hj2⟩ := List.getElem?_eq_some_iff.mp hj
    rcases Nat.lt_trichotomy i j with q1 | q1 | q1
    · exact absurd (by rw [List.getElem_map, List.getElem_map, hi2, hj2]; exact he) (hn i j (by rw [List.length_map]; exact hi1) (by rw [List.length_map]; exact hj1) q1)
    · exact q1
    · exact absurd (by rw [List.getElem_map, List.getElem_map, hi2, hj2]; exact he.symm) (hn j i (by rw [List.length_map]; exact hj1) (by rw [List.length_map]; exact hi1) q1)
theorem va_D_perm {A : Nat → Prop} {ws ws' : va_W} (p : ws.Perm ws') (h : va_D A ws) : va_D A ws' := by
  have h1 := va_D_mem.mp h
  exact va_D_mem.mpr ⟨(p.map Prod.fst).nodup_iff.mp h1.1, fun q hq => h1.2 q (p.mem_iff.mpr hq)⟩
theorem va_P_left {D : va_G} {cl : List vw_C} {w1 w2 : va_W} {H : Heap} (h : va_P D cl (w1 ++ w2) H) : va_P D cl w1 H := va_P_mem.mpr (fun q hq => va_P_mem.mp h q (List.mem_append_left _ hq))
theorem va_D_left {A : Nat → Prop} {w1 w2 : va_W} (h : va_D A (w1 ++ w2)) : va_D A w1 := by
  have h1 := va_D_mem.mp h
  rw [List.map_append] at h1
  exact va_D_mem.mpr ⟨(List.nodup_append.mp h1.1).1, fun q hq => h1.2 q (List.mem_append_left _ hq)⟩
theorem va_A_mem {ws : va_W} {sz q : Nat} : va_A ws sz q ↔ (∃ c ∈ ws, c.1 = q) ∨ sz ≤ q := by
  constructor
  · rintro (⟨k, e, hk⟩ | h)
    · exact Or.inl ⟨(q, e), List.mem_of_getElem? hk, rfl⟩
    · exact Or.inr h
  · rintro (⟨c, hc, rfl⟩ | h)
    · obtain ⟨k, hk⟩ := List.mem_iff_getElem?.mp hc
      exact Or.inl ⟨k, c.2, hk⟩
    · exact Or.inr h
/-- behind a call that has the first cells: the others stay -/
theorem va_joinA {A0 : Nat → Prop} {D : va_G} {cl : List vw_C} {wc wr w1 : va_W} {H H1 : Heap} (hP : va_P D cl (wc ++ wr) H) (hD : va_D A0 (wc ++ wr)) (hk : ∀ q, q < H.size → ¬ va_A wc H.size q → H1[q]? = H[q]?) (hF : ∀ q, va_A wc H.size q → A0 q) (hP1 : va_P D cl w1 H1) (hD1 : va_D (va_A wc H.size) w1) : va_P D cl (w1 ++ wr) H1 ∧ va_D A0 (w1 ++ wr) := by
  have d := va_D_mem.mp hD
  rw [List.map_append] at d
  have dn := List.nodup_append.mp d.1
  have out : ∀ q ∈ wr, q.1 < H.size ∧ ¬ va_A wc H.size q.1 := by
    intro q hq
    have hl : q.1 < H.size := (va_P_mem.mp hP q (List.mem_append_right _ hq)).lt
    refine ⟨hl, fun z => ?_⟩
    rcases va_A_mem.mp z with ⟨c, hc, he⟩ | z
    · exact dn.2.2 c.1 (List.mem_map_of_mem hc) q.1 (List.mem_map_of_mem hq) he
    · omega
  have d1 := va_D_mem.mp hD1
  refine ⟨va_P_mem.mpr (fun q hq => ?_), va_D_mem.mpr ⟨?_, fun q hq => ?_⟩⟩
  · rcases List.mem_append.mp hq with hq | hq
    · exact va_P_mem.mp hP1 q hq
    · exact (va_P_mem.mp hP q (List.mem_append_right _ hq)).kept (hk q.1 (out q hq).1 (out q hq).2)
  · rw [List.map_append]
    refine List.nodup_append.mpr ⟨d1.1, dn.2.1, fun a ha b hb he => ?_⟩
    obtain ⟨c, hc, rfl⟩ := List.mem_map.mp ha
    obtain ⟨q, hq, rfl⟩ := List.mem_map.mp hb
    exact (out q hq).2 (he ▸ d1.2 c hc)
  · rcases List.mem_append.mp hq with hq | hq
    · exact hF q.1 (d1.2 q hq)
    · exact d.2 q (List.mem_append_right _ hq)
