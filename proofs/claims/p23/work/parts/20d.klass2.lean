set_option maxHeartbeats 4000000 in
set_option maxRecDepth 100000 in
theorem c_X2_first (l : Launch) (i : Nat) (g1 : i < 2 ^ 20) : Met l yX2_first wsX2_first ({ frames := 0, cells := 0, slots := 0, locals := 0 }) (va_Pc [.int (nI i)] (fun _ => True)) (vp_Si (fun r => r = nI (fst i))) 0 0 (fun _ => False) := by
  refine Met.ofW (cc := cX2_first) (maxL := 1) (ret := (some .int)) (by decide) rfl ?_
  intro p e s m args below meth c s₁ B hml hv
  obtain ⟨rfl, -⟩ := hv
  have hx := B.exec
  have hb := B.bytes
  have hr := B.returns
  have hts := atoms_spec (ws := wsX2_first) B.pre
  have hown : s.vm.findClass RX2 = some m.cls := findClass_of_methodNamed B.named
  have hlocks := B.notSynchronized
  have hl := lv_entry ([.int (nI i)]) (n := 1) (Nat.le_of_ble_eq_true rfl)
  rw [lg_entry_eq]
  generalize (lg_sl ([.int (nI i)]) ++ List.replicate (1 - (lg_sl ([.int (nI i)])).length) Slot.unset).toArray = ls at hl ⊢
  have hl : lv_has ls 1 [(0, .int (nI i))] := hl
  refine lv_iload_n hx hb dX2_first_0 rfl (lv_at hl 0 rfl) ?_
  refine lv_bipush (v := (nI 64)) hx hb dX2_first_1 (by decide) ?_
  refine lv_icmp_ge (tgt := 17) hx hb dX2_first_3 (by decide) (fun c_3 => ?_) (fun c_3 => ?_)
  · have c_3 : 64 ≤ i := (nI_leI (a := 64) (b := i) (by omega) (by omega)).mp c_3
    refine lv_iconst (v := (nI 0)) hx hb dX2_first_17 (by decide) ?_
    exact W.iret (v := (nI 0)) hx hb hr (fun t ht hW => ⟨(nI 0), rfl, (show (nI 0) = nI (fst i) from by show _ = nI (fst i); unfold fst; rw [if_neg (by omega)]), ht⟩) (fun _ h9 => absurd h9 List.not_mem_nil) dX2_first_18
  · have c_3 : ¬ 64 ≤ i := fun q => c_3 ((nI_leI (a := 64) (b := i) (by omega) (by omega)).mpr q)
    refine lv_bipush (v := (nI 7)) hx hb dX2_first_6 (by decide) ?_
    refine lv_iload_n hx hb dX2_first_8 rfl (lv_at hl 0 rfl) ?_
    refine lv_imul hx hb dX2_first_9 ?_
    refine tpi (pk_mul _ _) ?_
    refine lv_sipush (v := (nI 255)) hx hb dX2_first_10 (by decide) ?_
    refine lv_iand hx hb dX2_first_13 ?_
    refine tpi (and255 (by omega)) ?_
    refine lv_goto (tgt := 18) hx hb dX2_first_14 (by decide) ?_
    exact W.iret (v := (nI ((7 * i) % 256))) hx hb hr (fun t ht hW => ⟨(nI ((7 * i) % 256)), rfl, (show (nI ((7 * i) % 256)) = nI (fst i) from by show _ = nI (fst i); unfold fst; rw [if_pos (by omega)]), ht⟩) (fun _ h9 => absurd h9 List.not_mem_nil) dX2_first_18
set_option maxHeartbeats 4000000 in
set_option maxRecDepth 100000 in
theorem c_X2_difference (l : Launch) (dC : Nat → ClassId) (dI : Nat → Nat → Nat) (cB cI : ClassId) (b : Nat → Nat) (sz st us : Nat) (mem pl ln : Nat → Nat) (i : Nat) (g1 : i < 8192) (bmem : ∀ j, mem j < 256) : Met l yX2_difference wsX2_difference ({ frames := 1, cells := 0, slots := 0, locals := 20 }) (va_Pc [.ref (b 0), .int (nI i)] (fun U => va_P (dC, dI) vwCl (sw cB cI b sz st us mem pl ln) U.heap ∧ va_K (dC, dI) vwCl [(cI, .int), (cB, .byte)] U)) (vp_Si (fun r => r = nI (dif mem i))) 0 0 (fun _ => False) := by
  refine Met.ofW (cc := cX2_difference) (maxL := 2) (ret := (some .int)) (by decide) rfl ?_
  intro p e s m args below meth c s₁ B hml hv
  obtain ⟨rfl, hP, hK⟩ := hv
  have hx := B.exec
  have hb := B.bytes
  have hr := B.returns
  have hts := atoms_spec (ws := wsX2_difference) B.pre
  have hown : s.vm.findClass RX2 = some m.cls := findClass_of_methodNamed B.named
  have hlocks := B.notSynchronized
  have in_X2 : ∀ w ∈ wsX20, w ∈ wsX2_difference := fun _ h => List.mem_cons_of_mem _ (List.mem_append_right _ (h))
  have lk_1 := hts (.fieldLink RX2 9 "GlulxHeap$State" "bytes" "[B") (List.mem_of_getElem? (i := 1) rfl)
  have hl := lv_entry ([.ref (b 0), .int (nI i)]) (n := 2) (Nat.le_of_ble_eq_true rfl)
  rw [lg_entry_eq]
  generalize (lg_sl ([.ref (b 0), .int (nI i)]) ++ List.replicate (2 - (lg_sl ([.ref (b 0), .int (nI i)])).length) Slot.unset).toArray = ls at hl ⊢
  have hl : lv_has ls 2 [(0, .ref (b 0)), (1, .int (nI i))] := hl
  refine lv_aload_n hx hb dX2_difference_0 rfl (lv_at hl 0 rfl) ?_
  refine va_get (D := (dC, dI)) (ci := 2) (v := .ref (b 1)) (C := RX2) (T := TX2) (N := 6) hx hb hts in_X2 hown hK hP 0 rfl rfl 0 (by decide) lk_1 (fun _ h9 => h9) rfl dX2_difference_1 ?_
  refine lv_iload_n hx hb dX2_difference_4 rfl (lv_at hl 1 rfl) ?_
  refine va_bald hx hb hK hP 1 1 rfl rfl (vp_in_nI (by omega) (by omega)) dX2_difference_5 ?_
  refine tpi (bf_at (by omega)) ?_
  have w_5 := bmem i
  refine lv_sipush (v := (nI 255)) hx hb dX2_difference_6 (by decide) ?_
  refine lv_iand hx hb dX2_difference_9 ?_
  refine tpi (sb_and (by omega)) ?_
  refine lv_iload_n hx hb dX2_difference_10 rfl (lv_at hl 1 rfl) ?_
  refine vp_callSi (W.runS (As := [.int (nI i)]) (rest := [.int (nI (mem i))]) ⟨hx, hb, hml, hown, hts⟩ (c_X2_first l i (by omega)) (va_cwS 1 hts gX2_difference_X2_first rfl rfl rfl (by decide +kernel) ⟨Nat.le_of_ble_eq_true rfl, Nat.le_of_ble_eq_true rfl⟩) ⟨fun a9 U g9 mk9 q9 => ⟨q9.1, trivial⟩, fun U hU hW => ⟨rfl, trivial⟩⟩ rfl rfl hl.1 rfl (lv_room (Nat.le_of_ble_eq_true rfl)) dX2_difference_11 ⟨Nat.zero_le _, Nat.zero_le _⟩) (fun r_11 hw => ?_)
  try dsimp only at hw
  subst hw
  have wf_11 := fst_lt i
  refine lv_ixor hx hb dX2_difference_14 ?_
  refine tpi (xorN _ _) ?_
  exact W.iret (v := (nI (dif mem i))) hx hb hr (fun t ht hW => ⟨(nI (dif mem i)), rfl, (show (nI (dif mem i)) = nI (dif mem i) from rfl), ht⟩) (fun _ h9 => absurd h9 List.not_mem_nil) dX2_difference_15
set_option maxHeartbeats 4000000 in
set_option maxRecDepth 100000 in
theorem c_X2_has (l : Launch) (dC : Nat → ClassId) (dI : Nat → Nat → Nat) (cB cI : ClassId) (b : Nat → Nat) (sz st us : Nat) (mem pl ln : Nat → Nat) (x n : Nat) (g1 : x < 2 ^ 62) (g2 : n < 2 ^ 31) (g3 : sz ≤ 8192) : Met l yX2_has wsX2_has ({ frames := 0, cells := 0, slots := 0, locals := 0 }) (va_Pc [.ref (b 0), .long (lN x), .int (nI n)] (fun U => va_P (dC, dI) vwCl (sw cB cI b sz st us mem pl ln) U.heap ∧ va_K (dC, dI) vwCl [(cI, .int), (cB, .byte)] U)) (vp_Si (fun r => ((x + n ≤ sz) ∧ r = nI 1) ∨ (¬ (x + n ≤ sz) ∧ r = nI 0))) 0 0 (fun _ => False) := by
  refine Met.ofW (cc := cX2_has) (maxL := 4) (ret := (some .boolean)) (by decide) rfl ?_
  intro p e s m args below meth c s₁ B hml hv
  obtain ⟨rfl, hP, hK⟩ := hv
  have hx := B.exec
  have hb := B.bytes
  have hr := B.returns
  have hts := atoms_spec (ws := wsX2_has) B.pre
  have hown : s.vm.findClass RX2 = some m.cls := findClass_of_methodNamed B.named
  have hlocks := B.notSynchronized
  have in_X2 : ∀ w ∈ wsX20, w ∈ wsX2_has := fun _ h => List.mem_cons_of_mem _ (List.mem_append_right _ (h))
  have lk_1 := hts (.fieldLink RX2 32 "GlulxHeap$State" "size" "I") (List.mem_of_getElem? (i := 1) rfl)
  have hl := lv_entry ([.ref (b 0), .long (lN x), .int (nI n)]) (n := 4) (Nat.le_of_ble_eq_true rfl)
  rw [lg_entry_eq]
  generalize (lg_sl ([.ref (b 0), .long (lN x), .int (nI n)]) ++ List.replicate (4 - (lg_sl ([.ref (b 0), .long (lN x), .int (nI n)])).length) Slot.unset).toArray = ls at hl ⊢
  have hl : lv_has ls 4 [(0, .ref (b 0)), (1, .long (lN x)), (3, .int (nI n))] := hl
  refine lv_lload_n hx hb dX2_has_0 rfl (lv_at hl 1 rfl) ?_
  refine lv_lconst (v := lN 0) hx hb dX2_has_1 (by decide) ?_
  refine W.lcmp hx hb dX2_has_2 ?_
  refine lv_if_lt (tgt := 22) hx hb dX2_has_3 (by decide) (fun c_3 => ?_) (fun c_3 => ?_)
  · have c_3 : x < 0 := (pk_lLT (a := x) (b := 0) (by omega) (by omega)).mp ((lg_cmp_lt _ _).mp c_3)
    omega
  · have c_3 : ¬ x < 0 := fun q => c_3 ((lg_cmp_lt _ _).mpr ((pk_lLT (a := x) (b := 0) (by omega) (by omega)).mpr q))
    refine lv_lload_n hx hb dX2_has_6 rfl (lv_at hl 1 rfl) ?_
    refine lv_aload_n hx hb dX2_has_7 rfl (lv_at hl 0 rfl) ?_
    refine va_get (D := (dC, dI)) (ci := 2) (v := .int (nI sz)) (C := RX2) (T := TX2) (N := 6) hx hb hts in_X2 hown hK hP 0 rfl rfl 3 (by decide) lk_1 (fun _ h9 => h9) rfl dX2_has_8 ?_
    refine lv_iload_n hx hb dX2_has_11 rfl (lv_at hl 2 rfl) ?_
    refine lv_isub hx hb dX2_has_12 ?_
    refine tpi (rfl) ?_
    refine lv_i2l (v := (nI sz - nI n).toInt64) hx hb dX2_has_13 rfl ?_
    refine W.lcmp hx hb dX2_has_14 ?_
    refine lv_if_gt (tgt := 22) hx hb dX2_has_15 (by decide) (fun c_15 => ?_) (fun c_15 => ?_)
    · have c_15 := (lg_cmp_gt _ _).mp c_15
      refine lv_iconst (v := (nI 0)) hx hb dX2_has_22 (by decide) ?_
      exact W.zret (v := (nI 0)) (ty := .boolean) hx hb hr (by decide) (fun t ht hW => ⟨(nI 0), rfl, (Or.inr ⟨by have q := (has_lt g1 g2 g3).mp c_15; omega, rfl⟩), ht⟩) (fun _ h9 => absurd h9 List.not_mem_nil) dX2_has_23
    · have c_15 : ¬ ((nI sz - nI n).toInt64) < (lN x) := fun q => c_15 ((lg_cmp_gt _ _).mpr q)
      refine lv_iconst (v := (nI 1)) hx hb dX2_has_18 (by decide) ?_
      refine lv_goto (tgt := 23) hx hb dX2_has_19 (by decide) ?_
      exact W.zret (v := (nI 1)) (ty := .boolean) hx hb hr (by decide) (fun t ht hW => ⟨(nI 1), rfl, (Or.inl ⟨Nat.not_lt.mp (fun z => c_15 ((has_lt g1 g2 g3).mpr z)), rfl⟩), ht⟩) (fun _ h9 => absurd h9 List.not_mem_nil) dX2_has_23
set_option maxHeartbeats 4000000 in
set_option maxRecDepth 100000 in
theorem c_X2_hasN (l : Launch) (dC : Nat → ClassId) (dI : Nat → Nat → Nat) (cB cI : ClassId) (b : Nat → Nat) (sz st us : Nat) (mem pl ln : Nat → Nat) (x : Int64) (n : Nat) (g1 : x < lN 0) : Met l yX2_has wsX2_has ({ frames := 0, cells := 0, slots := 0, locals := 0 }) (va_Pc [.ref (b 0), .long x, .int (nI n)] (fun U => va_P (dC, dI) vwCl (sw cB cI b sz st us mem pl ln) U.heap ∧ va_K (dC, dI) vwCl [(cI, .int), (cB, .byte)] U)) (vp_Si (fun r => r = nI 0)) 0 0 (fun _ => False) := by
  refine Met.ofW (cc := cX2_has) (maxL := 4) (ret := (some .boolean)) (by decide) rfl ?_
  intro p e s m args below meth c s₁ B hml hv
  obtain ⟨rfl, hP, hK⟩ := hv
  have hx := B.exec
  have hb := B.bytes
  have hr := B.returns
  have hts := atoms_spec (ws := wsX2_has) B.pre
  have hown : s.vm.findClass RX2 = some m.cls := findClass_of_methodNamed B.named
  have hlocks := B.notSynchronized
  have hl := lv_entry ([.ref (b 0), .long x, .int (nI n)]) (n := 4) (Nat.le_of_ble_eq_true rfl)
  rw [lg_entry_eq]
  generalize (lg_sl ([.ref (b 0), .long x, .int (nI n)]) ++ List.replicate (4 - (lg_sl ([.ref (b 0), .long x, .int (nI n)])).length) Slot.unset).toArray = ls at hl ⊢
  have hl : lv_has ls 4 [(0, .ref (b 0)), (1, .long x), (3, .int (nI n))] := hl
  refine lv_lload_n hx hb dX2_has_0 rfl (lv_at hl 1 rfl) ?_
  refine lv_lconst (v := lN 0) hx hb dX2_has_1 (by decide) ?_
  refine W.lcmp hx hb dX2_has_2 ?_
  refine lv_if_lt (tgt := 22) hx hb dX2_has_3 (by decide) (fun c_3 => ?_) (fun c_3 => ?_)
  · have c_3 := (lg_cmp_lt _ _).mp c_3
    refine lv_iconst (v := (nI 0)) hx hb dX2_has_22 (by decide) ?_
    exact W.zret (v := (nI 0)) (ty := .boolean) hx hb hr (by decide) (fun t ht hW => ⟨(nI 0), rfl, (show (nI 0) = nI 0 from rfl), ht⟩) (fun _ h9 => absurd h9 List.not_mem_nil) dX2_has_23
  · have c_3 : ¬ x < (lN 0) := fun q => c_3 ((lg_cmp_lt _ _).mpr q)
    exact absurd g1 c_3
set_option maxHeartbeats 4000000 in
set_option maxRecDepth 100000 in
theorem c_X2_number (l : Launch) (dC : Nat → ClassId) (dI : Nat → Nat → Nat) (cB cI : ClassId) (b : Nat → Nat) (sz st us : Nat) (mem pl ln : Nat → Nat) (x k : Nat) (g1 : x + k ≤ 8192) (g2 : k ≤ 4) (bmem : ∀ j, mem j < 256) : Met l yX2_number wsX2_number ({ frames := 0, cells := 0, slots := 0, locals := 0 }) (va_Pc [.ref (b 0), .int (nI x), .int (nI k)] (fun U => va_P (dC, dI) vwCl (sw cB cI b sz st us mem pl ln) U.heap ∧ va_K (dC, dI) vwCl [(cI, .int), (cB, .byte)] U)) (vp_Sl (fun r => r = lN (num mem x k))) 0 0 (fun _ => False) := by
  refine Met.ofW (cc := cX2_number) (maxL := 6) (ret := (some .long)) (by decide) rfl ?_
  intro p e s m args below meth c s₁ B hml hv
  obtain ⟨rfl, hP, hK⟩ := hv
  have hx := B.exec
  have hb := B.bytes
  have hr := B.returns
  have hts := atoms_spec (ws := wsX2_number) B.pre
  have hown : s.vm.findClass RX2 = some m.cls := findClass_of_methodNamed B.named
  have hlocks := B.notSynchronized
  have in_X2 : ∀ w ∈ wsX20, w ∈ wsX2_number := fun _ h => List.mem_cons_of_mem _ (List.mem_append_right _ (h))
  have lk_1 := hts (.fieldLink RX2 9 "GlulxHeap$State" "bytes" "[B") (List.mem_of_getElem? (i := 1) rfl)
  have hl := lv_entry ([.ref (b 0), .int (nI x), .int (nI k)]) (n := 6) (Nat.le_of_ble_eq_true rfl)
  rw [lg_entry_eq]
  generalize (lg_sl ([.ref (b 0), .int (nI x), .int (nI k)]) ++ List.replicate (6 - (lg_sl ([.ref (b 0), .int (nI x), .int (nI k)])).length) Slot.unset).toArray = ls at hl ⊢
  have hl : lv_has ls 6 [(0, .ref (b 0)), (1, .int (nI x)), (2, .int (nI k))] := hl
  refine lv_lconst (v := lN 0) hx hb dX2_number_0 (by decide) ?_
  refine lv_lstore_n (lv' := [(3, .long (lN 0)), (0, .ref (b 0)), (1, .int (nI x)), (2, .int (nI k))]) hx hb dX2_number_1 rfl hl (by decide) rfl (fun ls hl => ?_)
  refine lv_iconst (v := (nI 0)) hx hb dX2_number_2 (by decide) ?_
  refine lv_istore (lv' := [(5, .int (nI 0)), (3, .long (lN 0)), (0, .ref (b 0)), (1, .int (nI x)), (2, .int (nI k))]) hx hb dX2_number_3 hl (by decide) rfl (fun ls hl => ?_)
  refine lp_still (σ := Nat × Nat) (fun ⟨i, v⟩ => i ≤ k ∧ v = num mem x i) (fun ⟨i, v⟩ => k - i) (fun ⟨i, v⟩ => [(5, .int (nI i)), (3, .long (lN v)), (0, .ref (b 0)), (1, .int (nI x)), (2, .int (nI k))]) ?_ ((0, 0)) (⟨Nat.zero_le _, rfl⟩) (lv_sub hl [0, 1, 2, 3, 4] rfl)
  intro ⟨i, v⟩ hI ih ls hl
  have hl : lv_has ls 6 [(5, .int (nI i)), (3, .long (lN v)), (0, .ref (b 0)), (1, .int (nI x)), (2, .int (nI k))] := hl
  have hI : i ≤ k ∧ v = num mem x i := hI
  obtain ⟨hi, hv⟩ := hI
  have ih_5 := ih
  refine lv_iload hx hb dX2_number_5 (lv_at hl 0 rfl) ?_
  refine lv_iload_n hx hb dX2_number_7 rfl (lv_at hl 4 rfl) ?_
  refine lv_icmp_ge (tgt := 37) hx hb dX2_number_8 (by decide) (fun c_8 => ?_) (fun c_8 => ?_)
  · have c_8 : k ≤ i := (nI_leI (a := k) (b := i) (by omega) (by omega)).mp c_8
    refine lv_lload_n hx hb dX2_number_37 rfl (lv_at hl 1 rfl) ?_
    exact W.lret (v := (lN v)) hx hb hr (fun t ht hW => ⟨(lN v), rfl, (show (lN v) = lN (num mem x k) from by rw [hv, show i = k by omega]), ht⟩) (fun _ h9 => absurd h9 List.not_mem_nil) dX2_number_38
  · have c_8 : ¬ k ≤ i := fun q => c_8 ((nI_leI (a := k) (b := i) (by omega) (by omega)).mpr q)
    have hb32 : v < 2 ^ 32 := by rw [hv]; exact num_lt4 bmem (by omega)
    refine lv_lload_n hx hb dX2_number_11 rfl (lv_at hl 1 rfl) ?_
    refine lv_bipush (v := (nI 8)) hx hb dX2_number_12 (by decide) ?_
    refine lv_lshl hx hb dX2_number_14 (shl8l _) ?_
    refine lv_aload_n hx hb dX2_number_15 rfl (lv_at hl 2 rfl) ?_
    refine va_get (D := (dC, dI)) (ci := 2) (v := .ref (b 1)) (C := RX2) (T := TX2) (N := 6) hx hb hts in_X2 hown hK hP 0 rfl rfl 0 (by decide) lk_1 (fun _ h9 => h9) rfl dX2_number_16 ?_
    refine lv_iload_n hx hb dX2_number_19 rfl (lv_at hl 3 rfl) ?_
    refine lv_iload hx hb dX2_number_20 (lv_at hl 0 rfl) ?_
    refine lv_iadd hx hb dX2_number_22 ?_
    refine tpi (nI_add _ _) ?_
    refine va_bald hx hb hK hP 1 1 rfl rfl (vp_in_nI (by omega) (by omega)) dX2_number_23 ?_
    refine tpi (bf_at (by omega)) ?_
    have w_23 := bmem (x + i)
    refine lv_sipush (v := (nI 255)) hx hb dX2_number_24 (by decide) ?_
    refine lv_iand hx hb dX2_number_27 ?_
    refine tpi (sb_and (by omega)) ?_
    refine lv_i2l (v := lN (mem (x + i))) hx hb dX2_number_28 (nI_l (by omega)) ?_
    refine lv_lor hx hb dX2_number_29 ?_
    refine tpl (or8l w_23 (by omega)) ?_
    refine lv_lstore_n (lv' := [(3, .long (lN (v * 256 + (mem (x + i))))), (5, .int (nI i)), (0, .ref (b 0)), (1, .int (nI x)), (2, .int (nI k))]) hx hb dX2_number_30 rfl hl (by decide) rfl (fun ls hl => ?_)
    refine lv_iinc (v := (nI (i + 1))) (lv' := [(5, .int (nI (i + 1))), (3, .long (lN (v * 256 + (mem (x + i))))), (0, .ref (b 0)), (1, .int (nI x)), (2, .int (nI k))]) hx hb dX2_number_31 hl (k := 1) rfl (nI_inc _) (by decide) rfl (fun ls hl => ?_)
    refine lv_goto (tgt := 5) hx hb dX2_number_34 (by decide) ?_
    exact ih_5 (i + 1, v * 256 + (mem (x + i))) (⟨by omega, by rw [hv]; rfl⟩) (show k - (i + 1) < k - i by omega) ls (lv_sub hl [0, 1, 2, 3, 4] rfl)
set_option maxHeartbeats 4000000 in
set_option maxRecDepth 100000 in
theorem c_X2_allZero (l : Launch) (dC : Nat → ClassId) (dI : Nat → Nat → Nat) (cB cI : ClassId) (b : Nat → Nat) (sz st us : Nat) (mem pl ln : Nat → Nat) (x k : Nat) (g1 : x + k ≤ 8192) (bmem : ∀ j, mem j < 256) : Met l yX2_allZero wsX2_allZero ({ frames := 0, cells := 0, slots := 0, locals := 0 }) (va_Pc [.ref (b 0), .int (nI x), .int (nI k)] (fun U => va_P (dC, dI) vwCl (sw cB cI b sz st us mem pl ln) U.heap ∧ va_K (dC, dI) vwCl [(cI, .int), (cB, .byte)] U)) (vp_Si (fun r => ((allZ mem x k) ∧ r = nI 1) ∨ (¬ (allZ mem x k) ∧ r = nI 0))) 0 0 (fun _ => False) := by
  refine Met.ofW (cc := cX2_allZero) (maxL := 4) (ret := (some .boolean)) (by decide) rfl ?_
  intro p e s m args below meth c s₁ B hml hv
  obtain ⟨rfl, hP, hK⟩ := hv
  have hx := B.exec
  have hb := B.bytes
  have hr := B.returns
  have hts := atoms_spec (ws := wsX2_allZero) B.pre
  have hown : s.vm.findClass RX2 = some m.cls := findClass_of_methodNamed B.named
  have hlocks := B.notSynchronized
  have in_X2 : ∀ w ∈ wsX20, w ∈ wsX2_allZero := fun _ h => List.mem_cons_of_mem _ (List.mem_append_right _ (h))
  have lk_1 := hts (.fieldLink RX2 9 "GlulxHeap$State" "bytes" "[B") (List.mem_of_getElem? (i := 1) rfl)
  have hl := lv_entry ([.ref (b 0), .int (nI x), .int (nI k)]) (n := 4) (Nat.le_of_ble_eq_true rfl)
  rw [lg_entry_eq]
  generalize (lg_sl ([.ref (b 0), .int (nI x), .int (nI k)]) ++ List.replicate (4 - (lg_sl ([.ref (b 0), .int (nI x), .int (nI k)])).length) Slot.unset).toArray = ls at hl ⊢
  have hl : lv_has ls 4 [(0, .ref (b 0)), (1, .int (nI x)), (2, .int (nI k))] := hl
  refine lv_iconst (v := (nI 0)) hx hb dX2_allZero_0 (by decide) ?_
  refine lv_istore_n (lv' := [(3, .int (nI 0)), (0, .ref (b 0)), (1, .int (nI x)), (2, .int (nI k))]) hx hb dX2_allZero_1 rfl hl (by decide) rfl (fun ls hl => ?_)
  refine lp_still (σ := Nat) (fun i => i ≤ k ∧ allZ mem x i) (fun i => k - i) (fun i => [(3, .int (nI i)), (0, .ref (b 0)), (1, .int (nI x)), (2, .int (nI k))]) ?_ 0 (⟨Nat.zero_le _, fun j hj => absurd hj (Nat.not_lt_zero _)⟩) (lv_sub hl [0, 1, 2, 3] rfl)
  intro i hI ih ls hl
  have hl : lv_has ls 4 [(3, .int (nI i)), (0, .ref (b 0)), (1, .int (nI x)), (2, .int (nI k))] := hl
  have hI : i ≤ k ∧ allZ mem x i := hI
  obtain ⟨hi, hv⟩ := hI
  have ih_2 := ih
  refine lv_iload_n hx hb dX2_allZero_2 rfl (lv_at hl 0 rfl) ?_
  refine lv_iload_n hx hb dX2_allZero_3 rfl (lv_at hl 3 rfl) ?_
  refine lv_icmp_ge (tgt := 26) hx hb dX2_allZero_4 (by decide) (fun c_4 => ?_) (fun c_4 => ?_)
  · have c_4 : k ≤ i := (nI_leI (a := k) (b := i) (by omega) (by omega)).mp c_4
    refine lv_iconst (v := (nI 1)) hx hb dX2_allZero_26 (by decide) ?_
    exact W.zret (v := (nI 1)) (ty := .boolean) hx hb hr (by decide) (fun t ht hW => ⟨(nI 1), rfl, Or.inl ⟨by rw [show k = i by omega]; exact hv, rfl⟩, ht⟩) (fun _ h9 => absurd h9 List.not_mem_nil) dX2_allZero_27
  · have c_4 : ¬ k ≤ i := fun q => c_4 ((nI_leI (a := k) (b := i) (by omega) (by omega)).mpr q)
    refine lv_aload_n hx hb dX2_allZero_7 rfl (lv_at hl 1 rfl) ?_
    refine va_get (D := (dC, dI)) (ci := 2) (v := .ref (b 1)) (C := RX2) (T := TX2) (N := 6) hx hb hts in_X2 hown hK hP 0 rfl rfl 0 (by decide) lk_1 (fun _ h9 => h9) rfl dX2_allZero_8 ?_
    refine lv_iload_n hx hb dX2_allZero_11 rfl (lv_at hl 2 rfl) ?_
    refine lv_iload_n hx hb dX2_allZero_12 rfl (lv_at hl 0 rfl) ?_
    refine lv_iadd hx hb dX2_allZero_13 ?_
    refine tpi (nI_add _ _) ?_
    refine va_bald hx hb hK hP 1 1 rfl rfl (vp_in_nI (by omega) (by omega)) dX2_allZero_14 ?_
    refine tpi (bf_at (by omega)) ?_
    have w_14 := bmem (x + i)
    refine lv_if_eq (tgt := 20) hx hb dX2_allZero_15 (by decide) (fun c_15 => ?_) (fun c_15 => ?_)
    · refine lv_iinc (v := (nI (i + 1))) (lv' := [(3, .int (nI (i + 1))), (0, .ref (b 0)), (1, .int (nI x)), (2, .int (nI k))]) hx hb dX2_allZero_20 hl (k := 0) rfl (nI_inc _) (by decide) rfl (fun ls hl => ?_)
      refine lv_goto (tgt := 2) hx hb dX2_allZero_23 (by decide) ?_
      exact ih_2 (i + 1) (⟨by omega, lt_s hv ((sb_z w_14).mp c_15)⟩) (show k - (i + 1) < k - i by omega) ls (lv_sub hl [0, 1, 2, 3] rfl)
    · refine lv_iconst (v := (nI 0)) hx hb dX2_allZero_18 (by decide) ?_
      exact W.zret (v := (nI 0)) (ty := .boolean) hx hb hr (by decide) (fun t ht hW => ⟨(nI 0), rfl, Or.inr ⟨fun q => c_15 ((sb_z w_14).mpr (q i (by omega))), rfl⟩, ht⟩) (fun _ h9 => absurd h9 List.not_mem_nil) dX2_allZero_19
set_option maxHeartbeats 4000000 in
set_option maxRecDepth 100000 in
theorem c_X2_gapBegin (l : Launch) (dC : Nat → ClassId) (dI : Nat → Nat → Nat) (cB cI : ClassId) (b : Nat → Nat) (sz st us : Nat) (mem pl ln : Nat → Nat) (i : Nat) (g1 : i ≤ 64) (g2 : us ≤ 64) : Met l yX2_gapBegin wsX2_gapBegin ({ frames := 0, cells := 0, slots := 0, locals := 0 }) (va_Pc [.ref (b 0), .int (nI i)] (fun U => va_P (dC, dI) vwCl (sw cB cI b sz st us mem pl ln) U.heap ∧ va_K (dC, dI) vwCl [(cI, .int), (cB, .byte)] U)) (vp_Si (fun r => r = nI (gB sz st us pl ln i))) 0 0 (fun _ => False) := by
  refine Met.ofW (cc := cX2_gapBegin) (maxL := 2) (ret := (some .int)) (by decide) rfl ?_
  intro p e s m args below meth c s₁ B hml hv
  obtain ⟨rfl, hP, hK⟩ := hv
  have hx := B.exec
  have hb := B.bytes
  have hr := B.returns
  have hts := atoms_spec (ws := wsX2_gapBegin) B.pre
  have hown : s.vm.findClass RX2 = some m.cls := findClass_of_methodNamed B.named
  have hlocks := B.notSynchronized
  have in_X2 : ∀ w ∈ wsX20, w ∈ wsX2_gapBegin := fun _ h => List.mem_cons_of_mem _ (List.mem_append_right _ (h))
  have lk_1 := hts (.fieldLink RX2 15 "GlulxHeap$State" "places" "[I") (List.mem_of_getElem? (i := 1) rfl)
  have lk_2 := hts (.fieldLink RX2 19 "GlulxHeap$State" "lengths" "[I") (List.mem_of_getElem? (i := 2) rfl)
  have lk_3 := hts (.fieldLink RX2 39 "GlulxHeap$State" "used" "I") (List.mem_of_getElem? (i := 3) rfl)
  have lk_4 := hts (.fieldLink RX2 32 "GlulxHeap$State" "size" "I") (List.mem_of_getElem? (i := 4) rfl)
  have lk_5 := hts (.fieldLink RX2 36 "GlulxHeap$State" "start" "I") (List.mem_of_getElem? (i := 5) rfl)
  have hl := lv_entry ([.ref (b 0), .int (nI i)]) (n := 2) (Nat.le_of_ble_eq_true rfl)
  rw [lg_entry_eq]
  generalize (lg_sl ([.ref (b 0), .int (nI i)]) ++ List.replicate (2 - (lg_sl ([.ref (b 0), .int (nI i)])).length) Slot.unset).toArray = ls at hl ⊢
  have hl : lv_has ls 2 [(0, .ref (b 0)), (1, .int (nI i))] := hl
  refine lv_iload_n hx hb dX2_gapBegin_0 rfl (lv_at hl 1 rfl) ?_
  refine lv_if_le (tgt := 22) hx hb dX2_gapBegin_1 (by decide) (fun c_1 => ?_) (fun c_1 => ?_)
  · have c_1 : i ≤ 0 := (nZ_le (by omega)).mp c_1
    refine lv_aload_n hx hb dX2_gapBegin_22 rfl (lv_at hl 0 rfl) ?_
    refine va_get (D := (dC, dI)) (ci := 2) (v := .int (nI us)) (C := RX2) (T := TX2) (N := 6) hx hb hts in_X2 hown hK hP 0 rfl rfl 5 (by decide) lk_3 (fun _ h9 => h9) rfl dX2_gapBegin_23 ?_
    refine lv_if_ne (tgt := 36) hx hb dX2_gapBegin_26 (by decide) (fun c_26 => ?_) (fun c_26 => ?_)
    · have c_26 : ¬ us = 0 := fun q => c_26 ((nZ_eq (by omega)).mpr q)
      refine lv_aload_n hx hb dX2_gapBegin_36 rfl (lv_at hl 0 rfl) ?_
      refine va_get (D := (dC, dI)) (ci := 2) (v := .int (nI st)) (C := RX2) (T := TX2) (N := 6) hx hb hts in_X2 hown hK hP 0 rfl rfl 4 (by decide) lk_5 (fun _ h9 => h9) rfl dX2_gapBegin_37 ?_
      exact W.iret (v := (nI st)) hx hb hr (fun t ht hW => ⟨(nI st), rfl, (show (nI st) = nI (gB sz st us pl ln i) from by unfold gB; rw [if_pos (by omega), if_neg (by omega)]), ht⟩) (fun _ h9 => absurd h9 List.not_mem_nil) dX2_gapBegin_40
    · have c_26 : us = 0 := (nZ_eq (by omega)).mp c_26
      refine lv_aload_n hx hb dX2_gapBegin_29 rfl (lv_at hl 0 rfl) ?_
      refine va_get (D := (dC, dI)) (ci := 2) (v := .int (nI sz)) (C := RX2) (T := TX2) (N := 6) hx hb hts in_X2 hown hK hP 0 rfl rfl 3 (by decide) lk_4 (fun _ h9 => h9) rfl dX2_gapBegin_30 ?_
      refine lv_goto (tgt := 40) hx hb dX2_gapBegin_33 (by decide) ?_
      exact W.iret (v := (nI sz)) hx hb hr (fun t ht hW => ⟨(nI sz), rfl, (show (nI sz) = nI (gB sz st us pl ln i) from by unfold gB; rw [if_pos (by omega), if_pos (by omega)]), ht⟩) (fun _ h9 => absurd h9 List.not_mem_nil) dX2_gapBegin_40
  · have c_1 : ¬ i ≤ 0 := fun q => c_1 ((nZ_le (by omega)).mpr q)
    refine lv_aload_n hx hb dX2_gapBegin_4 rfl (lv_at hl 0 rfl) ?_
    refine va_get (D := (dC, dI)) (ci := 2) (v := .ref (b 2)) (C := RX2) (T := TX2) (N := 6) hx hb hts in_X2 hown hK hP 0 rfl rfl 1 (by decide) lk_1 (fun _ h9 => h9) rfl dX2_gapBegin_5 ?_
    refine lv_iload_n hx hb dX2_gapBegin_8 rfl (lv_at hl 1 rfl) ?_
    refine lv_iconst (v := (nI 1)) hx hb dX2_gapBegin_9 (by decide) ?_
    refine lv_isub hx hb dX2_gapBegin_10 ?_
    refine tpi (pk_sub (by omega)) ?_
    refine va_iald hx hb hK hP 2 0 rfl rfl (vp_in_nI (by omega) (by omega)) dX2_gapBegin_11 ?_
    refine tpi (nf_at (by omega)) ?_
    refine lv_aload_n hx hb dX2_gapBegin_12 rfl (lv_at hl 0 rfl) ?_
    refine va_get (D := (dC, dI)) (ci := 2) (v := .ref (b 3)) (C := RX2) (T := TX2) (N := 6) hx hb hts in_X2 hown hK hP 0 rfl rfl 2 (by decide) lk_2 (fun _ h9 => h9) rfl dX2_gapBegin_13 ?_
    refine lv_iload_n hx hb dX2_gapBegin_16 rfl (lv_at hl 1 rfl) ?_
    refine lv_iconst (v := (nI 1)) hx hb dX2_gapBegin_17 (by decide) ?_
    refine lv_isub hx hb dX2_gapBegin_18 ?_
    refine tpi (pk_sub (by omega)) ?_
    refine va_iald hx hb hK hP 3 0 rfl rfl (vp_in_nI (by omega) (by omega)) dX2_gapBegin_19 ?_
    refine tpi (nf_at (by omega)) ?_
    refine lv_iadd hx hb dX2_gapBegin_20 ?_
    refine tpi (nI_add _ _) ?_
    exact W.iret (v := (nI (pl (i - 1) + (ln (i - 1))))) hx hb hr (fun t ht hW => ⟨(nI (pl (i - 1) + (ln (i - 1)))), rfl, (show (nI (pl (i - 1) + (ln (i - 1)))) = nI (gB sz st us pl ln i) from by unfold gB; rw [if_neg (by omega)]), ht⟩) (fun _ h9 => absurd h9 List.not_mem_nil) dX2_gapBegin_21
set_option maxHeartbeats 4000000 in
set_option maxRecDepth 100000 in
theorem c_X2_gapLength (l : Launch) (dC : Nat → ClassId) (dI : Nat → Nat → Nat) (cB cI : ClassId) (b : Nat → Nat) (sz st us : Nat) (mem pl ln : Nat → Nat) (i : Nat) (gw : wfB sz st us pl ln) (g1 : i ≤ us) : Met l yX2_gapLength wsX2_gapLength ({ frames := 1, cells := 0, slots := 0, locals := 21 }) (va_Pc [.ref (b 0), .int (nI i)] (fun U => va_P (dC, dI) vwCl (sw cB cI b sz st us mem pl ln) U.heap ∧ va_K (dC, dI) vwCl [(cI, .int), (cB, .byte)] U)) (vp_Si (fun r => r = nI (gEn sz us pl i - gB sz st us pl ln i))) 0 0 (fun _ => False) := by
  refine Met.ofW (cc := cX2_gapLength) (maxL := 3) (ret := (some .int)) (by decide) rfl ?_
  intro p e s m args below meth c s₁ B hml hv
  obtain ⟨rfl, hP, hK⟩ := hv
  have hx := B.exec
  have hb := B.bytes
  have hr := B.returns
  have hts := atoms_spec (ws := wsX2_gapLength) B.pre
  have hown : s.vm.findClass RX2 = some m.cls := findClass_of_methodNamed B.named
  have hlocks := B.notSynchronized
  have in_X2 : ∀ w ∈ wsX20, w ∈ wsX2_gapLength := fun _ h => List.mem_cons_of_mem _ (List.mem_append_right _ (h))
  have lk_1 := hts (.fieldLink RX2 39 "GlulxHeap$State" "used" "I") (List.mem_of_getElem? (i := 1) rfl)
  have lk_2 := hts (.fieldLink RX2 15 "GlulxHeap$State" "places" "[I") (List.mem_of_getElem? (i := 2) rfl)
  have lk_3 := hts (.fieldLink RX2 32 "GlulxHeap$State" "size" "I") (List.mem_of_getElem? (i := 3) rfl)
  have hl := lv_entry ([.ref (b 0), .int (nI i)]) (n := 3) (Nat.le_of_ble_eq_true rfl)
  rw [lg_entry_eq]
  generalize (lg_sl ([.ref (b 0), .int (nI i)]) ++ List.replicate (3 - (lg_sl ([.ref (b 0), .int (nI i)])).length) Slot.unset).toArray = ls at hl ⊢
  have hl : lv_has ls 3 [(0, .ref (b 0)), (1, .int (nI i))] := hl
  obtain ⟨gw1, gw2, gw3, gw4, gw5, gw6⟩ := id gw
  refine lv_iload_n hx hb dX2_gapLength_0 rfl (lv_at hl 1 rfl) ?_
  refine lv_aload_n hx hb dX2_gapLength_1 rfl (lv_at hl 0 rfl) ?_
  refine va_get (D := (dC, dI)) (ci := 2) (v := .int (nI us)) (C := RX2) (T := TX2) (N := 6) hx hb hts in_X2 hown hK hP 0 rfl rfl 5 (by decide) lk_1 (fun _ h9 => h9) rfl dX2_gapLength_2 ?_
  refine lv_icmp_ge (tgt := 17) hx hb dX2_gapLength_5 (by decide) (fun c_5 => ?_) (fun c_5 => ?_)
  · have c_5 : us ≤ i := (nI_leI (a := us) (b := i) (by omega) (by omega)).mp c_5
    refine lv_aload_n hx hb dX2_gapLength_17 rfl (lv_at hl 0 rfl) ?_
    refine va_get (D := (dC, dI)) (ci := 2) (v := .int (nI sz)) (C := RX2) (T := TX2) (N := 6) hx hb hts in_X2 hown hK hP 0 rfl rfl 3 (by decide) lk_3 (fun _ h9 => h9) rfl dX2_gapLength_18 ?_
    refine lv_istore_n (lv' := [(2, .int (nI sz)), (0, .ref (b 0)), (1, .int (nI i))]) hx hb dX2_gapLength_21 rfl hl (by decide) rfl (fun ls hl => ?_)
    refine lv_iload_n hx hb dX2_gapLength_22 rfl (lv_at hl 0 rfl) ?_
    have hge : sz = gEn sz us pl i := by unfold gEn; rw [if_pos (by omega)]
    have hgl := gB_le gw g1
    refine lv_aload_n hx hb dX2_gapLength_23 rfl (lv_at hl 1 rfl) ?_
    refine lv_iload_n hx hb dX2_gapLength_24 rfl (lv_at hl 2 rfl) ?_
    refine vp_callSi (W.runV (As := [.int (nI i)]) (rest := [.int (nI sz)]) ⟨hx, hb, hml, hown, hts⟩ (c_X2_gapBegin l dC dI cB cI b sz st us mem pl ln i (by omega) (by omega)) (cwV 1 hts gX2_gapLength_X2_gapBegin rfl rfl rfl (by decide +kernel) ⟨Nat.le_of_ble_eq_true rfl, Nat.le_of_ble_eq_true rfl⟩) ⟨fun a9 U g9 mk9 q9 => by obtain ⟨q0, qP, qK⟩ := q9; exact ⟨q0, qP, va_K.moved (u := U) (U := U.calling g9 mk9 a9) (Vm.Alike.refl U.vm) qK⟩, va_recv hK hP (ci := 2) (q0 := 0) rfl rfl, fun U hU hW => ⟨rfl, by rw [hU]; exact hP, va_K.moved hW.alike hK⟩⟩ rfl rfl hl.1 rfl (lv_room (Nat.le_of_ble_eq_true rfl)) dX2_gapLength_25 ⟨Nat.zero_le _, Nat.zero_le _⟩) (fun r_25 hw => ?_)
    try dsimp only at hw
    subst hw
    refine lv_isub hx hb dX2_gapLength_28 ?_
    refine tpi (pk_sub (by omega)) ?_
    exact W.iret (v := (nI (sz - (gB sz st us pl ln i)))) hx hb hr (fun t ht hW => ⟨(nI (sz - (gB sz st us pl ln i))), rfl, (show (nI (sz - (gB sz st us pl ln i))) = nI (gEn sz us pl i - gB sz st us pl ln i) from by rw [← hge]), ht⟩) (fun _ h9 => absurd h9 List.not_mem_nil) dX2_gapLength_29
  · have c_5 : ¬ us ≤ i := fun q => c_5 ((nI_leI (a := us) (b := i) (by omega) (by omega)).mpr q)
    refine lv_aload_n hx hb dX2_gapLength_8 rfl (lv_at hl 0 rfl) ?_
    refine va_get (D := (dC, dI)) (ci := 2) (v := .ref (b 2)) (C := RX2) (T := TX2) (N := 6) hx hb hts in_X2 hown hK hP 0 rfl rfl 1 (by decide) lk_2 (fun _ h9 => h9) rfl dX2_gapLength_9 ?_
    refine lv_iload_n hx hb dX2_gapLength_12 rfl (lv_at hl 1 rfl) ?_
    refine va_iald hx hb hK hP 2 0 rfl rfl (vp_in_nI (by omega) (by omega)) dX2_gapLength_13 ?_
    refine tpi (nf_at (by omega)) ?_
    refine lv_goto (tgt := 21) hx hb dX2_gapLength_14 (by decide) ?_
    refine lv_istore_n (lv' := [(2, .int (nI (pl i))), (0, .ref (b 0)), (1, .int (nI i))]) hx hb dX2_gapLength_21 rfl hl (by decide) rfl (fun ls hl => ?_)
    refine lv_iload_n hx hb dX2_gapLength_22 rfl (lv_at hl 0 rfl) ?_
    have hge : pl i = gEn sz us pl i := by unfold gEn; rw [if_neg (by omega)]
    have hgl := gB_le gw g1
    refine lv_aload_n hx hb dX2_gapLength_23 rfl (lv_at hl 1 rfl) ?_
    refine lv_iload_n hx hb dX2_gapLength_24 rfl (lv_at hl 2 rfl) ?_
    refine vp_callSi (W.runV (As := [.int (nI i)]) (rest := [.int (nI (pl i))]) ⟨hx, hb, hml, hown, hts⟩ (c_X2_gapBegin l dC dI cB cI b sz st us mem pl ln i (by omega) (by omega)) (cwV 1 hts gX2_gapLength_X2_gapBegin rfl rfl rfl (by decide +kernel) ⟨Nat.le_of_ble_eq_true rfl, Nat.le_of_ble_eq_true rfl⟩) ⟨fun a9 U g9 mk9 q9 => by obtain ⟨q0, qP, qK⟩ := q9; exact ⟨q0, qP, va_K.moved (u := U) (U := U.calling g9 mk9 a9) (Vm.Alike.refl U.vm) qK⟩, va_recv hK hP (ci := 2) (q0 := 0) rfl rfl, fun U hU hW => ⟨rfl, by rw [hU]; exact hP, va_K.moved hW.alike hK⟩⟩ rfl rfl hl.1 rfl (lv_room (Nat.le_of_ble_eq_true rfl)) dX2_gapLength_25 ⟨Nat.zero_le _, Nat.zero_le _⟩) (fun r_25 hw => ?_)
    try dsimp only at hw
    subst hw
    refine lv_isub hx hb dX2_gapLength_28 ?_
    refine tpi (pk_sub (by omega)) ?_
    exact W.iret (v := (nI (pl i - (gB sz st us pl ln i)))) hx hb hr (fun t ht hW => ⟨(nI (pl i - (gB sz st us pl ln i))), rfl, (show (nI (pl i - (gB sz st us pl ln i))) = nI (gEn sz us pl i - gB sz st us pl ln i) from by rw [← hge]), ht⟩) (fun _ h9 => absurd h9 List.not_mem_nil) dX2_gapLength_29
set_option maxHeartbeats 4000000 in
set_option maxRecDepth 100000 in
theorem c_X2_gapFor (l : Launch) (dC : Nat → ClassId) (dI : Nat → Nat → Nat) (cB cI : ClassId) (b : Nat → Nat) (sz st us : Nat) (mem pl ln : Nat → Nat) (n : Nat) (gw : wfB sz st us pl ln) (g2 : n < 2 ^ 31) : Met l yX2_gapFor wsX2_gapFor ({ frames := 2, cells := 0, slots := 0, locals := 43 }) (va_Pc [.ref (b 0), .int (nI n)] (fun U => va_P (dC, dI) vwCl (sw cB cI b sz st us mem pl ln) U.heap ∧ va_K (dC, dI) vwCl [(cI, .int), (cB, .byte)] U)) (vp_Si (fun r => r = nI (fit sz st us pl ln n))) 0 0 (fun _ => False) := by
  refine Met.ofW (cc := cX2_gapFor) (maxL := 3) (ret := (some .int)) (by decide) rfl ?_
  intro p e s m args below meth c s₁ B hml hv
  obtain ⟨rfl, hP, hK⟩ := hv
  have hx := B.exec
  have hb := B.bytes
  have hr := B.returns
  have hts := atoms_spec (ws := wsX2_gapFor) B.pre
  have hown : s.vm.findClass RX2 = some m.cls := findClass_of_methodNamed B.named
  have hlocks := B.notSynchronized
  have in_X2 : ∀ w ∈ wsX20, w ∈ wsX2_gapFor := fun _ h => List.mem_cons_of_mem _ (List.mem_append_right _ (h))
  have lk_1 := hts (.fieldLink RX2 39 "GlulxHeap$State" "used" "I") (List.mem_of_getElem? (i := 1) rfl)
  have hl := lv_entry ([.ref (b 0), .int (nI n)]) (n := 3) (Nat.le_of_ble_eq_true rfl)
  rw [lg_entry_eq]
  generalize (lg_sl ([.ref (b 0), .int (nI n)]) ++ List.replicate (3 - (lg_sl ([.ref (b 0), .int (nI n)])).length) Slot.unset).toArray = ls at hl ⊢
  have hl : lv_has ls 3 [(0, .ref (b 0)), (1, .int (nI n))] := hl
  obtain ⟨gw1, gw2, gw3, gw4, gw5, gw6⟩ := id gw
  refine lv_iconst (v := (nI 0)) hx hb dX2_gapFor_0 (by decide) ?_
  refine lv_istore_n (lv' := [(2, .int (nI 0)), (0, .ref (b 0)), (1, .int (nI n))]) hx hb dX2_gapFor_1 rfl hl (by decide) rfl (fun ls hl => ?_)
  refine lp_still (σ := Nat) (fun i => i ≤ us ∧ fit sz st us pl ln n = fitF sz st us pl ln n (us - i) i) (fun i => us - i) (fun i => [(2, .int (nI i)), (0, .ref (b 0)), (1, .int (nI n))]) ?_ 0 (⟨by omega, rfl⟩) (lv_sub hl [0, 1, 2] rfl)
  intro i hI ih ls hl
  have hl : lv_has ls 3 [(2, .int (nI i)), (0, .ref (b 0)), (1, .int (nI n))] := hl
  have hI : i ≤ us ∧ fit sz st us pl ln n = fitF sz st us pl ln n (us - i) i := hI
  obtain ⟨hi, hv⟩ := hI
  have ih_2 := ih
  refine lv_iload_n hx hb dX2_gapFor_2 rfl (lv_at hl 0 rfl) ?_
  refine lv_aload_n hx hb dX2_gapFor_3 rfl (lv_at hl 1 rfl) ?_
  refine va_get (D := (dC, dI)) (ci := 2) (v := .int (nI us)) (C := RX2) (T := TX2) (N := 6) hx hb hts in_X2 hown hK hP 0 rfl rfl 5 (by decide) lk_1 (fun _ h9 => h9) rfl dX2_gapFor_4 ?_
  refine lv_icmp_ge (tgt := 27) hx hb dX2_gapFor_7 (by decide) (fun c_7 => ?_) (fun c_7 => ?_)
  · have c_7 : us ≤ i := (nI_leI (a := us) (b := i) (by omega) (by omega)).mp c_7
    refine lv_aload_n hx hb dX2_gapFor_27 rfl (lv_at hl 1 rfl) ?_
    refine va_get (D := (dC, dI)) (ci := 2) (v := .int (nI us)) (C := RX2) (T := TX2) (N := 6) hx hb hts in_X2 hown hK hP 0 rfl rfl 5 (by decide) lk_1 (fun _ h9 => h9) rfl dX2_gapFor_28 ?_
    exact W.iret (v := (nI us)) hx hb hr (fun t ht hW => ⟨(nI us), rfl, (show (nI us) = nI (fit sz st us pl ln n) from by rw [hv, fitF_end (by omega)]), ht⟩) (fun _ h9 => absurd h9 List.not_mem_nil) dX2_gapFor_31
  · have c_7 : ¬ us ≤ i := fun q => c_7 ((nI_leI (a := us) (b := i) (by omega) (by omega)).mpr q)
    refine lv_aload_n hx hb dX2_gapFor_10 rfl (lv_at hl 1 rfl) ?_
    refine lv_iload_n hx hb dX2_gapFor_11 rfl (lv_at hl 0 rfl) ?_
    refine vp_callSi (W.runV (As := [.int (nI i)]) (rest := []) ⟨hx, hb, hml, hown, hts⟩ (c_X2_gapLength l dC dI cB cI b sz st us mem pl ln i gw (by omega)) (cwV 1 hts gX2_gapFor_X2_gapLength rfl rfl rfl (by decide +kernel) ⟨Nat.le_of_ble_eq_true rfl, Nat.le_of_ble_eq_true rfl⟩) ⟨fun a9 U g9 mk9 q9 => by obtain ⟨q0, qP, qK⟩ := q9; exact ⟨q0, qP, va_K.moved (u := U) (U := U.calling g9 mk9 a9) (Vm.Alike.refl U.vm) qK⟩, va_recv hK hP (ci := 2) (q0 := 0) rfl rfl, fun U hU hW => ⟨rfl, by rw [hU]; exact hP, va_K.moved hW.alike hK⟩⟩ rfl rfl hl.1 rfl (lv_room (Nat.le_of_ble_eq_true rfl)) dX2_gapFor_12 ⟨Nat.zero_le _, Nat.zero_le _⟩) (fun r_12 hw => ?_)
    try dsimp only at hw
    subst hw
    have wl_12 := gEn_le gw (i := i) (by omega)
    refine lv_iload_n hx hb dX2_gapFor_15 rfl (lv_at hl 2 rfl) ?_
    refine lv_icmp_lt (tgt := 21) hx hb dX2_gapFor_16 (by decide) (fun c_16 => ?_) (fun c_16 => ?_)
    · have c_16 : gEn sz us pl i - gB sz st us pl ln i < n := (nI_ltI (a := gEn sz us pl i - gB sz st us pl ln i) (b := n) (by omega) (by omega)).mp c_16
      refine lv_iinc (v := (nI (i + 1))) (lv' := [(2, .int (nI (i + 1))), (0, .ref (b 0)), (1, .int (nI n))]) hx hb dX2_gapFor_21 hl (k := 0) rfl (nI_inc _) (by decide) rfl (fun ls hl => ?_)
      refine lv_goto (tgt := 2) hx hb dX2_gapFor_24 (by decide) ?_
      exact ih_2 (i + 1) (⟨by omega, by rw [hv, fitF_step (by omega), if_neg (by rw [← gB_at (sz := sz) (us := us) (by omega)]; omega)]⟩) (show us - (i + 1) < us - i by omega) ls (lv_sub hl [0, 1, 2] rfl)
    · have c_16 : ¬ gEn sz us pl i - gB sz st us pl ln i < n := fun q => c_16 ((nI_ltI (a := gEn sz us pl i - gB sz st us pl ln i) (b := n) (by omega) (by omega)).mpr q)
      refine lv_iload_n hx hb dX2_gapFor_19 rfl (lv_at hl 0 rfl) ?_
      exact W.iret (v := (nI i)) hx hb hr (fun t ht hW => ⟨(nI i), rfl, (show (nI i) = nI (fit sz st us pl ln n) from by rw [hv, fitF_step (by omega), if_pos (by rw [← gB_at (sz := sz) (us := us) (by omega)]; omega)]), ht⟩) (fun _ h9 => absurd h9 List.not_mem_nil) dX2_gapFor_20
set_option maxHeartbeats 4000000 in
set_option maxRecDepth 100000 in
theorem c_X2_gapCount (l : Launch) (dC : Nat → ClassId) (dI : Nat → Nat → Nat) (cB cI : ClassId) (b : Nat → Nat) (sz st us : Nat) (mem pl ln : Nat → Nat)  (gw : wfB sz st us pl ln) : Met l yX2_gapCount wsX2_gapCount ({ frames := 2, cells := 0, slots := 0, locals := 43 }) (va_Pc [.ref (b 0)] (fun U => va_P (dC, dI) vwCl (sw cB cI b sz st us mem pl ln) U.heap ∧ va_K (dC, dI) vwCl [(cI, .int), (cB, .byte)] U)) (vp_Si (fun r => r = nI (gaps sz st us pl ln))) 0 0 (fun _ => False) := by
  refine Met.ofW (cc := cX2_gapCount) (maxL := 3) (ret := (some .int)) (by decide) rfl ?_
  intro p e s m args below meth c s₁ B hml hv
  obtain ⟨rfl, hP, hK⟩ := hv
  have hx := B.exec
  have hb := B.bytes
  have hr := B.returns
  have hts := atoms_spec (ws := wsX2_gapCount) B.pre
  have hown : s.vm.findClass RX2 = some m.cls := findClass_of_methodNamed B.named
  have hlocks := B.notSynchronized
  have in_X2 : ∀ w ∈ wsX20, w ∈ wsX2_gapCount := fun _ h => List.mem_cons_of_mem _ (List.mem_append_right _ (h))
  have lk_1 := hts (.fieldLink RX2 39 "GlulxHeap$State" "used" "I") (List.mem_of_getElem? (i := 1) rfl)
  have hl := lv_entry ([.ref (b 0)]) (n := 3) (Nat.le_of_ble_eq_true rfl)
  rw [lg_entry_eq]
  generalize (lg_sl ([.ref (b 0)]) ++ List.replicate (3 - (lg_sl ([.ref (b 0)])).length) Slot.unset).toArray = ls at hl ⊢
  have hl : lv_has ls 3 [(0, .ref (b 0))] := hl
  obtain ⟨gw1, gw2, gw3, gw4, gw5, gw6⟩ := id gw
  refine lv_iconst (v := (nI 0)) hx hb dX2_gapCount_0 (by decide) ?_
  refine lv_istore_n (lv' := [(1, .int (nI 0)), (0, .ref (b 0))]) hx hb dX2_gapCount_1 rfl hl (by decide) rfl (fun ls hl => ?_)
  refine lv_iconst (v := (nI 0)) hx hb dX2_gapCount_2 (by decide) ?_
  refine lv_istore_n (lv' := [(2, .int (nI 0)), (1, .int (nI 0)), (0, .ref (b 0))]) hx hb dX2_gapCount_3 rfl hl (by decide) rfl (fun ls hl => ?_)
  refine lp_still (σ := Nat × Nat) (fun ⟨i, g⟩ => i ≤ us + 1 ∧ g = gpk sz st us pl ln i) (fun ⟨i, g⟩ => us + 1 - i) (fun ⟨i, g⟩ => [(2, .int (nI i)), (1, .int (nI g)), (0, .ref (b 0))]) ?_ ((0, 0)) (⟨by omega, rfl⟩) (lv_sub hl [0, 1, 2] rfl)
  intro ⟨i, g⟩ hI ih ls hl
  have hl : lv_has ls 3 [(2, .int (nI i)), (1, .int (nI g)), (0, .ref (b 0))] := hl
  have hI : i ≤ us + 1 ∧ g = gpk sz st us pl ln i := hI
  obtain ⟨hi, hv⟩ := hI
  have ih_4 := ih
  refine lv_iload_n hx hb dX2_gapCount_4 rfl (lv_at hl 0 rfl) ?_
  refine lv_aload_n hx hb dX2_gapCount_5 rfl (lv_at hl 2 rfl) ?_
  refine va_get (D := (dC, dI)) (ci := 2) (v := .int (nI us)) (C := RX2) (T := TX2) (N := 6) hx hb hts in_X2 hown hK hP 0 rfl rfl 5 (by decide) lk_1 (fun _ h9 => h9) rfl dX2_gapCount_6 ?_
  refine lv_icmp_gt (tgt := 29) hx hb dX2_gapCount_9 (by decide) (fun c_9 => ?_) (fun c_9 => ?_)
  · have c_9 : us < i := (nI_ltI (a := us) (b := i) (by omega) (by omega)).mp c_9
    have hgs : g = gaps sz st us pl ln := hv.symm ▸ (show gpk sz st us pl ln i = _ by rw [show i = us + 1 by omega]; exact gpk_all gw)
    refine lv_iload_n hx hb dX2_gapCount_29 rfl (lv_at hl 1 rfl) ?_
    exact W.iret (v := (nI g)) hx hb hr (fun t ht hW => ⟨(nI g), rfl, (show (nI g) = nI (gaps sz st us pl ln) from by rw [hgs]), ht⟩) (fun _ h9 => absurd h9 List.not_mem_nil) dX2_gapCount_30
  · have c_9 : ¬ us < i := fun q => c_9 ((nI_ltI (a := us) (b := i) (by omega) (by omega)).mpr q)
    refine lv_aload_n hx hb dX2_gapCount_12 rfl (lv_at hl 2 rfl) ?_
    refine lv_iload_n hx hb dX2_gapCount_13 rfl (lv_at hl 0 rfl) ?_
    refine vp_callSi (W.runV (As := [.int (nI i)]) (rest := []) ⟨hx, hb, hml, hown, hts⟩ (c_X2_gapLength l dC dI cB cI b sz st us mem pl ln i gw (by omega)) (cwV 1 hts gX2_gapCount_X2_gapLength rfl rfl rfl (by decide +kernel) ⟨Nat.le_of_ble_eq_true rfl, Nat.le_of_ble_eq_true rfl⟩) ⟨fun a9 U g9 mk9 q9 => by obtain ⟨q0, qP, qK⟩ := q9; exact ⟨q0, qP, va_K.moved (u := U) (U := U.calling g9 mk9 a9) (Vm.Alike.refl U.vm) qK⟩, va_recv hK hP (ci := 2) (q0 := 0) rfl rfl, fun U hU hW => ⟨rfl, by rw [hU]; exact hP, va_K.moved hW.alike hK⟩⟩ rfl rfl hl.1 rfl (lv_room (Nat.le_of_ble_eq_true rfl)) dX2_gapCount_14 ⟨Nat.zero_le _, Nat.zero_le _⟩) (fun r_14 hw => ?_)
    try dsimp only at hw
    subst hw
    have wl_14 := gEn_le gw (i := i) (by omega)
    refine lv_if_le (tgt := 23) hx hb dX2_gapCount_17 (by decide) (fun c_17 => ?_) (fun c_17 => ?_)
    · have c_17 : gEn sz us pl i - gB sz st us pl ln i ≤ 0 := (nZ_le (by omega)).mp c_17
      refine lv_iinc (v := (nI (i + 1))) (lv' := [(2, .int (nI (i + 1))), (1, .int (nI g)), (0, .ref (b 0))]) hx hb dX2_gapCount_23 hl (k := 0) rfl (nI_inc _) (by decide) rfl (fun ls hl => ?_)
      refine lv_goto (tgt := 4) hx hb dX2_gapCount_26 (by decide) ?_
      exact ih_4 (i + 1, g) (⟨by omega, by rw [gpk_s, ← hv, if_neg (by omega), Nat.add_zero]⟩) (show us + 1 - (i + 1) < us + 1 - i by omega) ls (lv_sub hl [0, 1, 2] rfl)
    · have c_17 : ¬ gEn sz us pl i - gB sz st us pl ln i ≤ 0 := fun q => c_17 ((nZ_le (by omega)).mpr q)
      refine lv_iinc (v := (nI (g + 1))) (lv' := [(1, .int (nI (g + 1))), (2, .int (nI i)), (0, .ref (b 0))]) hx hb dX2_gapCount_20 hl (k := 1) rfl (nI_inc _) (by decide) rfl (fun ls hl => ?_)
      refine lv_iinc (v := (nI (i + 1))) (lv' := [(2, .int (nI (i + 1))), (1, .int (nI (g + 1))), (0, .ref (b 0))]) hx hb dX2_gapCount_23 hl (k := 1) rfl (nI_inc _) (by decide) rfl (fun ls hl => ?_)
      refine lv_goto (tgt := 4) hx hb dX2_gapCount_26 (by decide) ?_
      exact ih_4 (i + 1, g + 1) (⟨by omega, by rw [gpk_s, ← hv, if_pos (by omega)]⟩) (show us + 1 - (i + 1) < us + 1 - i by omega) ls (lv_sub hl [0, 1, 2] rfl)
set_option maxHeartbeats 4000000 in
set_option maxRecDepth 100000 in
theorem c_X2_usedBytes (l : Launch) (dC : Nat → ClassId) (dI : Nat → Nat → Nat) (cB cI : ClassId) (b : Nat → Nat) (sz st us : Nat) (mem pl ln : Nat → Nat)  (g2 : us ≤ 64) : Met l yX2_usedBytes wsX2_usedBytes ({ frames := 0, cells := 0, slots := 0, locals := 0 }) (va_Pc [.ref (b 0)] (fun U => va_P (dC, dI) vwCl (sw cB cI b sz st us mem pl ln) U.heap ∧ va_K (dC, dI) vwCl [(cI, .int), (cB, .byte)] U)) (vp_Si (fun r => r = nI (sumF ln us))) 0 0 (fun _ => False) := by
  refine Met.ofW (cc := cX2_usedBytes) (maxL := 3) (ret := (some .int)) (by decide) rfl ?_
  intro p e s m args below meth c s₁ B hml hv
  obtain ⟨rfl, hP, hK⟩ := hv
  have hx := B.exec
  have hb := B.bytes
  have hr := B.returns
  have hts := atoms_spec (ws := wsX2_usedBytes) B.pre
  have hown : s.vm.findClass RX2 = some m.cls := findClass_of_methodNamed B.named
  have hlocks := B.notSynchronized
  have in_X2 : ∀ w ∈ wsX20, w ∈ wsX2_usedBytes := fun _ h => List.mem_cons_of_mem _ (List.mem_append_right _ (h))
  have lk_1 := hts (.fieldLink RX2 39 "GlulxHeap$State" "used" "I") (List.mem_of_getElem? (i := 1) rfl)
  have lk_2 := hts (.fieldLink RX2 19 "GlulxHeap$State" "lengths" "[I") (List.mem_of_getElem? (i := 2) rfl)
  have hl := lv_entry ([.ref (b 0)]) (n := 3) (Nat.le_of_ble_eq_true rfl)
  rw [lg_entry_eq]
  generalize (lg_sl ([.ref (b 0)]) ++ List.replicate (3 - (lg_sl ([.ref (b 0)])).length) Slot.unset).toArray = ls at hl ⊢
  have hl : lv_has ls 3 [(0, .ref (b 0))] := hl
  refine lv_iconst (v := (nI 0)) hx hb dX2_usedBytes_0 (by decide) ?_
  refine lv_istore_n (lv' := [(1, .int (nI 0)), (0, .ref (b 0))]) hx hb dX2_usedBytes_1 rfl hl (by decide) rfl (fun ls hl => ?_)
  refine lv_iconst (v := (nI 0)) hx hb dX2_usedBytes_2 (by decide) ?_
  refine lv_istore_n (lv' := [(2, .int (nI 0)), (1, .int (nI 0)), (0, .ref (b 0))]) hx hb dX2_usedBytes_3 rfl hl (by decide) rfl (fun ls hl => ?_)
  refine lp_still (σ := Nat × Nat) (fun ⟨i, g⟩ => i ≤ us ∧ g = sumF ln i) (fun ⟨i, g⟩ => us - i) (fun ⟨i, g⟩ => [(2, .int (nI i)), (1, .int (nI g)), (0, .ref (b 0))]) ?_ ((0, 0)) (⟨by omega, rfl⟩) (lv_sub hl [0, 1, 2] rfl)
  intro ⟨i, g⟩ hI ih ls hl
  have hl : lv_has ls 3 [(2, .int (nI i)), (1, .int (nI g)), (0, .ref (b 0))] := hl
  have hI : i ≤ us ∧ g = sumF ln i := hI
  obtain ⟨hi, hv⟩ := hI
  have ih_4 := ih
  refine lv_iload_n hx hb dX2_usedBytes_4 rfl (lv_at hl 0 rfl) ?_
  refine lv_aload_n hx hb dX2_usedBytes_5 rfl (lv_at hl 2 rfl) ?_
  refine va_get (D := (dC, dI)) (ci := 2) (v := .int (nI us)) (C := RX2) (T := TX2) (N := 6) hx hb hts in_X2 hown hK hP 0 rfl rfl 5 (by decide) lk_1 (fun _ h9 => h9) rfl dX2_usedBytes_6 ?_
  refine lv_icmp_ge (tgt := 27) hx hb dX2_usedBytes_9 (by decide) (fun c_9 => ?_) (fun c_9 => ?_)
  · have c_9 : us ≤ i := (nI_leI (a := us) (b := i) (by omega) (by omega)).mp c_9
    refine lv_iload_n hx hb dX2_usedBytes_27 rfl (lv_at hl 1 rfl) ?_
    exact W.iret (v := (nI g)) hx hb hr (fun t ht hW => ⟨(nI g), rfl, (show (nI g) = nI (sumF ln us) from by rw [hv, show i = us by omega]), ht⟩) (fun _ h9 => absurd h9 List.not_mem_nil) dX2_usedBytes_28
  · have c_9 : ¬ us ≤ i := fun q => c_9 ((nI_leI (a := us) (b := i) (by omega) (by omega)).mpr q)
    refine lv_iload_n hx hb dX2_usedBytes_12 rfl (lv_at hl 1 rfl) ?_
    refine lv_aload_n hx hb dX2_usedBytes_13 rfl (lv_at hl 2 rfl) ?_
    refine va_get (D := (dC, dI)) (ci := 2) (v := .ref (b 3)) (C := RX2) (T := TX2) (N := 6) hx hb hts in_X2 hown hK hP 0 rfl rfl 2 (by decide) lk_2 (fun _ h9 => h9) rfl dX2_usedBytes_14 ?_
    refine lv_iload_n hx hb dX2_usedBytes_17 rfl (lv_at hl 0 rfl) ?_
    refine va_iald hx hb hK hP 3 0 rfl rfl (vp_in_nI (by omega) (by omega)) dX2_usedBytes_18 ?_
    refine tpi (nf_at (by omega)) ?_
    refine lv_iadd hx hb dX2_usedBytes_19 ?_
    refine tpi (nI_add _ _) ?_
    refine lv_istore_n (lv' := [(1, .int (nI (g + (ln i)))), (2, .int (nI i)), (0, .ref (b 0))]) hx hb dX2_usedBytes_20 rfl hl (by decide) rfl (fun ls hl => ?_)
    refine lv_iinc (v := (nI (i + 1))) (lv' := [(2, .int (nI (i + 1))), (1, .int (nI (g + (ln i)))), (0, .ref (b 0))]) hx hb dX2_usedBytes_21 hl (k := 1) rfl (nI_inc _) (by decide) rfl (fun ls hl => ?_)
    refine lv_goto (tgt := 4) hx hb dX2_usedBytes_24 (by decide) ?_
    exact ih_4 (i + 1, g + (ln i)) (⟨by omega, by rw [hv]; rfl⟩) (show us - (i + 1) < us - i by omega) ls (lv_sub hl [0, 1, 2] rfl)
set_option maxHeartbeats 4000000 in
set_option maxRecDepth 100000 in
theorem c_X2_blockAt (l : Launch) (dC : Nat → ClassId) (dI : Nat → Nat → Nat) (cB cI : ClassId) (b : Nat → Nat) (sz st us : Nat) (mem pl ln : Nat → Nat) (p1 : Int32) (g2 : us ≤ 64) : Met l yX2_blockAt wsX2_blockAt ({ frames := 0, cells := 0, slots := 0, locals := 0 }) (va_Pc [.ref (b 0), .int p1] (fun U => va_P (dC, dI) vwCl (sw cB cI b sz st us mem pl ln) U.heap ∧ va_K (dC, dI) vwCl [(cI, .int), (cB, .byte)] U)) (vp_Si (fun r => (fnd us pl p1 = us ∧ r = (-1)) ∨ (fnd us pl p1 < us ∧ r = nI (fnd us pl p1)))) 0 0 (fun _ => False) := by
  refine Met.ofW (cc := cX2_blockAt) (maxL := 3) (ret := (some .int)) (by decide) rfl ?_
  intro p e s m args below meth c s₁ B hml hv
  obtain ⟨rfl, hP, hK⟩ := hv
  have hx := B.exec
  have hb := B.bytes
  have hr := B.returns
  have hts := atoms_spec (ws := wsX2_blockAt) B.pre
  have hown : s.vm.findClass RX2 = some m.cls := findClass_of_methodNamed B.named
  have hlocks := B.notSynchronized
  have in_X2 : ∀ w ∈ wsX20, w ∈ wsX2_blockAt := fun _ h => List.mem_cons_of_mem _ (List.mem_append_right _ (h))
  have lk_1 := hts (.fieldLink RX2 39 "GlulxHeap$State" "used" "I") (List.mem_of_getElem? (i := 1) rfl)
  have lk_2 := hts (.fieldLink RX2 15 "GlulxHeap$State" "places" "[I") (List.mem_of_getElem? (i := 2) rfl)
  have hl := lv_entry ([.ref (b 0), .int p1]) (n := 3) (Nat.le_of_ble_eq_true rfl)
  rw [lg_entry_eq]
  generalize (lg_sl ([.ref (b 0), .int p1]) ++ List.replicate (3 - (lg_sl ([.ref (b 0), .int p1])).length) Slot.unset).toArray = ls at hl ⊢
  have hl : lv_has ls 3 [(0, .ref (b 0)), (1, .int p1)] := hl
  refine lv_iconst (v := (nI 0)) hx hb dX2_blockAt_0 (by decide) ?_
  refine lv_istore_n (lv' := [(2, .int (nI 0)), (0, .ref (b 0)), (1, .int p1)]) hx hb dX2_blockAt_1 rfl hl (by decide) rfl (fun ls hl => ?_)
  refine lp_still (σ := Nat) (fun i => i ≤ us ∧ fnd us pl p1 = fndF us pl p1 (us - i) i) (fun i => us - i) (fun i => [(2, .int (nI i)), (0, .ref (b 0)), (1, .int p1)]) ?_ 0 (⟨by omega, rfl⟩) (lv_sub hl [0, 1, 2] rfl)
  intro i hI ih ls hl
  have hl : lv_has ls 3 [(2, .int (nI i)), (0, .ref (b 0)), (1, .int p1)] := hl
  have hI : i ≤ us ∧ fnd us pl p1 = fndF us pl p1 (us - i) i := hI
  obtain ⟨hi, hv⟩ := hI
  have ih_2 := ih
  refine lv_iload_n hx hb dX2_blockAt_2 rfl (lv_at hl 0 rfl) ?_
  refine lv_aload_n hx hb dX2_blockAt_3 rfl (lv_at hl 1 rfl) ?_
  refine va_get (D := (dC, dI)) (ci := 2) (v := .int (nI us)) (C := RX2) (T := TX2) (N := 6) hx hb hts in_X2 hown hK hP 0 rfl rfl 5 (by decide) lk_1 (fun _ h9 => h9) rfl dX2_blockAt_4 ?_
  refine lv_icmp_ge (tgt := 28) hx hb dX2_blockAt_7 (by decide) (fun c_7 => ?_) (fun c_7 => ?_)
  · have c_7 : us ≤ i := (nI_leI (a := us) (b := i) (by omega) (by omega)).mp c_7
    refine lv_iconst (v := ((-1))) hx hb dX2_blockAt_28 (by decide) ?_
    exact W.iret (v := ((-1))) hx hb hr (fun t ht hW => ⟨((-1)), rfl, Or.inl ⟨by rw [hv, fndF_end (by omega)], rfl⟩, ht⟩) (fun _ h9 => absurd h9 List.not_mem_nil) dX2_blockAt_29
  · have c_7 : ¬ us ≤ i := fun q => c_7 ((nI_leI (a := us) (b := i) (by omega) (by omega)).mpr q)
    refine lv_aload_n hx hb dX2_blockAt_10 rfl (lv_at hl 1 rfl) ?_
    refine va_get (D := (dC, dI)) (ci := 2) (v := .ref (b 2)) (C := RX2) (T := TX2) (N := 6) hx hb hts in_X2 hown hK hP 0 rfl rfl 1 (by decide) lk_2 (fun _ h9 => h9) rfl dX2_blockAt_11 ?_
    refine lv_iload_n hx hb dX2_blockAt_14 rfl (lv_at hl 0 rfl) ?_
    refine va_iald hx hb hK hP 2 0 rfl rfl (vp_in_nI (by omega) (by omega)) dX2_blockAt_15 ?_
    refine tpi (nf_at (by omega)) ?_
    refine lv_iload_n hx hb dX2_blockAt_16 rfl (lv_at hl 2 rfl) ?_
    refine lv_icmp_ne (tgt := 22) hx hb dX2_blockAt_17 (by decide) (fun c_17 => ?_) (fun c_17 => ?_)
    · refine lv_iinc (v := (nI (i + 1))) (lv' := [(2, .int (nI (i + 1))), (0, .ref (b 0)), (1, .int p1)]) hx hb dX2_blockAt_22 hl (k := 0) rfl (nI_inc _) (by decide) rfl (fun ls hl => ?_)
      refine lv_goto (tgt := 2) hx hb dX2_blockAt_25 (by decide) ?_
      exact ih_2 (i + 1) (⟨by omega, by rw [hv, fndF_step (by omega), if_neg c_17]⟩) (show us - (i + 1) < us - i by omega) ls (lv_sub hl [0, 1, 2] rfl)
    · have e9 : fnd us pl p1 = i := by rw [hv, fndF_step (by omega), if_pos c_17]
      refine lv_iload_n hx hb dX2_blockAt_20 rfl (lv_at hl 0 rfl) ?_
      exact W.iret (v := (nI i)) hx hb hr (fun t ht hW => ⟨(nI i), rfl, Or.inr ⟨by rw [e9]; omega, by rw [e9]⟩, ht⟩) (fun _ h9 => absurd h9 List.not_mem_nil) dX2_blockAt_21
set_option maxHeartbeats 4000000 in
set_option maxRecDepth 100000 in
theorem c_X2_changedEnd (l : Launch) (dC : Nat → ClassId) (dI : Nat → Nat → Nat) (cB cI : ClassId) (b : Nat → Nat) (sz st us : Nat) (mem pl ln : Nat → Nat)  (g3 : sz ≤ 8192) (bmem : ∀ j, mem j < 256) : Met l yX2_changedEnd wsX2_changedEnd ({ frames := 2, cells := 0, slots := 0, locals := 41 }) (va_Pc [.ref (b 0)] (fun U => va_P (dC, dI) vwCl (sw cB cI b sz st us mem pl ln) U.heap ∧ va_K (dC, dI) vwCl [(cI, .int), (cB, .byte)] U)) (vp_Si (fun r => r = nI (endF (dif mem) sz))) 0 0 (fun _ => False) := by
  refine Met.ofW (cc := cX2_changedEnd) (maxL := 2) (ret := (some .int)) (by decide) rfl ?_
  intro p e s m args below meth c s₁ B hml hv
  obtain ⟨rfl, hP, hK⟩ := hv
  have hx := B.exec
  have hb := B.bytes
  have hr := B.returns
  have hts := atoms_spec (ws := wsX2_changedEnd) B.pre
  have hown : s.vm.findClass RX2 = some m.cls := findClass_of_methodNamed B.named
  have hlocks := B.notSynchronized
  have in_X2 : ∀ w ∈ wsX20, w ∈ wsX2_changedEnd := fun _ h => List.mem_cons_of_mem _ (List.mem_append_right _ (h))
  have lk_1 := hts (.fieldLink RX2 32 "GlulxHeap$State" "size" "I") (List.mem_of_getElem? (i := 1) rfl)
  have hl := lv_entry ([.ref (b 0)]) (n := 2) (Nat.le_of_ble_eq_true rfl)
  rw [lg_entry_eq]
  generalize (lg_sl ([.ref (b 0)]) ++ List.replicate (2 - (lg_sl ([.ref (b 0)])).length) Slot.unset).toArray = ls at hl ⊢
  have hl : lv_has ls 2 [(0, .ref (b 0))] := hl
  refine lv_aload_n hx hb dX2_changedEnd_0 rfl (lv_at hl 0 rfl) ?_
  refine va_get (D := (dC, dI)) (ci := 2) (v := .int (nI sz)) (C := RX2) (T := TX2) (N := 6) hx hb hts in_X2 hown hK hP 0 rfl rfl 3 (by decide) lk_1 (fun _ h9 => h9) rfl dX2_changedEnd_1 ?_
  refine lv_istore_n (lv' := [(1, .int (nI sz)), (0, .ref (b 0))]) hx hb dX2_changedEnd_4 rfl hl (by decide) rfl (fun ls hl => ?_)
  refine lp_still (σ := Nat) (fun i => i ≤ sz ∧ endF (dif mem) sz = endF (dif mem) i) (fun i => i) (fun i => [(1, .int (nI i)), (0, .ref (b 0))]) ?_ sz (⟨Nat.le_refl _, rfl⟩) (lv_sub hl [0, 1] rfl)
  intro i hI ih ls hl
  have hl : lv_has ls 2 [(1, .int (nI i)), (0, .ref (b 0))] := hl
  have hI : i ≤ sz ∧ endF (dif mem) sz = endF (dif mem) i := hI
  obtain ⟨hi, hv⟩ := hI
  have ih_5 := ih
  refine lv_iload_n hx hb dX2_changedEnd_5 rfl (lv_at hl 0 rfl) ?_
  refine lv_if_le (tgt := 27) hx hb dX2_changedEnd_6 (by decide) (fun c_6 => ?_) (fun c_6 => ?_)
  · have c_6 : i ≤ 0 := (nZ_le (by omega)).mp c_6
    refine lv_iconst (v := (nI 0)) hx hb dX2_changedEnd_27 (by decide) ?_
    exact W.iret (v := (nI 0)) hx hb hr (fun t ht hW => ⟨(nI 0), rfl, (show (nI 0) = nI (endF (dif mem) sz) from by rw [hv, show i = 0 by omega]; rfl), ht⟩) (fun _ h9 => absurd h9 List.not_mem_nil) dX2_changedEnd_28
  · have c_6 : ¬ i ≤ 0 := fun q => c_6 ((nZ_le (by omega)).mpr q)
    refine lv_aload_n hx hb dX2_changedEnd_9 rfl (lv_at hl 1 rfl) ?_
    refine lv_iload_n hx hb dX2_changedEnd_10 rfl (lv_at hl 0 rfl) ?_
    refine lv_iconst (v := (nI 1)) hx hb dX2_changedEnd_11 (by decide) ?_
    refine lv_isub hx hb dX2_changedEnd_12 ?_
    refine tpi (pk_sub (by omega)) ?_
    refine vp_callSi (W.runV (As := [.int (nI (i - 1))]) (rest := []) ⟨hx, hb, hml, hown, hts⟩ (c_X2_difference l dC dI cB cI b sz st us mem pl ln (i - 1) (by omega) bmem) (cwV 1 hts gX2_changedEnd_X2_difference rfl rfl rfl (by decide +kernel) ⟨Nat.le_of_ble_eq_true rfl, Nat.le_of_ble_eq_true rfl⟩) ⟨fun a9 U g9 mk9 q9 => by obtain ⟨q0, qP, qK⟩ := q9; exact ⟨q0, qP, va_K.moved (u := U) (U := U.calling g9 mk9 a9) (Vm.Alike.refl U.vm) qK⟩, va_recv hK hP (ci := 2) (q0 := 0) rfl rfl, fun U hU hW => ⟨rfl, by rw [hU]; exact hP, va_K.moved hW.alike hK⟩⟩ rfl rfl hl.1 rfl (lv_room (Nat.le_of_ble_eq_true rfl)) dX2_changedEnd_13 ⟨Nat.zero_le _, Nat.zero_le _⟩) (fun r_13 hw => ?_)
    try dsimp only at hw
    subst hw
    have wd_13 := dif_lt bmem (i - 1)
    refine lv_if_eq (tgt := 21) hx hb dX2_changedEnd_16 (by decide) (fun c_16 => ?_) (fun c_16 => ?_)
    · have c_16 : dif mem (i - 1) = 0 := (nZ_eq (by omega)).mp c_16
      refine lv_iinc (v := (nI (i - 1))) (lv' := [(1, .int (nI (i - 1))), (0, .ref (b 0))]) hx hb dX2_changedEnd_21 hl (k := 0) rfl (nI_dec (by omega)) (by decide) rfl (fun ls hl => ?_)
      refine lv_goto (tgt := 5) hx hb dX2_changedEnd_24 (by decide) ?_
      exact ih_5 (i - 1) (⟨by omega, by rw [hv]; have q := endF_s (dif mem) (i - 1); rw [show i - 1 + 1 = i by omega, if_pos c_16] at q; exact q⟩) (show (i - 1) < i by omega) ls (lv_sub hl [0, 1] rfl)
    · have c_16 : ¬ dif mem (i - 1) = 0 := fun q => c_16 ((nZ_eq (by omega)).mpr q)
      refine lv_iload_n hx hb dX2_changedEnd_19 rfl (lv_at hl 0 rfl) ?_
      exact W.iret (v := (nI i)) hx hb hr (fun t ht hW => ⟨(nI i), rfl, (show (nI i) = nI (endF (dif mem) sz) from by rw [hv]; have q := endF_s (dif mem) (i - 1); rw [show i - 1 + 1 = i by omega, if_neg c_16] at q; rw [q]), ht⟩) (fun _ h9 => absurd h9 List.not_mem_nil) dX2_changedEnd_20
set_option maxHeartbeats 4000000 in
set_option maxRecDepth 100000 in
theorem c_X2_unchangedRow (l : Launch) (dC : Nat → ClassId) (dI : Nat → Nat → Nat) (cB cI : ClassId) (b : Nat → Nat) (sz st us : Nat) (mem pl ln : Nat → Nat) (x en : Nat) (g1 : x ≤ en) (g2 : en ≤ 8192) (bmem : ∀ j, mem j < 256) : Met l yX2_unchangedRow wsX2_unchangedRow ({ frames := 2, cells := 0, slots := 0, locals := 41 }) (va_Pc [.ref (b 0), .int (nI x), .int (nI en)] (fun U => va_P (dC, dI) vwCl (sw cB cI b sz st us mem pl ln) U.heap ∧ va_K (dC, dI) vwCl [(cI, .int), (cB, .byte)] U)) (vp_Si (fun r => r = nI (rowN (dif mem) en x))) 0 0 (fun _ => False) := by
  refine Met.ofW (cc := cX2_unchangedRow) (maxL := 5) (ret := (some .int)) (by decide) rfl ?_
  intro p e s m args below meth c s₁ B hml hv
  obtain ⟨rfl, hP, hK⟩ := hv
  have hx := B.exec
  have hb := B.bytes
  have hr := B.returns
  have hts := atoms_spec (ws := wsX2_unchangedRow) B.pre
  have hown : s.vm.findClass RX2 = some m.cls := findClass_of_methodNamed B.named
  have hlocks := B.notSynchronized
  have lk_1 := hts (.methodLink RX2 64 Lib.Math.min.name) (List.mem_of_getElem? (i := 1) rfl)
  have lk_2 := hts (.static Lib.Math.min.name) (List.mem_of_getElem? (i := 2) rfl)
  have lk_3 := hts (.initialized "java/lang/Math") (List.mem_of_getElem? (i := 3) rfl)
  have lk_4 := hts (.code Lib.Math.min.name Lib.Math.min.code 2 (some .int)) (List.mem_of_getElem? (i := 4) rfl)
  have hl := lv_entry ([.ref (b 0), .int (nI x), .int (nI en)]) (n := 5) (Nat.le_of_ble_eq_true rfl)
  rw [lg_entry_eq]
  generalize (lg_sl ([.ref (b 0), .int (nI x), .int (nI en)]) ++ List.replicate (5 - (lg_sl ([.ref (b 0), .int (nI x), .int (nI en)])).length) Slot.unset).toArray = ls at hl ⊢
  have hl : lv_has ls 5 [(0, .ref (b 0)), (1, .int (nI x)), (2, .int (nI en))] := hl
  refine lv_iload_n hx hb dX2_unchangedRow_0 rfl (lv_at hl 2 rfl) ?_
  refine lv_iload_n hx hb dX2_unchangedRow_1 rfl (lv_at hl 1 rfl) ?_
  refine lv_sipush (v := (nI 256)) hx hb dX2_unchangedRow_2 (by decide) ?_
  refine lv_iadd hx hb dX2_unchangedRow_5 ?_
  refine tpi (nI_add _ _) ?_
  refine va_mmin hx hb (by rw [hml]; exact hl.1.symm) hown lk_1 lk_2 lk_3 lk_4 (Nat.le_of_ble_eq_true rfl) (Nat.le_of_ble_eq_true rfl) (Nat.zero_le _) (Nat.zero_le _) dX2_unchangedRow_6 ?_
  refine tpi (mmin (x := en) (y := x + 256) (by omega) (by omega)) ?_
  refine lv_istore_n (lv' := [(3, .int (nI (if x + 256 < en then x + 256 else en))), (0, .ref (b 0)), (1, .int (nI x)), (2, .int (nI en))]) hx hb dX2_unchangedRow_9 rfl hl (by decide) rfl (fun ls hl => ?_)
  obtain ⟨la, hla⟩ : ∃ q : Nat, q = if x + 256 < en then x + 256 else en := ⟨_, rfl⟩
  rw [← hla] at hl
  have hl1 : x ≤ la ∧ la ≤ en ∧ la ≤ x + 256 ∧ (la = en ∨ la = x + 256) := by rw [hla]; split <;> omega
  refine lv_iload_n hx hb dX2_unchangedRow_10 rfl (lv_at hl 2 rfl) ?_
  refine lv_istore (lv' := [(4, .int (nI x)), (3, .int (nI la)), (0, .ref (b 0)), (1, .int (nI x)), (2, .int (nI en))]) hx hb dX2_unchangedRow_11 hl (by decide) rfl (fun ls hl => ?_)
  refine lp_still (σ := Nat) (fun i => x ≤ i ∧ i ≤ la ∧ rowN (dif mem) en x = rowF (dif mem) en x (256 - (i - x)) (i - x)) (fun i => la - i) (fun i => [(4, .int (nI i)), (3, .int (nI la)), (0, .ref (b 0)), (1, .int (nI x)), (2, .int (nI en))]) ?_ x (⟨Nat.le_refl _, by omega, by rw [Nat.sub_self]; rfl⟩) (lv_sub hl [0, 1, 2, 3, 4] rfl)
  intro i hI ih ls hl
  have hl : lv_has ls 5 [(4, .int (nI i)), (3, .int (nI la)), (0, .ref (b 0)), (1, .int (nI x)), (2, .int (nI en))] := hl
  have hI : x ≤ i ∧ i ≤ la ∧ rowN (dif mem) en x = rowF (dif mem) en x (256 - (i - x)) (i - x) := hI
  obtain ⟨hi, hi2, hv⟩ := hI
  have ih_13 := ih
  refine lv_iload hx hb dX2_unchangedRow_13 (lv_at hl 0 rfl) ?_
  refine lv_iload_n hx hb dX2_unchangedRow_15 rfl (lv_at hl 1 rfl) ?_
  refine lv_icmp_ge (tgt := 39) hx hb dX2_unchangedRow_16 (by decide) (fun c_16 => ?_) (fun c_16 => ?_)
  · have c_16 : la ≤ i := (nI_leI (a := la) (b := i) (by omega) (by omega)).mp c_16
    refine lv_iload_n hx hb dX2_unchangedRow_39 rfl (lv_at hl 1 rfl) ?_
    refine lv_iload_n hx hb dX2_unchangedRow_40 rfl (lv_at hl 3 rfl) ?_
    refine lv_isub hx hb dX2_unchangedRow_41 ?_
    refine tpi (pk_sub (by omega)) ?_
    exact W.iret (v := (nI (la - x))) hx hb hr (fun t ht hW => ⟨(nI (la - x)), rfl, (show (nI (la - x)) = nI (rowN (dif mem) en x) from by rw [hv, show i = la by omega]; exact if q : la = x + 256 then by rw [show 256 - (la - x) = 0 by omega]; rfl else by rw [rowF_s (by omega), if_neg (by omega)]), ht⟩) (fun _ h9 => absurd h9 List.not_mem_nil) dX2_unchangedRow_42
  · have c_16 : ¬ la ≤ i := fun q => c_16 ((nI_leI (a := la) (b := i) (by omega) (by omega)).mpr q)
    refine lv_aload_n hx hb dX2_unchangedRow_19 rfl (lv_at hl 2 rfl) ?_
    refine lv_iload hx hb dX2_unchangedRow_20 (lv_at hl 0 rfl) ?_
    refine vp_callSi (W.runV (As := [.int (nI i)]) (rest := []) ⟨hx, hb, hml, hown, hts⟩ (c_X2_difference l dC dI cB cI b sz st us mem pl ln i (by omega) bmem) (cwV 1 hts gX2_unchangedRow_X2_difference rfl rfl rfl (by decide +kernel) ⟨Nat.le_of_ble_eq_true rfl, Nat.le_of_ble_eq_true rfl⟩) ⟨fun a9 U g9 mk9 q9 => by obtain ⟨q0, qP, qK⟩ := q9; exact ⟨q0, qP, va_K.moved (u := U) (U := U.calling g9 mk9 a9) (Vm.Alike.refl U.vm) qK⟩, va_recv hK hP (ci := 2) (q0 := 0) rfl rfl, fun U hU hW => ⟨rfl, by rw [hU]; exact hP, va_K.moved hW.alike hK⟩⟩ rfl rfl hl.1 rfl (lv_room (Nat.le_of_ble_eq_true rfl)) dX2_unchangedRow_22 ⟨Nat.zero_le _, Nat.zero_le _⟩) (fun r_22 hw => ?_)
    try dsimp only at hw
    subst hw
    have wd_22 := dif_lt bmem i
    refine lv_if_eq (tgt := 33) hx hb dX2_unchangedRow_25 (by decide) (fun c_25 => ?_) (fun c_25 => ?_)
    · have c_25 : dif mem i = 0 := (nZ_eq (by omega)).mp c_25
      refine lv_iinc (v := (nI (i + 1))) (lv' := [(4, .int (nI (i + 1))), (3, .int (nI la)), (0, .ref (b 0)), (1, .int (nI x)), (2, .int (nI en))]) hx hb dX2_unchangedRow_33 hl (k := 0) rfl (nI_inc _) (by decide) rfl (fun ls hl => ?_)
      refine lv_goto (tgt := 13) hx hb dX2_unchangedRow_36 (by decide) ?_
      exact ih_13 (i + 1) (⟨by omega, by omega, by rw [hv, rowF_s (by omega), if_pos (by rw [show x + (i - x) = i by omega]; exact ⟨by omega, c_25⟩), show i - x + 1 = i + 1 - x by omega]⟩) (show la - (i + 1) < la - i by omega) ls (lv_sub hl [0, 1, 2, 3, 4] rfl)
    · have c_25 : ¬ dif mem i = 0 := fun q => c_25 ((nZ_eq (by omega)).mpr q)
      refine lv_iload hx hb dX2_unchangedRow_28 (lv_at hl 0 rfl) ?_
      refine lv_iload_n hx hb dX2_unchangedRow_30 rfl (lv_at hl 3 rfl) ?_
      refine lv_isub hx hb dX2_unchangedRow_31 ?_
      refine tpi (pk_sub (by omega)) ?_
      exact W.iret (v := (nI (i - x))) hx hb hr (fun t ht hW => ⟨(nI (i - x)), rfl, (show (nI (i - x)) = nI (rowN (dif mem) en x) from by rw [hv, rowF_s (by omega), if_neg (by rw [show x + (i - x) = i by omega]; exact fun q => c_25 q.2)]), ht⟩) (fun _ h9 => absurd h9 List.not_mem_nil) dX2_unchangedRow_32
