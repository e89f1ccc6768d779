set_option maxHeartbeats 4000000 in
set_option maxRecDepth 100000 in
theorem c_X4_first (l : Launch) (i : Nat) (g1 : i < 2 ^ 20) : Met l yX4_first wsX4_first ({ frames := 0, cells := 0, slots := 0, locals := 0 }) (va_Pc [.int (nI i)] (fun _ => True)) (vp_Si (fun r => r = nI (fst i))) 0 0 (fun _ => False) := by
  refine Met.ofW (cc := cX4_first) (maxL := 1) (ret := (some .int)) (by decide) rfl ?_
  intro p e s m args below meth c s₁ B hml hv
  obtain ⟨rfl, -⟩ := hv
  have hx := B.exec
  have hb := B.bytes
  have hr := B.returns
  have hts := atoms_spec (ws := wsX4_first) B.pre
  have hown : s.vm.findClass RX4 = some m.cls := findClass_of_methodNamed B.named
  have hlocks := B.notSynchronized
  have hl := lv_entry ([.int (nI i)]) (n := 1) (Nat.le_of_ble_eq_true rfl)
  rw [lg_entry_eq]
  generalize (lg_sl ([.int (nI i)]) ++ List.replicate (1 - (lg_sl ([.int (nI i)])).length) Slot.unset).toArray = ls at hl ⊢
  have hl : lv_has ls 1 [(0, .int (nI i))] := hl
  refine lv_iload_n hx hb dX4_first_0 rfl (lv_at hl 0 rfl) ?_
  refine lv_bipush (v := (nI 64)) hx hb dX4_first_1 (by decide) ?_
  refine lv_icmp_ge (tgt := 17) hx hb dX4_first_3 (by decide) (fun c_3 => ?_) (fun c_3 => ?_)
  · have c_3 : 64 ≤ i := (nI_leI (a := 64) (b := i) (by omega) (by omega)).mp c_3
    refine lv_iconst (v := (nI 0)) hx hb dX4_first_17 (by decide) ?_
    exact W.iret (v := (nI 0)) hx hb hr (fun t ht hW => ⟨(nI 0), rfl, (show (nI 0) = nI (fst i) from by show _ = nI (fst i); unfold fst; rw [if_neg (by omega)]), ht⟩) (fun _ h9 => absurd h9 List.not_mem_nil) dX4_first_18
  · have c_3 : ¬ 64 ≤ i := fun q => c_3 ((nI_leI (a := 64) (b := i) (by omega) (by omega)).mpr q)
    refine lv_bipush (v := (nI 7)) hx hb dX4_first_6 (by decide) ?_
    refine lv_iload_n hx hb dX4_first_8 rfl (lv_at hl 0 rfl) ?_
    refine lv_imul hx hb dX4_first_9 ?_
    refine tpi (pk_mul _ _) ?_
    refine lv_sipush (v := (nI 255)) hx hb dX4_first_10 (by decide) ?_
    refine lv_iand hx hb dX4_first_13 ?_
    refine tpi (and255 (by omega)) ?_
    refine lv_goto (tgt := 18) hx hb dX4_first_14 (by decide) ?_
    exact W.iret (v := (nI ((7 * i) % 256))) hx hb hr (fun t ht hW => ⟨(nI ((7 * i) % 256)), rfl, (show (nI ((7 * i) % 256)) = nI (fst i) from by show _ = nI (fst i); unfold fst; rw [if_pos (by omega)]), ht⟩) (fun _ h9 => absurd h9 List.not_mem_nil) dX4_first_18
set_option maxHeartbeats 4000000 in
set_option maxRecDepth 100000 in
theorem c_X4_isSizeN (l : Launch) (v : Int32) (g1 : v < 0) : Met l yX4_isSize wsX4_isSize ({ frames := 0, cells := 0, slots := 0, locals := 0 }) (va_Pc [.int v] (fun _ => True)) (vp_Si (fun r => r = nI 0)) 0 0 (fun _ => False) := by
  refine Met.ofW (cc := cX4_isSize) (maxL := 1) (ret := (some .boolean)) (by decide) rfl ?_
  intro p e s m args below meth c s₁ B hml hv
  obtain ⟨rfl, -⟩ := hv
  have hx := B.exec
  have hb := B.bytes
  have hr := B.returns
  have hts := atoms_spec (ws := wsX4_isSize) B.pre
  have hown : s.vm.findClass RX4 = some m.cls := findClass_of_methodNamed B.named
  have hlocks := B.notSynchronized
  have hl := lv_entry ([.int v]) (n := 1) (Nat.le_of_ble_eq_true rfl)
  rw [lg_entry_eq]
  generalize (lg_sl ([.int v]) ++ List.replicate (1 - (lg_sl ([.int v])).length) Slot.unset).toArray = ls at hl ⊢
  have hl : lv_has ls 1 [(0, .int v)] := hl
  refine lv_iload_n hx hb dX4_isSize_0 rfl (lv_at hl 0 rfl) ?_
  refine lv_sipush (v := (nI 256)) hx hb dX4_isSize_1 (by decide) ?_
  refine lv_icmp_lt (tgt := 26) hx hb dX4_isSize_4 (by decide) (fun c_4 => ?_) (fun c_4 => ?_)
  · refine lv_iconst (v := (nI 0)) hx hb dX4_isSize_26 (by decide) ?_
    exact W.zret (v := (nI 0)) (ty := .boolean) hx hb hr (by decide) (fun t ht hW => ⟨(nI 0), rfl, (show (nI 0) = nI 0 from rfl), ht⟩) (fun _ h9 => absurd h9 List.not_mem_nil) dX4_isSize_27
  · skip
    exact absurd (Int32.lt_of_lt_of_le g1 (by decide)) c_4
set_option maxHeartbeats 4000000 in
set_option maxRecDepth 100000 in
theorem c_X4_number (l : Launch) (dC : Nat → ClassId) (dI : Nat → Nat → Nat) (cI : ClassId) (a : Nat → Nat) (sz st us kp ga gl cs : Nat) (mem pl ln km ks kt ku kl kn cd wt : Nat → Nat) (x k : Nat) (g1 : x + k ≤ 8192) (g2 : k ≤ 4) (bmem : ∀ j, mem j < 256) : Met l yX4_number wsX4_number ({ frames := 0, cells := 0, slots := 0, locals := 0 }) (va_Pc [.ref (a 0), .int (nI x), .int (nI k)] (fun U => va_P (dC, dI) vwCl (mw cI a sz st us kp ga gl cs mem pl ln km ks kt ku kl kn cd wt) U.heap ∧ va_K (dC, dI) vwCl [(cI, .int)] U)) (vp_Sl (fun r => r = lN (num mem x k))) 0 0 (fun _ => False) := by
  refine Met.ofW (cc := cX4_number) (maxL := 6) (ret := (some .long)) (by decide) rfl ?_
  intro p e s m args below meth c s₁ B hml hv
  obtain ⟨rfl, hP, hK⟩ := hv
  have hx := B.exec
  have hb := B.bytes
  have hr := B.returns
  have hts := atoms_spec (ws := wsX4_number) B.pre
  have hown : s.vm.findClass RX4 = some m.cls := findClass_of_methodNamed B.named
  have hlocks := B.notSynchronized
  have in_X4 : ∀ w ∈ wsX40, w ∈ wsX4_number := fun _ h => List.mem_cons_of_mem _ (List.mem_append_right _ h)
  have lk_1 := hts (.fieldLink RX4 7 "GlulxHeapModel" "memory" "[I") (List.mem_of_getElem? (i := 1) rfl)
  have hl := lv_entry ([.ref (a 0), .int (nI x), .int (nI k)]) (n := 6) (Nat.le_of_ble_eq_true rfl)
  rw [lg_entry_eq]
  generalize (lg_sl ([.ref (a 0), .int (nI x), .int (nI k)]) ++ List.replicate (6 - (lg_sl ([.ref (a 0), .int (nI x), .int (nI k)])).length) Slot.unset).toArray = ls at hl ⊢
  have hl : lv_has ls 6 [(0, .ref (a 0)), (1, .int (nI x)), (2, .int (nI k))] := hl
  refine lv_lconst (v := lN 0) hx hb dX4_number_0 (by decide) ?_
  refine lv_lstore_n (lv' := [(3, .long (lN 0)), (0, .ref (a 0)), (1, .int (nI x)), (2, .int (nI k))]) hx hb dX4_number_1 rfl hl (by decide) rfl (fun ls hl => ?_)
  refine lv_iconst (v := (nI 0)) hx hb dX4_number_2 (by decide) ?_
  refine lv_istore (lv' := [(5, .int (nI 0)), (3, .long (lN 0)), (0, .ref (a 0)), (1, .int (nI x)), (2, .int (nI k))]) hx hb dX4_number_3 hl (by decide) rfl (fun ls hl => ?_)
  refine lp_still (σ := Nat × Nat) (fun ⟨i, v⟩ => i ≤ k ∧ v = num mem x i) (fun ⟨i, v⟩ => k - i) (fun ⟨i, v⟩ => [(5, .int (nI i)), (3, .long (lN v)), (0, .ref (a 0)), (1, .int (nI x)), (2, .int (nI k))]) ?_ ((0, 0)) (⟨Nat.zero_le _, rfl⟩) (lv_sub hl [0, 1, 2, 3, 4] rfl)
  intro ⟨i, v⟩ hI ih ls hl
  have hl : lv_has ls 6 [(5, .int (nI i)), (3, .long (lN v)), (0, .ref (a 0)), (1, .int (nI x)), (2, .int (nI k))] := hl
  have hI : i ≤ k ∧ v = num mem x i := hI
  obtain ⟨hi, hv⟩ := hI
  have ih_5 := ih
  refine lv_iload hx hb dX4_number_5 (lv_at hl 0 rfl) ?_
  refine lv_iload_n hx hb dX4_number_7 rfl (lv_at hl 4 rfl) ?_
  refine lv_icmp_ge (tgt := 33) hx hb dX4_number_8 (by decide) (fun c_8 => ?_) (fun c_8 => ?_)
  · have c_8 : k ≤ i := (nI_leI (a := k) (b := i) (by omega) (by omega)).mp c_8
    refine lv_lload_n hx hb dX4_number_33 rfl (lv_at hl 1 rfl) ?_
    exact W.lret (v := (lN v)) hx hb hr (fun t ht hW => ⟨(lN v), rfl, (show (lN v) = lN (num mem x k) from by rw [hv, show i = k by omega]), ht⟩) (fun _ h9 => absurd h9 List.not_mem_nil) dX4_number_34
  · have c_8 : ¬ k ≤ i := fun q => c_8 ((nI_leI (a := k) (b := i) (by omega) (by omega)).mpr q)
    have hb32 : v < 2 ^ 32 := by rw [hv]; exact num_lt4 bmem (by omega)
    refine lv_lload_n hx hb dX4_number_11 rfl (lv_at hl 1 rfl) ?_
    refine lv_bipush (v := (nI 8)) hx hb dX4_number_12 (by decide) ?_
    refine lv_lshl hx hb dX4_number_14 (shl8l _) ?_
    refine lv_aload_n hx hb dX4_number_15 rfl (lv_at hl 2 rfl) ?_
    refine va_get (D := (dC, dI)) (ci := 4) (v := .ref (a 1)) (C := RX4) (T := TX4) (N := 18) hx hb hts in_X4 hown hK hP 0 rfl rfl 0 (by decide) lk_1 (fun _ h9 => h9) rfl dX4_number_16 ?_
    refine lv_iload_n hx hb dX4_number_19 rfl (lv_at hl 3 rfl) ?_
    refine lv_iload hx hb dX4_number_20 (lv_at hl 0 rfl) ?_
    refine lv_iadd hx hb dX4_number_22 ?_
    refine tpi (nI_add _ _) ?_
    refine va_iald hx hb hK hP 1 0 rfl rfl (vp_in_nI (by omega) (by omega)) dX4_number_23 ?_
    refine tpi (nf_at (by omega)) ?_
    have w_23 := bmem (x + i)
    refine lv_i2l (v := lN (mem (x + i))) hx hb dX4_number_24 (nI_l (by omega)) ?_
    refine lv_lor hx hb dX4_number_25 ?_
    refine tpl (or8l w_23 (by omega)) ?_
    refine lv_lstore_n (lv' := [(3, .long (lN (v * 256 + (mem (x + i))))), (5, .int (nI i)), (0, .ref (a 0)), (1, .int (nI x)), (2, .int (nI k))]) hx hb dX4_number_26 rfl hl (by decide) rfl (fun ls hl => ?_)
    refine lv_iinc (v := (nI (i + 1))) (lv' := [(5, .int (nI (i + 1))), (3, .long (lN (v * 256 + (mem (x + i))))), (0, .ref (a 0)), (1, .int (nI x)), (2, .int (nI k))]) hx hb dX4_number_27 hl (k := 1) rfl (nI_inc _) (by decide) rfl (fun ls hl => ?_)
    refine lv_goto (tgt := 5) hx hb dX4_number_30 (by decide) ?_
    exact ih_5 (i + 1, v * 256 + (mem (x + i))) (⟨by omega, by rw [hv]; rfl⟩) (show k - (i + 1) < k - i by omega) ls (lv_sub hl [0, 1, 2, 3, 4] rfl)
set_option maxHeartbeats 4000000 in
set_option maxRecDepth 100000 in
theorem c_X4_compare (l : Launch) (dC : Nat → ClassId) (dI : Nat → Nat → Nat) (cI : ClassId) (a : Nat → Nat) (sz st us kp ga gl cs : Nat) (mem pl ln km ks kt ku kl kn cd wt : Nat → Nat) (x k : Nat) (g1 : x + k ≤ 8192) (g2 : k ≤ 64) (bmem : ∀ j, mem j < 256) (bwt : ∀ j, wt j < 256) : Met l yX4_compare wsX4_compare ({ frames := 0, cells := 0, slots := 0, locals := 0 }) (va_Pc [.ref (a 0), .int (nI x), .int (nI k)] (fun U => va_P (dC, dI) vwCl (mw cI a sz st us kp ga gl cs mem pl ln km ks kt ku kl kn cd wt) U.heap ∧ va_K (dC, dI) vwCl [(cI, .int)] U)) (vp_Si (fun r => (cmpB mem x wt k = 0 ∧ r = nI 0) ∨ (cmpB mem x wt k = 1 ∧ r = (-1)) ∨ (cmpB mem x wt k = 2 ∧ r = nI 1))) 0 0 (fun _ => False) := by
  refine Met.ofW (cc := cX4_compare) (maxL := 4) (ret := (some .int)) (by decide) rfl ?_
  intro p e s m args below meth c s₁ B hml hv
  obtain ⟨rfl, hP, hK⟩ := hv
  have hx := B.exec
  have hb := B.bytes
  have hr := B.returns
  have hts := atoms_spec (ws := wsX4_compare) B.pre
  have hown : s.vm.findClass RX4 = some m.cls := findClass_of_methodNamed B.named
  have hlocks := B.notSynchronized
  have in_X4 : ∀ w ∈ wsX40, w ∈ wsX4_compare := fun _ h => List.mem_cons_of_mem _ (List.mem_append_right _ h)
  have lk_1 := hts (.fieldLink RX4 7 "GlulxHeapModel" "memory" "[I") (List.mem_of_getElem? (i := 1) rfl)
  have lk_2 := hts (.fieldLink RX4 41 "GlulxHeapModel" "wanted" "[I") (List.mem_of_getElem? (i := 2) rfl)
  have hl := lv_entry ([.ref (a 0), .int (nI x), .int (nI k)]) (n := 4) (Nat.le_of_ble_eq_true rfl)
  rw [lg_entry_eq]
  generalize (lg_sl ([.ref (a 0), .int (nI x), .int (nI k)]) ++ List.replicate (4 - (lg_sl ([.ref (a 0), .int (nI x), .int (nI k)])).length) Slot.unset).toArray = ls at hl ⊢
  have hl : lv_has ls 4 [(0, .ref (a 0)), (1, .int (nI x)), (2, .int (nI k))] := hl
  refine lv_iconst (v := (nI 0)) hx hb dX4_compare_0 (by decide) ?_
  refine lv_istore_n (lv' := [(3, .int (nI 0)), (0, .ref (a 0)), (1, .int (nI x)), (2, .int (nI k))]) hx hb dX4_compare_1 rfl hl (by decide) rfl (fun ls hl => ?_)
  refine lp_still (σ := Nat) (fun i => i ≤ k ∧ cmpB mem x wt k = cmpF mem x wt k (k - i) i) (fun i => k - i) (fun i => [(3, .int (nI i)), (0, .ref (a 0)), (1, .int (nI x)), (2, .int (nI k))]) ?_ 0 (⟨Nat.zero_le _, rfl⟩) (lv_sub hl [0, 1, 2, 3] rfl)
  intro i hI ih ls hl
  have hl : lv_has ls 4 [(3, .int (nI i)), (0, .ref (a 0)), (1, .int (nI x)), (2, .int (nI k))] := hl
  have hI : i ≤ k ∧ cmpB mem x wt k = cmpF mem x wt k (k - i) i := hI
  obtain ⟨hi, hv⟩ := hI
  have ih_2 := ih
  refine lv_iload_n hx hb dX4_compare_2 rfl (lv_at hl 0 rfl) ?_
  refine lv_iload_n hx hb dX4_compare_3 rfl (lv_at hl 3 rfl) ?_
  refine lv_icmp_ge (tgt := 53) hx hb dX4_compare_4 (by decide) (fun c_4 => ?_) (fun c_4 => ?_)
  · have c_4 : k ≤ i := (nI_leI (a := k) (b := i) (by omega) (by omega)).mp c_4
    refine lv_iconst (v := (nI 0)) hx hb dX4_compare_53 (by decide) ?_
    exact W.iret (v := (nI 0)) hx hb hr (fun t ht hW => ⟨(nI 0), rfl, Or.inl ⟨by rw [hv, cmpF_end (by omega)], rfl⟩, ht⟩) (fun _ h9 => absurd h9 List.not_mem_nil) dX4_compare_54
  · have c_4 : ¬ k ≤ i := fun q => c_4 ((nI_leI (a := k) (b := i) (by omega) (by omega)).mpr q)
    refine lv_aload_n hx hb dX4_compare_7 rfl (lv_at hl 1 rfl) ?_
    refine va_get (D := (dC, dI)) (ci := 4) (v := .ref (a 1)) (C := RX4) (T := TX4) (N := 18) hx hb hts in_X4 hown hK hP 0 rfl rfl 0 (by decide) lk_1 (fun _ h9 => h9) rfl dX4_compare_8 ?_
    refine lv_iload_n hx hb dX4_compare_11 rfl (lv_at hl 2 rfl) ?_
    refine lv_iload_n hx hb dX4_compare_12 rfl (lv_at hl 0 rfl) ?_
    refine lv_iadd hx hb dX4_compare_13 ?_
    refine tpi (nI_add _ _) ?_
    refine va_iald hx hb hK hP 1 0 rfl rfl (vp_in_nI (by omega) (by omega)) dX4_compare_14 ?_
    refine tpi (nf_at (by omega)) ?_
    have w_14 := bmem (x + i)
    refine lv_aload_n hx hb dX4_compare_15 rfl (lv_at hl 1 rfl) ?_
    refine va_get (D := (dC, dI)) (ci := 4) (v := .ref (a 11)) (C := RX4) (T := TX4) (N := 18) hx hb hts in_X4 hown hK hP 0 rfl rfl 17 (by decide) lk_2 (fun _ h9 => h9) rfl dX4_compare_16 ?_
    refine lv_iload_n hx hb dX4_compare_19 rfl (lv_at hl 0 rfl) ?_
    refine va_iald hx hb hK hP 11 0 rfl rfl (vp_in_nI (by omega) (by omega)) dX4_compare_20 ?_
    refine tpi (nf_at (by omega)) ?_
    have w_20 := bwt i
    refine lv_icmp_eq (tgt := 47) hx hb dX4_compare_21 (by decide) (fun c_21 => ?_) (fun c_21 => ?_)
    · have c_21 : mem (x + i) = wt i := (nI_eq (a := mem (x + i)) (b := wt i) (by omega) (by omega)).mp c_21
      refine lv_iinc (v := (nI (i + 1))) (lv' := [(3, .int (nI (i + 1))), (0, .ref (a 0)), (1, .int (nI x)), (2, .int (nI k))]) hx hb dX4_compare_47 hl (k := 0) rfl (nI_inc _) (by decide) rfl (fun ls hl => ?_)
      refine lv_goto (tgt := 2) hx hb dX4_compare_50 (by decide) ?_
      exact ih_2 (i + 1) (⟨by omega, by rw [hv, cmpF_step (by omega), if_pos c_21]⟩) (show k - (i + 1) < k - i by omega) ls (lv_sub hl [0, 1, 2, 3] rfl)
    · have c_21 : ¬ mem (x + i) = wt i := fun q => c_21 ((nI_eq (a := mem (x + i)) (b := wt i) (by omega) (by omega)).mpr q)
      refine lv_aload_n hx hb dX4_compare_24 rfl (lv_at hl 1 rfl) ?_
      refine va_get (D := (dC, dI)) (ci := 4) (v := .ref (a 1)) (C := RX4) (T := TX4) (N := 18) hx hb hts in_X4 hown hK hP 0 rfl rfl 0 (by decide) lk_1 (fun _ h9 => h9) rfl dX4_compare_25 ?_
      refine lv_iload_n hx hb dX4_compare_28 rfl (lv_at hl 2 rfl) ?_
      refine lv_iload_n hx hb dX4_compare_29 rfl (lv_at hl 0 rfl) ?_
      refine lv_iadd hx hb dX4_compare_30 ?_
      refine tpi (nI_add _ _) ?_
      refine va_iald hx hb hK hP 1 0 rfl rfl (vp_in_nI (by omega) (by omega)) dX4_compare_31 ?_
      refine tpi (nf_at (by omega)) ?_
      have w_31 := bmem (x + i)
      refine lv_aload_n hx hb dX4_compare_32 rfl (lv_at hl 1 rfl) ?_
      refine va_get (D := (dC, dI)) (ci := 4) (v := .ref (a 11)) (C := RX4) (T := TX4) (N := 18) hx hb hts in_X4 hown hK hP 0 rfl rfl 17 (by decide) lk_2 (fun _ h9 => h9) rfl dX4_compare_33 ?_
      refine lv_iload_n hx hb dX4_compare_36 rfl (lv_at hl 0 rfl) ?_
      refine va_iald hx hb hK hP 11 0 rfl rfl (vp_in_nI (by omega) (by omega)) dX4_compare_37 ?_
      refine tpi (nf_at (by omega)) ?_
      have w_37 := bwt i
      refine lv_icmp_ge (tgt := 45) hx hb dX4_compare_38 (by decide) (fun c_38 => ?_) (fun c_38 => ?_)
      · have c_38 : wt i ≤ mem (x + i) := (nI_leI (a := wt i) (b := mem (x + i)) (by omega) (by omega)).mp c_38
        refine lv_iconst (v := (nI 1)) hx hb dX4_compare_45 (by decide) ?_
        exact W.iret (v := (nI 1)) hx hb hr (fun t ht hW => ⟨(nI 1), rfl, Or.inr (Or.inr ⟨by rw [hv, cmpF_step (by omega), if_neg c_21, if_neg (by omega)], rfl⟩), ht⟩) (fun _ h9 => absurd h9 List.not_mem_nil) dX4_compare_46
      · have c_38 : ¬ wt i ≤ mem (x + i) := fun q => c_38 ((nI_leI (a := wt i) (b := mem (x + i)) (by omega) (by omega)).mpr q)
        refine lv_iconst (v := ((-1))) hx hb dX4_compare_41 (by decide) ?_
        refine lv_goto (tgt := 46) hx hb dX4_compare_42 (by decide) ?_
        exact W.iret (v := ((-1))) hx hb hr (fun t ht hW => ⟨((-1)), rfl, Or.inr (Or.inl ⟨by rw [hv, cmpF_step (by omega), if_neg c_21, if_pos (by omega)], rfl⟩), ht⟩) (fun _ h9 => absurd h9 List.not_mem_nil) dX4_compare_46
set_option maxHeartbeats 4000000 in
set_option maxRecDepth 100000 in
theorem c_X4_isZero (l : Launch) (dC : Nat → ClassId) (dI : Nat → Nat → Nat) (cI : ClassId) (a : Nat → Nat) (sz st us kp ga gl cs : Nat) (mem pl ln km ks kt ku kl kn cd wt : Nat → Nat) (x k : Nat) (g1 : x + k ≤ 8192) (g2 : k ≤ 64) (bmem : ∀ j, mem j < 256) : Met l yX4_isZero wsX4_isZero ({ frames := 0, cells := 0, slots := 0, locals := 0 }) (va_Pc [.ref (a 0), .int (nI x), .int (nI k)] (fun U => va_P (dC, dI) vwCl (mw cI a sz st us kp ga gl cs mem pl ln km ks kt ku kl kn cd wt) U.heap ∧ va_K (dC, dI) vwCl [(cI, .int)] U)) (vp_Si (fun r => ((allZ mem x k) ∧ r = nI 1) ∨ (¬ (allZ mem x k) ∧ r = nI 0))) 0 0 (fun _ => False) := by
  refine Met.ofW (cc := cX4_isZero) (maxL := 5) (ret := (some .boolean)) (by decide) rfl ?_
  intro p e s m args below meth c s₁ B hml hv
  obtain ⟨rfl, hP, hK⟩ := hv
  have hx := B.exec
  have hb := B.bytes
  have hr := B.returns
  have hts := atoms_spec (ws := wsX4_isZero) B.pre
  have hown : s.vm.findClass RX4 = some m.cls := findClass_of_methodNamed B.named
  have hlocks := B.notSynchronized
  have in_X4 : ∀ w ∈ wsX40, w ∈ wsX4_isZero := fun _ h => List.mem_cons_of_mem _ (List.mem_append_right _ h)
  have lk_1 := hts (.fieldLink RX4 7 "GlulxHeapModel" "memory" "[I") (List.mem_of_getElem? (i := 1) rfl)
  have hl := lv_entry ([.ref (a 0), .int (nI x), .int (nI k)]) (n := 5) (Nat.le_of_ble_eq_true rfl)
  rw [lg_entry_eq]
  generalize (lg_sl ([.ref (a 0), .int (nI x), .int (nI k)]) ++ List.replicate (5 - (lg_sl ([.ref (a 0), .int (nI x), .int (nI k)])).length) Slot.unset).toArray = ls at hl ⊢
  have hl : lv_has ls 5 [(0, .ref (a 0)), (1, .int (nI x)), (2, .int (nI k))] := hl
  refine lv_iconst (v := (nI 1)) hx hb dX4_isZero_0 (by decide) ?_
  refine lv_istore_n (lv' := [(3, .int (nI 1)), (0, .ref (a 0)), (1, .int (nI x)), (2, .int (nI k))]) hx hb dX4_isZero_1 rfl hl (by decide) rfl (fun ls hl => ?_)
  refine lv_iconst (v := (nI 0)) hx hb dX4_isZero_2 (by decide) ?_
  refine lv_istore (lv' := [(4, .int (nI 0)), (3, .int (nI 1)), (0, .ref (a 0)), (1, .int (nI x)), (2, .int (nI k))]) hx hb dX4_isZero_3 hl (by decide) rfl (fun ls hl => ?_)
  refine lp_still (σ := Nat × Nat) (fun ⟨i, b⟩ => i ≤ k ∧ ((b = 1 ∧ allZ mem x i) ∨ (b = 0 ∧ ¬ allZ mem x k))) (fun ⟨i, b⟩ => k - i) (fun ⟨i, b⟩ => [(4, .int (nI i)), (3, .int (nI b)), (0, .ref (a 0)), (1, .int (nI x)), (2, .int (nI k))]) ?_ ((0, 1)) (⟨Nat.zero_le _, Or.inl ⟨rfl, fun j hj => absurd hj (Nat.not_lt_zero _)⟩⟩) (lv_sub hl [0, 1, 2, 3, 4] rfl)
  intro ⟨i, b⟩ hI ih ls hl
  have hl : lv_has ls 5 [(4, .int (nI i)), (3, .int (nI b)), (0, .ref (a 0)), (1, .int (nI x)), (2, .int (nI k))] := hl
  have hI : i ≤ k ∧ ((b = 1 ∧ allZ mem x i) ∨ (b = 0 ∧ ¬ allZ mem x k)) := hI
  obtain ⟨hi, hv⟩ := hI
  have ih_5 := ih
  refine lv_iload hx hb dX4_isZero_5 (lv_at hl 0 rfl) ?_
  refine lv_iload_n hx hb dX4_isZero_7 rfl (lv_at hl 4 rfl) ?_
  refine lv_icmp_ge (tgt := 39) hx hb dX4_isZero_8 (by decide) (fun c_8 => ?_) (fun c_8 => ?_)
  · have c_8 : k ≤ i := (nI_leI (a := k) (b := i) (by omega) (by omega)).mp c_8
    rcases hv with ⟨rfl, hv⟩ | ⟨rfl, hv⟩
    · refine lv_iload_n hx hb dX4_isZero_39 rfl (lv_at hl 1 rfl) ?_
      exact W.zret (v := (nI 1)) (ty := .boolean) hx hb hr (by decide) (fun t ht hW => ⟨(nI 1), rfl, Or.inl ⟨by rw [show k = i by omega]; exact hv, rfl⟩, ht⟩) (fun _ h9 => absurd h9 List.not_mem_nil) dX4_isZero_40
    · refine lv_iload_n hx hb dX4_isZero_39 rfl (lv_at hl 1 rfl) ?_
      exact W.zret (v := (nI 0)) (ty := .boolean) hx hb hr (by decide) (fun t ht hW => ⟨(nI 0), rfl, Or.inr ⟨hv, rfl⟩, ht⟩) (fun _ h9 => absurd h9 List.not_mem_nil) dX4_isZero_40
  · have c_8 : ¬ k ≤ i := fun q => c_8 ((nI_leI (a := k) (b := i) (by omega) (by omega)).mpr q)
    rcases hv with ⟨rfl, hv⟩ | ⟨rfl, hv⟩
    · refine lv_iload_n hx hb dX4_isZero_11 rfl (lv_at hl 1 rfl) ?_
      refine lv_if_eq (tgt := 31) hx hb dX4_isZero_12 (by decide) (fun c_12 => ?_) (fun c_12 => ?_)
      · exact absurd c_12 (by decide)
      · have c_12 : ¬ 1 = 0 := fun q => c_12 ((nZ_eq (by omega)).mpr q)
        refine lv_aload_n hx hb dX4_isZero_15 rfl (lv_at hl 2 rfl) ?_
        refine va_get (D := (dC, dI)) (ci := 4) (v := .ref (a 1)) (C := RX4) (T := TX4) (N := 18) hx hb hts in_X4 hown hK hP 0 rfl rfl 0 (by decide) lk_1 (fun _ h9 => h9) rfl dX4_isZero_16 ?_
        refine lv_iload_n hx hb dX4_isZero_19 rfl (lv_at hl 3 rfl) ?_
        refine lv_iload hx hb dX4_isZero_20 (lv_at hl 0 rfl) ?_
        refine lv_iadd hx hb dX4_isZero_22 ?_
        refine tpi (nI_add _ _) ?_
        refine va_iald hx hb hK hP 1 0 rfl rfl (vp_in_nI (by omega) (by omega)) dX4_isZero_23 ?_
        refine tpi (nf_at (by omega)) ?_
        have w_23 := bmem (x + i)
        refine lv_if_ne (tgt := 31) hx hb dX4_isZero_24 (by decide) (fun c_24 => ?_) (fun c_24 => ?_)
        · have c_24 : ¬ mem (x + i) = 0 := fun q => c_24 ((nZ_eq (by omega)).mpr q)
          refine lv_iconst (v := (nI 0)) hx hb dX4_isZero_31 (by decide) ?_
          refine lv_istore_n (lv' := [(3, .int (nI 0)), (4, .int (nI i)), (0, .ref (a 0)), (1, .int (nI x)), (2, .int (nI k))]) hx hb dX4_isZero_32 rfl hl (by decide) rfl (fun ls hl => ?_)
          refine lv_iinc (v := (nI (i + 1))) (lv' := [(4, .int (nI (i + 1))), (3, .int (nI 0)), (0, .ref (a 0)), (1, .int (nI x)), (2, .int (nI k))]) hx hb dX4_isZero_33 hl (k := 1) rfl (nI_inc _) (by decide) rfl (fun ls hl => ?_)
          refine lv_goto (tgt := 5) hx hb dX4_isZero_36 (by decide) ?_
          exact ih_5 (i + 1, 0) (⟨by omega, Or.inr ⟨rfl, fun hz => c_24 (hz i (by omega))⟩⟩) (show k - (i + 1) < k - i by omega) ls (lv_sub hl [0, 1, 2, 3, 4] rfl)
        · have c_24 : mem (x + i) = 0 := (nZ_eq (by omega)).mp c_24
          refine lv_iconst (v := (nI 1)) hx hb dX4_isZero_27 (by decide) ?_
          refine lv_goto (tgt := 32) hx hb dX4_isZero_28 (by decide) ?_
          refine lv_istore_n (lv' := [(3, .int (nI 1)), (4, .int (nI i)), (0, .ref (a 0)), (1, .int (nI x)), (2, .int (nI k))]) hx hb dX4_isZero_32 rfl hl (by decide) rfl (fun ls hl => ?_)
          refine lv_iinc (v := (nI (i + 1))) (lv' := [(4, .int (nI (i + 1))), (3, .int (nI 1)), (0, .ref (a 0)), (1, .int (nI x)), (2, .int (nI k))]) hx hb dX4_isZero_33 hl (k := 1) rfl (nI_inc _) (by decide) rfl (fun ls hl => ?_)
          refine lv_goto (tgt := 5) hx hb dX4_isZero_36 (by decide) ?_
          exact ih_5 (i + 1, 1) (⟨by omega, Or.inl ⟨rfl, fun j hj => if q : j < i then hv j q else by rw [show j = i by omega]; exact c_24⟩⟩) (show k - (i + 1) < k - i by omega) ls (lv_sub hl [0, 1, 2, 3, 4] rfl)
    · refine lv_iload_n hx hb dX4_isZero_11 rfl (lv_at hl 1 rfl) ?_
      refine lv_if_eq (tgt := 31) hx hb dX4_isZero_12 (by decide) (fun c_12 => ?_) (fun c_12 => ?_)
      · have c_12 : 0 = 0 := (nZ_eq (by omega)).mp c_12
        refine lv_iconst (v := (nI 0)) hx hb dX4_isZero_31 (by decide) ?_
        refine lv_istore_n (lv' := [(3, .int (nI 0)), (4, .int (nI i)), (0, .ref (a 0)), (1, .int (nI x)), (2, .int (nI k))]) hx hb dX4_isZero_32 rfl hl (by decide) rfl (fun ls hl => ?_)
        refine lv_iinc (v := (nI (i + 1))) (lv' := [(4, .int (nI (i + 1))), (3, .int (nI 0)), (0, .ref (a 0)), (1, .int (nI x)), (2, .int (nI k))]) hx hb dX4_isZero_33 hl (k := 1) rfl (nI_inc _) (by decide) rfl (fun ls hl => ?_)
        refine lv_goto (tgt := 5) hx hb dX4_isZero_36 (by decide) ?_
        exact ih_5 (i + 1, 0) (⟨by omega, Or.inr ⟨rfl, hv⟩⟩) (show k - (i + 1) < k - i by omega) ls (lv_sub hl [0, 1, 2, 3, 4] rfl)
      · exact absurd c_12 (by decide)
set_option maxHeartbeats 4000000 in
set_option maxRecDepth 100000 in
theorem c_X4_two (l : Launch) (dC : Nat → ClassId) (dI : Nat → Nat → Nat) (cI : ClassId) (a : Nat → Nat) (sz st us kp ga gl cs : Nat) (mem pl ln km ks kt ku kl kn cd wt : Nat → Nat) (x : Nat) (g1 : x + 2 ≤ 20000) (bcd : ∀ j, cd j < 256) : Met l yX4_two wsX4_two ({ frames := 0, cells := 0, slots := 0, locals := 0 }) (va_Pc [.ref (a 0), .int (nI x)] (fun U => va_P (dC, dI) vwCl (mw cI a sz st us kp ga gl cs mem pl ln km ks kt ku kl kn cd wt) U.heap ∧ va_K (dC, dI) vwCl [(cI, .int)] U)) (vp_Si (fun r => r = nI (tw cd x))) 0 0 (fun _ => False) := by
  refine Met.ofW (cc := cX4_two) (maxL := 2) (ret := (some .int)) (by decide) rfl ?_
  intro p e s m args below meth c s₁ B hml hv
  obtain ⟨rfl, hP, hK⟩ := hv
  have hx := B.exec
  have hb := B.bytes
  have hr := B.returns
  have hts := atoms_spec (ws := wsX4_two) B.pre
  have hown : s.vm.findClass RX4 = some m.cls := findClass_of_methodNamed B.named
  have hlocks := B.notSynchronized
  have in_X4 : ∀ w ∈ wsX40, w ∈ wsX4_two := fun _ h => List.mem_cons_of_mem _ (List.mem_append_right _ h)
  have lk_1 := hts (.fieldLink RX4 38 "GlulxHeapModel" "code" "[I") (List.mem_of_getElem? (i := 1) rfl)
  have hl := lv_entry ([.ref (a 0), .int (nI x)]) (n := 2) (Nat.le_of_ble_eq_true rfl)
  rw [lg_entry_eq]
  generalize (lg_sl ([.ref (a 0), .int (nI x)]) ++ List.replicate (2 - (lg_sl ([.ref (a 0), .int (nI x)])).length) Slot.unset).toArray = ls at hl ⊢
  have hl : lv_has ls 2 [(0, .ref (a 0)), (1, .int (nI x))] := hl
  refine lv_aload_n hx hb dX4_two_0 rfl (lv_at hl 0 rfl) ?_
  refine va_get (D := (dC, dI)) (ci := 4) (v := .ref (a 10)) (C := RX4) (T := TX4) (N := 18) hx hb hts in_X4 hown hK hP 0 rfl rfl 15 (by decide) lk_1 (fun _ h9 => h9) rfl dX4_two_1 ?_
  refine lv_iload_n hx hb dX4_two_4 rfl (lv_at hl 1 rfl) ?_
  refine va_iald hx hb hK hP 10 0 rfl rfl (vp_in_nI (by omega) (by omega)) dX4_two_5 ?_
  refine tpi (nf_at (by omega)) ?_
  have w_5 := bcd x
  refine lv_bipush (v := (nI 8)) hx hb dX4_two_6 (by decide) ?_
  refine lv_ishl hx hb dX4_two_8 ?_
  refine tpi (shl8 (by omega)) ?_
  refine lv_aload_n hx hb dX4_two_9 rfl (lv_at hl 0 rfl) ?_
  refine va_get (D := (dC, dI)) (ci := 4) (v := .ref (a 10)) (C := RX4) (T := TX4) (N := 18) hx hb hts in_X4 hown hK hP 0 rfl rfl 15 (by decide) lk_1 (fun _ h9 => h9) rfl dX4_two_10 ?_
  refine lv_iload_n hx hb dX4_two_13 rfl (lv_at hl 1 rfl) ?_
  refine lv_iconst (v := (nI 1)) hx hb dX4_two_14 (by decide) ?_
  refine lv_iadd hx hb dX4_two_15 ?_
  refine tpi (nI_add _ _) ?_
  refine va_iald hx hb hK hP 10 0 rfl rfl (vp_in_nI (by omega) (by omega)) dX4_two_16 ?_
  refine tpi (nf_at (by omega)) ?_
  have w_16 := bcd (x + 1)
  refine lv_ior hx hb dX4_two_17 ?_
  refine tpi (or8 w_16) ?_
  exact W.iret (v := (nI ((cd x) * 256 + (cd (x + 1))))) hx hb hr (fun t ht hW => ⟨(nI ((cd x) * 256 + (cd (x + 1)))), rfl, (show (nI ((cd x) * 256 + (cd (x + 1)))) = nI (tw cd x) from rfl), ht⟩) (fun _ h9 => absurd h9 List.not_mem_nil) dX4_two_18
set_option maxHeartbeats 4000000 in
set_option maxRecDepth 100000 in
theorem c_X4_behind (l : Launch) (dC : Nat → ClassId) (dI : Nat → Nat → Nat) (cI : ClassId) (a : Nat → Nat) (sz st us kp ga gl cs : Nat) (mem pl ln km ks kt ku kl kn cd wt : Nat → Nat) (i : Nat) (g1 : i < 65) : Met l yX4_behind wsX4_behind ({ frames := 0, cells := 0, slots := 0, locals := 0 }) (va_Pc [.ref (a 0), .int (nI i)] (fun U => va_P (dC, dI) vwCl (mw cI a sz st us kp ga gl cs mem pl ln km ks kt ku kl kn cd wt) U.heap ∧ va_K (dC, dI) vwCl [(cI, .int)] U)) (vp_Si (fun r => r = nI (pl i + ln i))) 0 0 (fun _ => False) := by
  refine Met.ofW (cc := cX4_behind) (maxL := 2) (ret := (some .int)) (by decide) rfl ?_
  intro p e s m args below meth c s₁ B hml hv
  obtain ⟨rfl, hP, hK⟩ := hv
  have hx := B.exec
  have hb := B.bytes
  have hr := B.returns
  have hts := atoms_spec (ws := wsX4_behind) B.pre
  have hown : s.vm.findClass RX4 = some m.cls := findClass_of_methodNamed B.named
  have hlocks := B.notSynchronized
  have in_X4 : ∀ w ∈ wsX40, w ∈ wsX4_behind := fun _ h => List.mem_cons_of_mem _ (List.mem_append_right _ h)
  have lk_1 := hts (.fieldLink RX4 13 "GlulxHeapModel" "place" "[I") (List.mem_of_getElem? (i := 1) rfl)
  have lk_2 := hts (.fieldLink RX4 16 "GlulxHeapModel" "length" "[I") (List.mem_of_getElem? (i := 2) rfl)
  have hl := lv_entry ([.ref (a 0), .int (nI i)]) (n := 2) (Nat.le_of_ble_eq_true rfl)
  rw [lg_entry_eq]
  generalize (lg_sl ([.ref (a 0), .int (nI i)]) ++ List.replicate (2 - (lg_sl ([.ref (a 0), .int (nI i)])).length) Slot.unset).toArray = ls at hl ⊢
  have hl : lv_has ls 2 [(0, .ref (a 0)), (1, .int (nI i))] := hl
  refine lv_aload_n hx hb dX4_behind_0 rfl (lv_at hl 0 rfl) ?_
  refine va_get (D := (dC, dI)) (ci := 4) (v := .ref (a 2)) (C := RX4) (T := TX4) (N := 18) hx hb hts in_X4 hown hK hP 0 rfl rfl 4 (by decide) lk_1 (fun _ h9 => h9) rfl dX4_behind_1 ?_
  refine lv_iload_n hx hb dX4_behind_4 rfl (lv_at hl 1 rfl) ?_
  refine va_iald hx hb hK hP 2 0 rfl rfl (vp_in_nI (by omega) (by omega)) dX4_behind_5 ?_
  refine tpi (nf_at (by omega)) ?_
  refine lv_aload_n hx hb dX4_behind_6 rfl (lv_at hl 0 rfl) ?_
  refine va_get (D := (dC, dI)) (ci := 4) (v := .ref (a 3)) (C := RX4) (T := TX4) (N := 18) hx hb hts in_X4 hown hK hP 0 rfl rfl 5 (by decide) lk_2 (fun _ h9 => h9) rfl dX4_behind_7 ?_
  refine lv_iload_n hx hb dX4_behind_10 rfl (lv_at hl 1 rfl) ?_
  refine va_iald hx hb hK hP 3 0 rfl rfl (vp_in_nI (by omega) (by omega)) dX4_behind_11 ?_
  refine tpi (nf_at (by omega)) ?_
  refine lv_iadd hx hb dX4_behind_12 ?_
  refine tpi (nI_add _ _) ?_
  exact W.iret (v := (nI (pl i + (ln i)))) hx hb hr (fun t ht hW => ⟨(nI (pl i + (ln i))), rfl, (show (nI (pl i + (ln i))) = nI (pl i + ln i) from rfl), ht⟩) (fun _ h9 => absurd h9 List.not_mem_nil) dX4_behind_13
set_option maxHeartbeats 4000000 in
set_option maxRecDepth 100000 in
theorem c_X4_gapAt (l : Launch) (dC : Nat → ClassId) (dI : Nat → Nat → Nat) (cI : ClassId) (a : Nat → Nat) (sz st us kp ga gl cs : Nat) (mem pl ln km ks kt ku kl kn cd wt : Nat → Nat) (i : Nat) (g1 : i ≤ 65) : Met l yX4_gapAt wsX4_gapAt ({ frames := 1, cells := 0, slots := 0, locals := 21 }) (va_Pc [.ref (a 0), .int (nI i)] (fun U => va_P (dC, dI) vwCl (mw cI a sz st us kp ga gl cs mem pl ln km ks kt ku kl kn cd wt) U.heap ∧ va_K (dC, dI) vwCl [(cI, .int)] U)) (vp_Si (fun r => r = nI (gAt st pl ln i))) 0 0 (fun _ => False) := by
  refine Met.ofW (cc := cX4_gapAt) (maxL := 2) (ret := (some .int)) (by decide) rfl ?_
  intro p e s m args below meth c s₁ B hml hv
  obtain ⟨rfl, hP, hK⟩ := hv
  have hx := B.exec
  have hb := B.bytes
  have hr := B.returns
  have hts := atoms_spec (ws := wsX4_gapAt) B.pre
  have hown : s.vm.findClass RX4 = some m.cls := findClass_of_methodNamed B.named
  have hlocks := B.notSynchronized
  have in_X4 : ∀ w ∈ wsX40, w ∈ wsX4_gapAt := fun _ h => List.mem_cons_of_mem _ (List.mem_append_right _ h)
  have lk_1 := hts (.fieldLink RX4 78 "GlulxHeapModel" "start" "I") (List.mem_of_getElem? (i := 1) rfl)
  have hl := lv_entry ([.ref (a 0), .int (nI i)]) (n := 2) (Nat.le_of_ble_eq_true rfl)
  rw [lg_entry_eq]
  generalize (lg_sl ([.ref (a 0), .int (nI i)]) ++ List.replicate (2 - (lg_sl ([.ref (a 0), .int (nI i)])).length) Slot.unset).toArray = ls at hl ⊢
  have hl : lv_has ls 2 [(0, .ref (a 0)), (1, .int (nI i))] := hl
  refine lv_iload_n hx hb dX4_gapAt_0 rfl (lv_at hl 1 rfl) ?_
  refine lv_if_ne (tgt := 11) hx hb dX4_gapAt_1 (by decide) (fun c_1 => ?_) (fun c_1 => ?_)
  · have c_1 : ¬ i = 0 := fun q => c_1 ((nZ_eq (by omega)).mpr q)
    refine lv_aload_n hx hb dX4_gapAt_11 rfl (lv_at hl 0 rfl) ?_
    refine lv_iload_n hx hb dX4_gapAt_12 rfl (lv_at hl 1 rfl) ?_
    refine lv_iconst (v := (nI 1)) hx hb dX4_gapAt_13 (by decide) ?_
    refine lv_isub hx hb dX4_gapAt_14 ?_
    refine tpi (pk_sub (by omega)) ?_
    refine vp_callSi (W.runV (As := [.int (nI (i - 1))]) (rest := []) ⟨hx, hb, hml, hown, hts⟩ (c_X4_behind l dC dI cI a sz st us kp ga gl cs mem pl ln km ks kt ku kl kn cd wt (i - 1) (by omega)) (cwV 1 hts gX4_gapAt_X4_behind rfl rfl rfl (by decide +kernel) ⟨Nat.le_of_ble_eq_true rfl, Nat.le_of_ble_eq_true rfl⟩) ⟨fun a9 U g9 mk9 q9 => by obtain ⟨q0, qP, qK⟩ := q9; exact ⟨q0, qP, va_K.moved (u := U) (U := U.calling g9 mk9 a9) (Vm.Alike.refl U.vm) qK⟩, va_recv hK hP (ci := 4) (q0 := 0) rfl rfl, fun U hU hW => ⟨rfl, by rw [hU]; exact hP, va_K.moved hW.alike hK⟩⟩ rfl rfl hl.1 rfl (lv_room (Nat.le_of_ble_eq_true rfl)) dX4_gapAt_15 ⟨Nat.zero_le _, Nat.zero_le _⟩) (fun r_15 hw => ?_)
    try dsimp only at hw
    subst hw
    exact W.iret (v := (nI (pl (i - 1) + ln (i - 1)))) hx hb hr (fun t ht hW => ⟨(nI (pl (i - 1) + ln (i - 1))), rfl, (show (nI (pl (i - 1) + ln (i - 1))) = nI (gAt st pl ln i) from by unfold gAt; rw [if_neg (by omega)]), ht⟩) (fun _ h9 => absurd h9 List.not_mem_nil) dX4_gapAt_18
  · have c_1 : i = 0 := (nZ_eq (by omega)).mp c_1
    refine lv_aload_n hx hb dX4_gapAt_4 rfl (lv_at hl 0 rfl) ?_
    refine va_get (D := (dC, dI)) (ci := 4) (v := .int (nI st)) (C := RX4) (T := TX4) (N := 18) hx hb hts in_X4 hown hK hP 0 rfl rfl 2 (by decide) lk_1 (fun _ h9 => h9) rfl dX4_gapAt_5 ?_
    refine lv_goto (tgt := 18) hx hb dX4_gapAt_8 (by decide) ?_
    exact W.iret (v := (nI st)) hx hb hr (fun t ht hW => ⟨(nI st), rfl, (show (nI st) = nI (gAt st pl ln i) from by unfold gAt; rw [if_pos (by omega)]), ht⟩) (fun _ h9 => absurd h9 List.not_mem_nil) dX4_gapAt_18
set_option maxHeartbeats 4000000 in
set_option maxRecDepth 100000 in
theorem c_X4_gapEnd (l : Launch) (dC : Nat → ClassId) (dI : Nat → Nat → Nat) (cI : ClassId) (a : Nat → Nat) (sz st us kp ga gl cs : Nat) (mem pl ln km ks kt ku kl kn cd wt : Nat → Nat) (i : Nat) (g1 : i < 65) (g2 : us ≤ 64) : Met l yX4_gapEnd wsX4_gapEnd ({ frames := 0, cells := 0, slots := 0, locals := 0 }) (va_Pc [.ref (a 0), .int (nI i)] (fun U => va_P (dC, dI) vwCl (mw cI a sz st us kp ga gl cs mem pl ln km ks kt ku kl kn cd wt) U.heap ∧ va_K (dC, dI) vwCl [(cI, .int)] U)) (vp_Si (fun r => r = nI (gEn sz us pl i))) 0 0 (fun _ => False) := by
  refine Met.ofW (cc := cX4_gapEnd) (maxL := 2) (ret := (some .int)) (by decide) rfl ?_
  intro p e s m args below meth c s₁ B hml hv
  obtain ⟨rfl, hP, hK⟩ := hv
  have hx := B.exec
  have hb := B.bytes
  have hr := B.returns
  have hts := atoms_spec (ws := wsX4_gapEnd) B.pre
  have hown : s.vm.findClass RX4 = some m.cls := findClass_of_methodNamed B.named
  have hlocks := B.notSynchronized
  have in_X4 : ∀ w ∈ wsX40, w ∈ wsX4_gapEnd := fun _ h => List.mem_cons_of_mem _ (List.mem_append_right _ h)
  have lk_1 := hts (.fieldLink RX4 71 "GlulxHeapModel" "used" "I") (List.mem_of_getElem? (i := 1) rfl)
  have lk_2 := hts (.fieldLink RX4 44 "GlulxHeapModel" "size" "I") (List.mem_of_getElem? (i := 2) rfl)
  have lk_3 := hts (.fieldLink RX4 13 "GlulxHeapModel" "place" "[I") (List.mem_of_getElem? (i := 3) rfl)
  have hl := lv_entry ([.ref (a 0), .int (nI i)]) (n := 2) (Nat.le_of_ble_eq_true rfl)
  rw [lg_entry_eq]
  generalize (lg_sl ([.ref (a 0), .int (nI i)]) ++ List.replicate (2 - (lg_sl ([.ref (a 0), .int (nI i)])).length) Slot.unset).toArray = ls at hl ⊢
  have hl : lv_has ls 2 [(0, .ref (a 0)), (1, .int (nI i))] := hl
  refine lv_iload_n hx hb dX4_gapEnd_0 rfl (lv_at hl 1 rfl) ?_
  refine lv_aload_n hx hb dX4_gapEnd_1 rfl (lv_at hl 0 rfl) ?_
  refine va_get (D := (dC, dI)) (ci := 4) (v := .int (nI us)) (C := RX4) (T := TX4) (N := 18) hx hb hts in_X4 hown hK hP 0 rfl rfl 3 (by decide) lk_1 (fun _ h9 => h9) rfl dX4_gapEnd_2 ?_
  refine lv_icmp_ne (tgt := 15) hx hb dX4_gapEnd_5 (by decide) (fun c_5 => ?_) (fun c_5 => ?_)
  · have c_5 : ¬ i = us := fun q => c_5 ((nI_eq (a := i) (b := us) (by omega) (by omega)).mpr q)
    refine lv_aload_n hx hb dX4_gapEnd_15 rfl (lv_at hl 0 rfl) ?_
    refine va_get (D := (dC, dI)) (ci := 4) (v := .ref (a 2)) (C := RX4) (T := TX4) (N := 18) hx hb hts in_X4 hown hK hP 0 rfl rfl 4 (by decide) lk_3 (fun _ h9 => h9) rfl dX4_gapEnd_16 ?_
    refine lv_iload_n hx hb dX4_gapEnd_19 rfl (lv_at hl 1 rfl) ?_
    refine va_iald hx hb hK hP 2 0 rfl rfl (vp_in_nI (by omega) (by omega)) dX4_gapEnd_20 ?_
    refine tpi (nf_at (by omega)) ?_
    exact W.iret (v := (nI (pl i))) hx hb hr (fun t ht hW => ⟨(nI (pl i)), rfl, (show (nI (pl i)) = nI (gEn sz us pl i) from by unfold gEn; rw [if_neg (by omega)]), ht⟩) (fun _ h9 => absurd h9 List.not_mem_nil) dX4_gapEnd_21
  · have c_5 : i = us := (nI_eq (a := i) (b := us) (by omega) (by omega)).mp c_5
    refine lv_aload_n hx hb dX4_gapEnd_8 rfl (lv_at hl 0 rfl) ?_
    refine va_get (D := (dC, dI)) (ci := 4) (v := .int (nI sz)) (C := RX4) (T := TX4) (N := 18) hx hb hts in_X4 hown hK hP 0 rfl rfl 1 (by decide) lk_2 (fun _ h9 => h9) rfl dX4_gapEnd_9 ?_
    refine lv_goto (tgt := 21) hx hb dX4_gapEnd_12 (by decide) ?_
    exact W.iret (v := (nI sz)) hx hb hr (fun t ht hW => ⟨(nI sz), rfl, (show (nI sz) = nI (gEn sz us pl i) from by unfold gEn; rw [if_pos (by omega)]), ht⟩) (fun _ h9 => absurd h9 List.not_mem_nil) dX4_gapEnd_21
set_option maxHeartbeats 4000000 in
set_option maxRecDepth 100000 in
theorem c_X4_grow (l : Launch) (dC : Nat → ClassId) (dI : Nat → Nat → Nat) (cI : ClassId) (a : Nat → Nat) (sz st us kp ga gl cs : Nat) (mem pl ln km ks kt ku kl kn cd wt : Nat → Nat) (zz : Nat) (to : Nat) (g1 : to ≤ 8192) (g2 : sz ≤ 8192) : Met l yX4_grow wsX4_grow ({ frames := 0, cells := 0, slots := 0, locals := 0 }) (va_Pc [.ref (a 0), .int (nI to)] (fun U => U.heap.size = zz ∧ va_P (dC, dI) vwCl (mw cI a sz st us kp ga gl cs mem pl ln km ks kt ku kl kn cd wt) U.heap ∧ va_K (dC, dI) vwCl [(cI, .int)] U ∧ va_D (fun _ => True) (mw cI a sz st us kp ga gl cs mem pl ln km ks kt ku kl kn cd wt))) (va_Qv (fun _ => True) (fun (_ : Unit) t => va_P (dC, dI) vwCl (mw cI a to st us kp ga gl cs (zr mem sz (to - sz)) pl ln km ks kt ku kl kn cd wt) t.heap ∧ va_K (dC, dI) vwCl [(cI, .int)] t ∧ va_D (va_A (mw cI a sz st us kp ga gl cs mem pl ln km ks kt ku kl kn cd wt) zz) (mw cI a to st us kp ga gl cs (zr mem sz (to - sz)) pl ln km ks kt ku kl kn cd wt)) (va_A (mw cI a sz st us kp ga gl cs mem pl ln km ks kt ku kl kn cd wt) zz)) 0 0 (va_A (mw cI a sz st us kp ga gl cs mem pl ln km ks kt ku kl kn cd wt) zz) := by
  refine Met.ofW (cc := cX4_grow) (maxL := 3) (ret := none) (by decide) rfl ?_
  intro p e s m args below meth c s₁ B hml hv
  obtain ⟨rfl, hsz, hP, hK, hD0⟩ := hv
  have hx := B.exec
  have hb := B.bytes
  have hr := B.returns
  have hts := atoms_spec (ws := wsX4_grow) B.pre
  have hown : s.vm.findClass RX4 = some m.cls := findClass_of_methodNamed B.named
  have hlocks := B.notSynchronized
  subst hsz
  have hD := hD0.self (sz := s.heap.size)
  generalize hAe : va_A (mw cI a sz st us kp ga gl cs mem pl ln km ks kt ku kl kn cd wt) s.heap.size = A at hD ⊢
  have hA : ∀ q : Nat, s.heap.size ≤ q → A q := fun q h => by rw [← hAe]; exact Or.inr h
  have hS : va_S A s.heap s.heap [] := va_S.rf
  have hP : va_P (dC, dI) vwCl (mw cI a sz st us kp ga gl cs mem pl ln km ks kt ku kl kn cd wt) s.heap := hP
  have in_X4 : ∀ w ∈ wsX40, w ∈ wsX4_grow := fun _ h => List.mem_cons_of_mem _ (List.mem_append_right _ h)
  have lk_1 := hts (.fieldLink RX4 44 "GlulxHeapModel" "size" "I") (List.mem_of_getElem? (i := 1) rfl)
  have lk_2 := hts (.fieldLink RX4 7 "GlulxHeapModel" "memory" "[I") (List.mem_of_getElem? (i := 2) rfl)
  have hl := lv_entry ([.ref (a 0), .int (nI to)]) (n := 3) (Nat.le_of_ble_eq_true rfl)
  rw [lg_entry_eq]
  generalize (lg_sl ([.ref (a 0), .int (nI to)]) ++ List.replicate (3 - (lg_sl ([.ref (a 0), .int (nI to)])).length) Slot.unset).toArray = ls at hl ⊢
  have hl : lv_has ls 3 [(0, .ref (a 0)), (1, .int (nI to))] := hl
  refine lv_aload_n hx hb dX4_grow_0 rfl (lv_at hl 0 rfl) ?_
  refine va_get (D := (dC, dI)) (ci := 4) (v := .int (nI sz)) (C := RX4) (T := TX4) (N := 18) hx hb hts in_X4 hown hK hP 0 rfl rfl 1 (by decide) lk_1 (fun _ h9 => h9) rfl dX4_grow_1 ?_
  refine lv_istore_n (lv' := [(2, .int (nI sz)), (0, .ref (a 0)), (1, .int (nI to))]) hx hb dX4_grow_4 rfl hl (by decide) rfl (fun ls hl => ?_)
  refine lp_world (σ := Nat × (Nat → Nat)) (fun ⟨i, f⟩ => sz ≤ i ∧ (i ≤ to ∨ i = sz) ∧ f = zr mem sz (i - sz)) (fun ⟨i, f⟩ => to - i) (fun ⟨i, f⟩ => [(2, .int (nI i)), (0, .ref (a 0)), (1, .int (nI to))]) (fun ⟨i, f⟩ => mw cI a sz st us kp ga gl cs f pl ln km ks kt ku kl kn cd wt) ?_ ((sz, mem)) (⟨Nat.le_refl _, Or.inr rfl, by rw [Nat.sub_self, zr_0]⟩) (hP) (hD) hS (lv_sub hl [0, 1, 2] rfl)
  intro ⟨i, f⟩ hI ih H locs ls hP hD hS hl
  have hl : lv_has ls 3 [(2, .int (nI i)), (0, .ref (a 0)), (1, .int (nI to))] := hl
  have hP : va_P (dC, dI) vwCl (mw cI a sz st us kp ga gl cs f pl ln km ks kt ku kl kn cd wt) H := hP
  have hD : va_D A (mw cI a sz st us kp ga gl cs f pl ln km ks kt ku kl kn cd wt) := hD
  have hI : sz ≤ i ∧ (i ≤ to ∨ i = sz) ∧ f = zr mem sz (i - sz) := hI
  obtain ⟨h1, h2, hf⟩ := hI
  have ih_5 := ih
  refine lv_iload_n hx hb dX4_grow_5 rfl (lv_at hl 0 rfl) ?_
  refine lv_iload_n hx hb dX4_grow_6 rfl (lv_at hl 2 rfl) ?_
  refine lv_icmp_ge (tgt := 23) hx hb dX4_grow_7 (by decide) (fun c_7 => ?_) (fun c_7 => ?_)
  · have c_7 : to ≤ i := (nI_leI (a := to) (b := i) (by omega) (by omega)).mp c_7
    refine lv_aload_n hx hb dX4_grow_23 rfl (lv_at hl 1 rfl) ?_
    refine lv_iload_n hx hb dX4_grow_24 rfl (lv_at hl 2 rfl) ?_
    refine va_put (D := (dC, dI)) (ci := 4) (v := .int (nI to)) (ty := .int) (C := RX4) (T := TX4) (N := 18) hx hb hts in_X4 tyX4 tyX4_ok nmX4 hown hK hP hD hS 0 rfl rfl 1 (by decide) lk_1 (fun _ h9 => h9) rfl (by decide +kernel) rfl rfl (Nat.le_of_ble_eq_true rfl) dX4_grow_25 (fun H locs hP hD hS => ?_)
    have hP : va_P (dC, dI) vwCl (mw cI a to st us kp ga gl cs f pl ln km ks kt ku kl kn cd wt) H := hP
    have hD : va_D A (mw cI a to st us kp ga gl cs f pl ln km ks kt ku kl kn cd wt) := hD
    have e_mem : f = zr mem sz (to - sz) := by rw [hf]; exact h2.elim (fun h => by rw [show i = to by omega]) (fun h => by rw [h, Nat.sub_self, Nat.sub_eq_zero_of_le (by omega)])
    have hP : va_P (dC, dI) vwCl (mw cI a to st us kp ga gl cs (zr mem sz (to - sz)) pl ln km ks kt ku kl kn cd wt) H := by rw [← e_mem]; exact hP
    have hD : va_D A (mw cI a to st us kp ga gl cs (zr mem sz (to - sz)) pl ln km ks kt ku kl kn cd wt) := by rw [← e_mem]; exact hD
    exact W.vret hx hb hr (fun t ht hW => ⟨⟨(), rfl, trivial, by rw [ht]; exact hP, va_K.moved hW.alike hK, hD⟩, hS.F ht⟩) hS.2.2 dX4_grow_28
  · have c_7 : ¬ to ≤ i := fun q => c_7 ((nI_leI (a := to) (b := i) (by omega) (by omega)).mpr q)
    refine lv_aload_n hx hb dX4_grow_10 rfl (lv_at hl 1 rfl) ?_
    refine va_get (D := (dC, dI)) (ci := 4) (v := .ref (a 1)) (C := RX4) (T := TX4) (N := 18) hx hb hts in_X4 hown hK hP 0 rfl rfl 0 (by decide) lk_2 (fun _ h9 => h9) rfl dX4_grow_11 ?_
    refine lv_iload_n hx hb dX4_grow_14 rfl (lv_at hl 0 rfl) ?_
    refine lv_iconst (v := (nI 0)) hx hb dX4_grow_15 (by decide) ?_
    refine va_iast hx hb hK hP hD hS 1 0 rfl rfl (vp_in_nI (by omega) (by omega)) dX4_grow_16 (fun H locs hP hD hS => ?_)
    rw [nf_up (by omega)] at hP hD
    have hP : va_P (dC, dI) vwCl (mw cI a sz st us kp ga gl cs (va_up f i 0) pl ln km ks kt ku kl kn cd wt) H := hP
    have hD : va_D A (mw cI a sz st us kp ga gl cs (va_up f i 0) pl ln km ks kt ku kl kn cd wt) := hD
    refine lv_iinc (v := (nI (i + 1))) (lv' := [(2, .int (nI (i + 1))), (0, .ref (a 0)), (1, .int (nI to))]) hx hb dX4_grow_17 hl (k := 0) rfl (nI_inc _) (by decide) rfl (fun ls hl => ?_)
    refine lv_goto (tgt := 5) hx hb dX4_grow_20 (by decide) ?_
    exact ih_5 (i + 1, va_up f i 0) (⟨by omega, Or.inl (by omega), by rw [hf, zr_step h1]⟩) (show to - (i + 1) < to - i by omega) H locs ls (hP) (hD) hS (lv_sub hl [0, 1, 2] rfl)
set_option maxHeartbeats 4000000 in
set_option maxRecDepth 100000 in
theorem c_X4_put (l : Launch) (dC : Nat → ClassId) (dI : Nat → Nat → Nat) (cI : ClassId) (a : Nat → Nat) (sz st us kp ga gl cs : Nat) (mem pl ln km ks kt ku kl kn cd wt : Nat → Nat) (zz : Nat) (v : Nat) (g1 : cs < 20000) (g2 : v < 2 ^ 31) : Met l yX4_put wsX4_put ({ frames := 0, cells := 0, slots := 0, locals := 0 }) (va_Pc [.ref (a 0), .int (nI v)] (fun U => U.heap.size = zz ∧ va_P (dC, dI) vwCl (mw cI a sz st us kp ga gl cs mem pl ln km ks kt ku kl kn cd wt) U.heap ∧ va_K (dC, dI) vwCl [(cI, .int)] U ∧ va_D (fun _ => True) (mw cI a sz st us kp ga gl cs mem pl ln km ks kt ku kl kn cd wt))) (va_Qv (fun _ => True) (fun (_ : Unit) t => va_P (dC, dI) vwCl (mw cI a sz st us kp ga gl (cs + 1) mem pl ln km ks kt ku kl kn (va_up cd cs (v % 256)) wt) t.heap ∧ va_K (dC, dI) vwCl [(cI, .int)] t ∧ va_D (va_A (mw cI a sz st us kp ga gl cs mem pl ln km ks kt ku kl kn cd wt) zz) (mw cI a sz st us kp ga gl (cs + 1) mem pl ln km ks kt ku kl kn (va_up cd cs (v % 256)) wt)) (va_A (mw cI a sz st us kp ga gl cs mem pl ln km ks kt ku kl kn cd wt) zz)) 0 0 (va_A (mw cI a sz st us kp ga gl cs mem pl ln km ks kt ku kl kn cd wt) zz) := by
  refine Met.ofW (cc := cX4_put) (maxL := 2) (ret := none) (by decide) rfl ?_
  intro p e s m args below meth c s₁ B hml hv
  obtain ⟨rfl, hsz, hP, hK, hD0⟩ := hv
  have hx := B.exec
  have hb := B.bytes
  have hr := B.returns
  have hts := atoms_spec (ws := wsX4_put) B.pre
  have hown : s.vm.findClass RX4 = some m.cls := findClass_of_methodNamed B.named
  have hlocks := B.notSynchronized
  subst hsz
  have hD := hD0.self (sz := s.heap.size)
  generalize hAe : va_A (mw cI a sz st us kp ga gl cs mem pl ln km ks kt ku kl kn cd wt) s.heap.size = A at hD ⊢
  have hA : ∀ q : Nat, s.heap.size ≤ q → A q := fun q h => by rw [← hAe]; exact Or.inr h
  have hS : va_S A s.heap s.heap [] := va_S.rf
  have hP : va_P (dC, dI) vwCl (mw cI a sz st us kp ga gl cs mem pl ln km ks kt ku kl kn cd wt) s.heap := hP
  have in_X4 : ∀ w ∈ wsX40, w ∈ wsX4_put := fun _ h => List.mem_cons_of_mem _ (List.mem_append_right _ h)
  have lk_1 := hts (.fieldLink RX4 38 "GlulxHeapModel" "code" "[I") (List.mem_of_getElem? (i := 1) rfl)
  have lk_2 := hts (.fieldLink RX4 128 "GlulxHeapModel" "codeSize" "I") (List.mem_of_getElem? (i := 2) rfl)
  have hl := lv_entry ([.ref (a 0), .int (nI v)]) (n := 2) (Nat.le_of_ble_eq_true rfl)
  rw [lg_entry_eq]
  generalize (lg_sl ([.ref (a 0), .int (nI v)]) ++ List.replicate (2 - (lg_sl ([.ref (a 0), .int (nI v)])).length) Slot.unset).toArray = ls at hl ⊢
  have hl : lv_has ls 2 [(0, .ref (a 0)), (1, .int (nI v))] := hl
  refine lv_aload_n hx hb dX4_put_0 rfl (lv_at hl 0 rfl) ?_
  refine va_get (D := (dC, dI)) (ci := 4) (v := .ref (a 10)) (C := RX4) (T := TX4) (N := 18) hx hb hts in_X4 hown hK hP 0 rfl rfl 15 (by decide) lk_1 (fun _ h9 => h9) rfl dX4_put_1 ?_
  refine lv_aload_n hx hb dX4_put_4 rfl (lv_at hl 0 rfl) ?_
  refine va_get (D := (dC, dI)) (ci := 4) (v := .int (nI cs)) (C := RX4) (T := TX4) (N := 18) hx hb hts in_X4 hown hK hP 0 rfl rfl 16 (by decide) lk_2 (fun _ h9 => h9) rfl dX4_put_5 ?_
  refine lv_iload_n hx hb dX4_put_8 rfl (lv_at hl 1 rfl) ?_
  refine lv_sipush (v := (nI 255)) hx hb dX4_put_9 (by decide) ?_
  refine lv_iand hx hb dX4_put_12 ?_
  refine tpi (and255 (by omega)) ?_
  refine va_iast hx hb hK hP hD hS 10 0 rfl rfl (vp_in_nI (by omega) (by omega)) dX4_put_13 (fun H locs hP hD hS => ?_)
  rw [nf_up (by omega)] at hP hD
  have hP : va_P (dC, dI) vwCl (mw cI a sz st us kp ga gl cs mem pl ln km ks kt ku kl kn (va_up cd cs (v % 256)) wt) H := hP
  have hD : va_D A (mw cI a sz st us kp ga gl cs mem pl ln km ks kt ku kl kn (va_up cd cs (v % 256)) wt) := hD
  refine lv_aload_n hx hb dX4_put_14 rfl (lv_at hl 0 rfl) ?_
  refine lv_dup hx hb dX4_put_15 rfl ?_
  refine va_get (D := (dC, dI)) (ci := 4) (v := .int (nI cs)) (C := RX4) (T := TX4) (N := 18) hx hb hts in_X4 hown hK hP 0 rfl rfl 16 (by decide) lk_2 (fun _ h9 => h9) rfl dX4_put_16 ?_
  refine lv_iconst (v := (nI 1)) hx hb dX4_put_19 (by decide) ?_
  refine lv_iadd hx hb dX4_put_20 ?_
  refine tpi (nI_add _ _) ?_
  refine va_put (D := (dC, dI)) (ci := 4) (v := .int (nI (cs + 1))) (ty := .int) (C := RX4) (T := TX4) (N := 18) hx hb hts in_X4 tyX4 tyX4_ok nmX4 hown hK hP hD hS 0 rfl rfl 16 (by decide) lk_2 (fun _ h9 => h9) rfl (by decide +kernel) rfl rfl (Nat.le_of_ble_eq_true rfl) dX4_put_21 (fun H locs hP hD hS => ?_)
  have hP : va_P (dC, dI) vwCl (mw cI a sz st us kp ga gl (cs + 1) mem pl ln km ks kt ku kl kn (va_up cd cs (v % 256)) wt) H := hP
  have hD : va_D A (mw cI a sz st us kp ga gl (cs + 1) mem pl ln km ks kt ku kl kn (va_up cd cs (v % 256)) wt) := hD
  have hP : va_P (dC, dI) vwCl (mw cI a sz st us kp ga gl (cs + 1) mem pl ln km ks kt ku kl kn (va_up cd cs (v % 256)) wt) H := hP
  have hD : va_D A (mw cI a sz st us kp ga gl (cs + 1) mem pl ln km ks kt ku kl kn (va_up cd cs (v % 256)) wt) := hD
  exact W.vret hx hb hr (fun t ht hW => ⟨⟨(), rfl, trivial, by rw [ht]; exact hP, va_K.moved hW.alike hK, hD⟩, hS.F ht⟩) hS.2.2 dX4_put_24
