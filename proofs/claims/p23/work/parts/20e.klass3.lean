set_option maxHeartbeats 4000000 in
set_option maxRecDepth 100000 in
theorem c_X2_changeSize (l : Launch) (dC : Nat → ClassId) (dI : Nat → Nat → Nat) (cB cI : ClassId) (b : Nat → Nat) (sz st us : Nat) (mem pl ln : Nat → Nat) (zz : Nat) (y : Nat) (g1 : y ≤ 8192) (g3 : sz ≤ 8192) : Met l yX2_changeSize wsX2_changeSize ({ frames := 2, cells := 0, slots := 0, locals := 46 }) (va_Pc [.ref (b 0), .int (nI y)] (fun U => U.heap.size = zz ∧ va_P (dC, dI) vwCl (sw cB cI b sz st us mem pl ln) U.heap ∧ va_K (dC, dI) vwCl [(cI, .int), (cB, .byte)] U ∧ va_D (fun _ => True) (sw cB cI b sz st us mem pl ln))) (va_Qv (fun _ => True) (fun (_ : Unit) t => va_P (dC, dI) vwCl (sw cB cI b y st us (csM mem sz y) pl ln) t.heap ∧ va_K (dC, dI) vwCl [(cI, .int), (cB, .byte)] t ∧ va_D (va_A (sw cB cI b sz st us mem pl ln) zz) (sw cB cI b y st us (csM mem sz y) pl ln)) (va_A (sw cB cI b sz st us mem pl ln) zz)) 0 0 (va_A (sw cB cI b sz st us mem pl ln) zz) := by
  refine Met.ofW (cc := cX2_changeSize) (maxL := 2) (ret := none) (by decide) rfl ?_
  intro p e s m args below meth c s₁ B hml hv
  obtain ⟨rfl, hsz, hP, hK, hD0⟩ := hv
  have hx := B.exec
  have hb := B.bytes
  have hr := B.returns
  have hts := atoms_spec (ws := wsX2_changeSize) B.pre
  have hown : s.vm.findClass RX2 = some m.cls := findClass_of_methodNamed B.named
  have hlocks := B.notSynchronized
  subst hsz
  have hD := hD0.self (sz := s.heap.size)
  generalize hAe : va_A (sw cB cI b sz st us mem pl ln) s.heap.size = A at hD ⊢
  have hA : ∀ q : Nat, s.heap.size ≤ q → A q := fun q h => by rw [← hAe]; exact Or.inr h
  have hS : va_S A s.heap s.heap [] := va_S.rf
  have hP : va_P (dC, dI) vwCl (sw cB cI b sz st us mem pl ln) s.heap := hP
  have in_X2 : ∀ w ∈ wsX20, w ∈ wsX2_changeSize := fun _ h => List.mem_cons_of_mem _ (List.mem_append_right _ (h))
  have lk_1 := hts (.fieldLink RX2 32 "GlulxHeap$State" "size" "I") (List.mem_of_getElem? (i := 1) rfl)
  have lk_2 := hts (.fieldLink RX2 9 "GlulxHeap$State" "bytes" "[B") (List.mem_of_getElem? (i := 2) rfl)
  have hl := lv_entry ([.ref (b 0), .int (nI y)]) (n := 2) (Nat.le_of_ble_eq_true rfl)
  rw [lg_entry_eq]
  generalize (lg_sl ([.ref (b 0), .int (nI y)]) ++ List.replicate (2 - (lg_sl ([.ref (b 0), .int (nI y)])).length) Slot.unset).toArray = ls at hl ⊢
  have hl : lv_has ls 2 [(0, .ref (b 0)), (1, .int (nI y))] := hl
  refine lv_iload_n hx hb dX2_changeSize_0 rfl (lv_at hl 1 rfl) ?_
  refine lv_aload_n hx hb dX2_changeSize_1 rfl (lv_at hl 0 rfl) ?_
  refine va_get (D := (dC, dI)) (ci := 2) (v := .int (nI sz)) (C := RX2) (T := TX2) (N := 6) hx hb hts in_X2 hown hK hP 0 rfl rfl 3 (by decide) lk_1 (fun _ h9 => h9) rfl dX2_changeSize_2 ?_
  refine lv_icmp_ge (tgt := 21) hx hb dX2_changeSize_5 (by decide) (fun c_5 => ?_) (fun c_5 => ?_)
  · have c_5 : sz ≤ y := (nI_leI (a := sz) (b := y) (by omega) (by omega)).mp c_5
    refine lv_aload_n hx hb dX2_changeSize_21 rfl (lv_at hl 0 rfl) ?_
    refine lv_iload_n hx hb dX2_changeSize_22 rfl (lv_at hl 1 rfl) ?_
    refine va_put (D := (dC, dI)) (ci := 2) (v := .int (nI y)) (ty := .int) (C := RX2) (T := TX2) (N := 6) hx hb hts in_X2 tyX2 tyX2_ok nmX2 hown hK hP hD hS 0 rfl rfl 3 (by decide) lk_1 (fun _ h9 => h9) rfl (by decide +kernel) rfl rfl (Nat.le_of_ble_eq_true rfl) dX2_changeSize_23 (fun H locs hP hD hS => ?_)
    have hP : va_P (dC, dI) vwCl (sw cB cI b y st us mem pl ln) H := hP
    have hD : va_D A (sw cB cI b y st us mem pl ln) := hD
    have e_mem : mem = csM mem sz y := by unfold csM; rw [if_neg (by omega)]
    have hP : va_P (dC, dI) vwCl (sw cB cI b y st us (csM mem sz y) pl ln) H := by rw [← e_mem]; exact hP
    have hD : va_D A (sw cB cI b y st us (csM mem sz y) pl ln) := by rw [← e_mem]; exact hD
    exact W.vret hx hb hr (fun t ht hW => ⟨⟨(), rfl, trivial, by rw [ht]; exact hP, va_K.moved hW.alike hK, hD⟩, hS.F ht⟩) hS.2.2 dX2_changeSize_26
  · have c_5 : ¬ sz ≤ y := fun q => c_5 ((nI_leI (a := sz) (b := y) (by omega) (by omega)).mpr q)
    refine lv_aload_n hx hb dX2_changeSize_8 rfl (lv_at hl 0 rfl) ?_
    refine va_get (D := (dC, dI)) (ci := 2) (v := .ref (b 1)) (C := RX2) (T := TX2) (N := 6) hx hb hts in_X2 hown hK hP 0 rfl rfl 0 (by decide) lk_2 (fun _ h9 => h9) rfl dX2_changeSize_9 ?_
    refine lv_iload_n hx hb dX2_changeSize_12 rfl (lv_at hl 1 rfl) ?_
    refine lv_aload_n hx hb dX2_changeSize_13 rfl (lv_at hl 0 rfl) ?_
    refine va_get (D := (dC, dI)) (ci := 2) (v := .int (nI sz)) (C := RX2) (T := TX2) (N := 6) hx hb hts in_X2 hown hK hP 0 rfl rfl 3 (by decide) lk_1 (fun _ h9 => h9) rfl dX2_changeSize_14 ?_
    refine lv_iconst (v := (nI 0)) hx hb dX2_changeSize_17 (by decide) ?_
    have hPc := hP.sub (ws' := [(b 1, .inl (cB, 8192, .inl (bf mem)))]) [1] rfl
    have hDc := hD.sub (ws' := [(b 1, .inl (cB, 8192, .inl (bf mem)))]) [1] (by decide) rfl
    have hKc := hK.sub (tys' := [(cB, .byte)]) [1] rfl
    have hFc := va_free (wc := [(b 1, .inl (cB, 8192, .inl (bf mem)))]) hD hS hA [1] rfl
    refine va_callv (va_runS (As := [.ref (b 1), .int (nI y), .int (nI sz), .int (nI 0)]) (rest := []) ⟨hx, hb, hml, hown, hts⟩ (c_J7_fill_eb02e l dC dI cB (b 1) 8192 mem s.heap.size y sz (by omega) (by omega) (by omega)) (va_cwS 4 hts gX2_changeSize_J7_fill_eb02e rfl rfl rfl (by decide +kernel) ⟨Nat.le_of_ble_eq_true rfl, Nat.le_of_ble_eq_true rfl⟩) ⟨fun a9 U g9 mk9 q9 => by obtain ⟨q0, q1, qP, qK, qD⟩ := q9; exact ⟨q0, q1, qP, va_K.moved (u := U) (U := U.calling g9 mk9 a9) (Vm.Alike.refl U.vm) qK, qD⟩, fun U hU hW => ⟨rfl, by rw [hU], by rw [hU]; exact hPc, va_K.moved hW.alike hKc, hDc.weaken (fun _ _ _ _ => trivial)⟩⟩ rfl rfl hl.1 rfl (lv_room (Nat.le_of_ble_eq_true rfl)) dX2_changeSize_18 ⟨Nat.zero_le _, Nat.zero_le _⟩) hS (fun q _ h => hFc q h) hFc (fun u t H1 locs ht9 hvm9 hw hB hz9 hk9 hS => ?_)
    obtain ⟨hP1, hK1, hD1⟩ := hB
    rw [ht9] at hP1
    obtain ⟨hP, hD⟩ := va_join (wr := [(b 0, .inr (2, [.ref (b 1), .ref (b 2), .ref (b 3), .int (nI sz), .int (nI st), .int (nI us)])), (b 2, .inl (cI, 64, .inl (nf pl))), (b 3, .inl (cI, 64, .inl (nf ln)))]) (w1 := [(b 1, .inl (cB, 8192, .inl (bf (zr mem y (sz - y)))))]) hP hD [1] [0, 2, 3] rfl rfl (by decide) (by decide) hk9 hFc hP1 hD1
    generalize H1 = H at hP hS ⊢
    have hP := hP.sub (ws' := sw cB cI b sz st us (zr mem y (sz - y)) pl ln) [0, 3, 1, 2] rfl
    have hD := hD.sub (ws' := sw cB cI b sz st us (zr mem y (sz - y)) pl ln) [0, 3, 1, 2] (by decide) rfl
    have hP : va_P (dC, dI) vwCl (sw cB cI b sz st us (zr mem y (sz - y)) pl ln) H := hP
    have hD : va_D A (sw cB cI b sz st us (zr mem y (sz - y)) pl ln) := hD
    refine lv_aload_n hx hb dX2_changeSize_21 rfl (lv_at hl 0 rfl) ?_
    refine lv_iload_n hx hb dX2_changeSize_22 rfl (lv_at hl 1 rfl) ?_
    refine va_put (D := (dC, dI)) (ci := 2) (v := .int (nI y)) (ty := .int) (C := RX2) (T := TX2) (N := 6) hx hb hts in_X2 tyX2 tyX2_ok nmX2 hown hK hP hD hS 0 rfl rfl 3 (by decide) lk_1 (fun _ h9 => h9) rfl (by decide +kernel) rfl rfl (Nat.le_of_ble_eq_true rfl) dX2_changeSize_23 (fun H locs hP hD hS => ?_)
    have hP : va_P (dC, dI) vwCl (sw cB cI b y st us (zr mem y (sz - y)) pl ln) H := hP
    have hD : va_D A (sw cB cI b y st us (zr mem y (sz - y)) pl ln) := hD
    have e_mem : zr mem y (sz - y) = csM mem sz y := by unfold csM; rw [if_pos (by omega)]
    have hP : va_P (dC, dI) vwCl (sw cB cI b y st us (csM mem sz y) pl ln) H := by rw [← e_mem]; exact hP
    have hD : va_D A (sw cB cI b y st us (csM mem sz y) pl ln) := by rw [← e_mem]; exact hD
    exact W.vret hx hb hr (fun t ht hW => ⟨⟨(), rfl, trivial, by rw [ht]; exact hP, va_K.moved hW.alike hK, hD⟩, hS.F ht⟩) hS.2.2 dX2_changeSize_26
set_option maxHeartbeats 4000000 in
set_option maxRecDepth 100000 in
theorem c_X2_begin (l : Launch) (dC : Nat → ClassId) (dI : Nat → Nat → Nat) (cB cI : ClassId) (b : Nat → Nat) (sz st us : Nat) (mem pl ln : Nat → Nat) (zz : Nat)   : Met l yX2_begin wsX2_begin ({ frames := 1, cells := 0, slots := 0, locals := 23 }) (va_Pc [.ref (b 0)] (fun U => U.heap.size = zz ∧ va_P (dC, dI) vwCl (sw cB cI b sz st us mem pl ln) U.heap ∧ va_K (dC, dI) vwCl [(cI, .int), (cB, .byte)] U ∧ va_D (fun _ => True) (sw cB cI b sz st us mem pl ln))) (va_Qv (fun _ => True) (fun (_ : Unit) t => va_P (dC, dI) vwCl (sw cB cI b 1024 0 0 (outW (zr mem 0 8192) fst 0 64) pl ln) t.heap ∧ va_K (dC, dI) vwCl [(cI, .int), (cB, .byte)] t ∧ va_D (va_A (sw cB cI b sz st us mem pl ln) zz) (sw cB cI b 1024 0 0 (outW (zr mem 0 8192) fst 0 64) pl ln)) (va_A (sw cB cI b sz st us mem pl ln) zz)) 0 0 (va_A (sw cB cI b sz st us mem pl ln) zz) := by
  refine Met.ofW (cc := cX2_begin) (maxL := 2) (ret := none) (by decide) rfl ?_
  intro p e s m args below meth c s₁ B hml hv
  obtain ⟨rfl, hsz, hP, hK, hD0⟩ := hv
  have hx := B.exec
  have hb := B.bytes
  have hr := B.returns
  have hts := atoms_spec (ws := wsX2_begin) B.pre
  have hown : s.vm.findClass RX2 = some m.cls := findClass_of_methodNamed B.named
  have hlocks := B.notSynchronized
  subst hsz
  have hD := hD0.self (sz := s.heap.size)
  generalize hAe : va_A (sw cB cI b sz st us mem pl ln) s.heap.size = A at hD ⊢
  have hA : ∀ q : Nat, s.heap.size ≤ q → A q := fun q h => by rw [← hAe]; exact Or.inr h
  have hS : va_S A s.heap s.heap [] := va_S.rf
  have hP : va_P (dC, dI) vwCl (sw cB cI b sz st us mem pl ln) s.heap := hP
  have in_X2 : ∀ w ∈ wsX20, w ∈ wsX2_begin := fun _ h => List.mem_cons_of_mem _ (List.mem_append_right _ (h))
  have lk_1 := hts (.fieldLink RX2 9 "GlulxHeap$State" "bytes" "[B") (List.mem_of_getElem? (i := 1) rfl)
  have lk_2 := hts (.fieldLink RX2 32 "GlulxHeap$State" "size" "I") (List.mem_of_getElem? (i := 2) rfl)
  have lk_3 := hts (.fieldLink RX2 36 "GlulxHeap$State" "start" "I") (List.mem_of_getElem? (i := 3) rfl)
  have lk_4 := hts (.fieldLink RX2 39 "GlulxHeap$State" "used" "I") (List.mem_of_getElem? (i := 4) rfl)
  have hl := lv_entry ([.ref (b 0)]) (n := 2) (Nat.le_of_ble_eq_true rfl)
  rw [lg_entry_eq]
  generalize (lg_sl ([.ref (b 0)]) ++ List.replicate (2 - (lg_sl ([.ref (b 0)])).length) Slot.unset).toArray = ls at hl ⊢
  have hl : lv_has ls 2 [(0, .ref (b 0))] := hl
  refine lv_aload_n hx hb dX2_begin_0 rfl (lv_at hl 0 rfl) ?_
  refine va_get (D := (dC, dI)) (ci := 2) (v := .ref (b 1)) (C := RX2) (T := TX2) (N := 6) hx hb hts in_X2 hown hK hP 0 rfl rfl 0 (by decide) lk_1 (fun _ h9 => h9) rfl dX2_begin_1 ?_
  refine lv_iconst (v := (nI 0)) hx hb dX2_begin_4 (by decide) ?_
  have hPc := hP.sub (ws' := [(b 1, .inl (cB, 8192, .inl (bf mem)))]) [1] rfl
  have hDc := hD.sub (ws' := [(b 1, .inl (cB, 8192, .inl (bf mem)))]) [1] (by decide) rfl
  have hKc := hK.sub (tys' := [(cB, .byte)]) [1] rfl
  have hFc := va_free (wc := [(b 1, .inl (cB, 8192, .inl (bf mem)))]) hD hS hA [1] rfl
  refine va_callv (va_runS (As := [.ref (b 1), .int (nI 0)]) (rest := []) ⟨hx, hb, hml, hown, hts⟩ (c_J7_fill_031fb l dC dI cB (b 1) 8192 mem s.heap.size (by omega)) (va_cwS 2 hts gX2_begin_J7_fill_031fb rfl rfl rfl (by decide +kernel) ⟨Nat.le_of_ble_eq_true rfl, Nat.le_of_ble_eq_true rfl⟩) ⟨fun a9 U g9 mk9 q9 => by obtain ⟨q0, q1, qP, qK, qD⟩ := q9; exact ⟨q0, q1, qP, va_K.moved (u := U) (U := U.calling g9 mk9 a9) (Vm.Alike.refl U.vm) qK, qD⟩, fun U hU hW => ⟨rfl, by rw [hU], by rw [hU]; exact hPc, va_K.moved hW.alike hKc, hDc.weaken (fun _ _ _ _ => trivial)⟩⟩ rfl rfl hl.1 rfl (lv_room (Nat.le_of_ble_eq_true rfl)) dX2_begin_5 ⟨Nat.zero_le _, Nat.zero_le _⟩) hS (fun q _ h => hFc q h) hFc (fun u t H1 locs ht9 hvm9 hw hB hz9 hk9 hS => ?_)
  obtain ⟨hP1, hK1, hD1⟩ := hB
  rw [ht9] at hP1
  obtain ⟨hP, hD⟩ := va_join (wr := [(b 0, .inr (2, [.ref (b 1), .ref (b 2), .ref (b 3), .int (nI sz), .int (nI st), .int (nI us)])), (b 2, .inl (cI, 64, .inl (nf pl))), (b 3, .inl (cI, 64, .inl (nf ln)))]) (w1 := [(b 1, .inl (cB, 8192, .inl (bf (zr mem 0 8192))))]) hP hD [1] [0, 2, 3] rfl rfl (by decide) (by decide) hk9 hFc hP1 hD1
  generalize H1 = H at hP hS ⊢
  have hP := hP.sub (ws' := sw cB cI b sz st us (zr mem 0 8192) pl ln) [0, 3, 1, 2] rfl
  have hD := hD.sub (ws' := sw cB cI b sz st us (zr mem 0 8192) pl ln) [0, 3, 1, 2] (by decide) rfl
  have hP : va_P (dC, dI) vwCl (sw cB cI b sz st us (zr mem 0 8192) pl ln) H := hP
  have hD : va_D A (sw cB cI b sz st us (zr mem 0 8192) pl ln) := hD
  refine lv_iconst (v := (nI 0)) hx hb dX2_begin_8 (by decide) ?_
  refine lv_istore_n (lv' := [(1, .int (nI 0)), (0, .ref (b 0))]) hx hb dX2_begin_9 rfl hl (by decide) rfl (fun ls hl => ?_)
  refine lp_world (σ := Nat × (Nat → Nat)) (fun ⟨i, f⟩ => i ≤ 64 ∧ f = outW (zr mem 0 8192) fst 0 i) (fun ⟨i, f⟩ => 64 - i) (fun ⟨i, f⟩ => [(1, .int (nI i)), (0, .ref (b 0))]) (fun ⟨i, f⟩ => sw cB cI b sz st us f pl ln) ?_ ((0, zr mem 0 8192)) (⟨by omega, by rw [outW_0]⟩) (hP) (hD) hS (lv_sub hl [0, 1] rfl)
  intro ⟨i, f⟩ hI ih H locs ls hP hD hS hl
  have hl : lv_has ls 2 [(1, .int (nI i)), (0, .ref (b 0))] := hl
  have hP : va_P (dC, dI) vwCl (sw cB cI b sz st us f pl ln) H := hP
  have hD : va_D A (sw cB cI b sz st us f pl ln) := hD
  have hI : i ≤ 64 ∧ f = outW (zr mem 0 8192) fst 0 i := hI
  obtain ⟨hi, hf⟩ := hI
  have ih_10 := ih
  refine lv_iload_n hx hb dX2_begin_10 rfl (lv_at hl 0 rfl) ?_
  refine lv_bipush (v := (nI 64)) hx hb dX2_begin_11 (by decide) ?_
  refine lv_icmp_ge (tgt := 33) hx hb dX2_begin_13 (by decide) (fun c_13 => ?_) (fun c_13 => ?_)
  · have c_13 : 64 ≤ i := (nI_leI (a := 64) (b := i) (by omega) (by omega)).mp c_13
    refine lv_aload_n hx hb dX2_begin_33 rfl (lv_at hl 1 rfl) ?_
    refine lv_sipush (v := (nI 1024)) hx hb dX2_begin_34 (by decide) ?_
    refine va_put (D := (dC, dI)) (ci := 2) (v := .int (nI 1024)) (ty := .int) (C := RX2) (T := TX2) (N := 6) hx hb hts in_X2 tyX2 tyX2_ok nmX2 hown hK hP hD hS 0 rfl rfl 3 (by decide) lk_2 (fun _ h9 => h9) rfl (by decide +kernel) rfl rfl (Nat.le_of_ble_eq_true rfl) dX2_begin_37 (fun H locs hP hD hS => ?_)
    have hP : va_P (dC, dI) vwCl (sw cB cI b 1024 st us f pl ln) H := hP
    have hD : va_D A (sw cB cI b 1024 st us f pl ln) := hD
    refine lv_aload_n hx hb dX2_begin_40 rfl (lv_at hl 1 rfl) ?_
    refine lv_iconst (v := (nI 0)) hx hb dX2_begin_41 (by decide) ?_
    refine va_put (D := (dC, dI)) (ci := 2) (v := .int (nI 0)) (ty := .int) (C := RX2) (T := TX2) (N := 6) hx hb hts in_X2 tyX2 tyX2_ok nmX2 hown hK hP hD hS 0 rfl rfl 4 (by decide) lk_3 (fun _ h9 => h9) rfl (by decide +kernel) rfl rfl (Nat.le_of_ble_eq_true rfl) dX2_begin_42 (fun H locs hP hD hS => ?_)
    have hP : va_P (dC, dI) vwCl (sw cB cI b 1024 0 us f pl ln) H := hP
    have hD : va_D A (sw cB cI b 1024 0 us f pl ln) := hD
    refine lv_aload_n hx hb dX2_begin_45 rfl (lv_at hl 1 rfl) ?_
    refine lv_iconst (v := (nI 0)) hx hb dX2_begin_46 (by decide) ?_
    refine va_put (D := (dC, dI)) (ci := 2) (v := .int (nI 0)) (ty := .int) (C := RX2) (T := TX2) (N := 6) hx hb hts in_X2 tyX2 tyX2_ok nmX2 hown hK hP hD hS 0 rfl rfl 5 (by decide) lk_4 (fun _ h9 => h9) rfl (by decide +kernel) rfl rfl (Nat.le_of_ble_eq_true rfl) dX2_begin_47 (fun H locs hP hD hS => ?_)
    have hP : va_P (dC, dI) vwCl (sw cB cI b 1024 0 0 f pl ln) H := hP
    have hD : va_D A (sw cB cI b 1024 0 0 f pl ln) := hD
    have e_mem : f = outW (zr mem 0 8192) fst 0 64 := by rw [hf, show i = 64 by omega]
    have hP : va_P (dC, dI) vwCl (sw cB cI b 1024 0 0 (outW (zr mem 0 8192) fst 0 64) pl ln) H := by rw [← e_mem]; exact hP
    have hD : va_D A (sw cB cI b 1024 0 0 (outW (zr mem 0 8192) fst 0 64) pl ln) := by rw [← e_mem]; exact hD
    exact W.vret hx hb hr (fun t ht hW => ⟨⟨(), rfl, trivial, by rw [ht]; exact hP, va_K.moved hW.alike hK, hD⟩, hS.F ht⟩) hS.2.2 dX2_begin_50
  · have c_13 : ¬ 64 ≤ i := fun q => c_13 ((nI_leI (a := 64) (b := i) (by omega) (by omega)).mpr q)
    refine lv_aload_n hx hb dX2_begin_16 rfl (lv_at hl 1 rfl) ?_
    refine va_get (D := (dC, dI)) (ci := 2) (v := .ref (b 1)) (C := RX2) (T := TX2) (N := 6) hx hb hts in_X2 hown hK hP 0 rfl rfl 0 (by decide) lk_1 (fun _ h9 => h9) rfl dX2_begin_17 ?_
    refine lv_iload_n hx hb dX2_begin_20 rfl (lv_at hl 0 rfl) ?_
    refine lv_iload_n hx hb dX2_begin_21 rfl (lv_at hl 0 rfl) ?_
    refine vp_callSi (W.runS (As := [.int (nI i)]) (rest := [.int (nI i), .ref (b 1)]) ⟨hx, hb, hml, hown, hts⟩ (c_X2_first l i (by omega)) (va_cwS 1 hts gX2_begin_X2_first rfl rfl rfl (by decide +kernel) ⟨Nat.le_of_ble_eq_true rfl, Nat.le_of_ble_eq_true rfl⟩) ⟨fun a9 U g9 mk9 q9 => ⟨q9.1, trivial⟩, fun U hU hW => ⟨rfl, trivial⟩⟩ rfl rfl hl.1 rfl (lv_room (Nat.le_of_ble_eq_true rfl)) dX2_begin_22 ⟨Nat.zero_le _, Nat.zero_le _⟩) (fun r_22 hw => ?_)
    try dsimp only at hw
    subst hw
    have wf_22 := fst_lt i
    refine lv_i2b (v := sb_b (fst i)) hx hb dX2_begin_25 rfl ?_
    refine va_bast hx hb hK hP hD hS 1 1 rfl rfl (vp_in_nI (by omega) (by omega)) dX2_begin_26 (fun H locs hP hD hS => ?_)
    rw [bf_up (by omega)] at hP hD
    have hP : va_P (dC, dI) vwCl (sw cB cI b sz st us (va_up f i (fst i)) pl ln) H := hP
    have hD : va_D A (sw cB cI b sz st us (va_up f i (fst i)) pl ln) := hD
    refine lv_iinc (v := (nI (i + 1))) (lv' := [(1, .int (nI (i + 1))), (0, .ref (b 0))]) hx hb dX2_begin_27 hl (k := 0) rfl (nI_inc _) (by decide) rfl (fun ls hl => ?_)
    refine lv_goto (tgt := 10) hx hb dX2_begin_30 (by decide) ?_
    exact ih_10 (i + 1, va_up f i (fst i)) (⟨by omega, by have q := outW_s (zr mem 0 8192) fst 0 i; rw [Nat.zero_add] at q; rw [hf, q]⟩) (show 64 - (i + 1) < 64 - i by omega) H locs ls (hP) (hD) hS (lv_sub hl [0, 1] rfl)
set_option maxHeartbeats 4000000 in
set_option maxRecDepth 100000 in
theorem c_X2_store (l : Launch) (dC : Nat → ClassId) (dI : Nat → Nat → Nat) (cB cI : ClassId) (b : Nat → Nat) (sz st us : Nat) (mem pl ln : Nat → Nat) (zz : Nat) (x k : Nat) (v : Int32) (g1 : x + k ≤ 8192) (g2 : k ≤ 4) : Met l yX2_store wsX2_store ({ frames := 0, cells := 0, slots := 0, locals := 0 }) (va_Pc [.ref (b 0), .int (nI x), .int (nI k), .int v] (fun U => U.heap.size = zz ∧ va_P (dC, dI) vwCl (sw cB cI b sz st us mem pl ln) U.heap ∧ va_K (dC, dI) vwCl [(cI, .int), (cB, .byte)] U ∧ va_D (fun _ => True) (sw cB cI b sz st us mem pl ln))) (va_Qv (fun _ => True) (fun (_ : Unit) t => va_P (dC, dI) vwCl (sw cB cI b sz st us (wr mem x k v k) pl ln) t.heap ∧ va_K (dC, dI) vwCl [(cI, .int), (cB, .byte)] t ∧ va_D (va_A (sw cB cI b sz st us mem pl ln) zz) (sw cB cI b sz st us (wr mem x k v k) pl ln)) (va_A (sw cB cI b sz st us mem pl ln) zz)) 0 0 (va_A (sw cB cI b sz st us mem pl ln) zz) := by
  refine Met.ofW (cc := cX2_store) (maxL := 6) (ret := none) (by decide) rfl ?_
  intro p e s m args below meth c s₁ B hml hv
  obtain ⟨rfl, hsz, hP, hK, hD0⟩ := hv
  have hx := B.exec
  have hb := B.bytes
  have hr := B.returns
  have hts := atoms_spec (ws := wsX2_store) B.pre
  have hown : s.vm.findClass RX2 = some m.cls := findClass_of_methodNamed B.named
  have hlocks := B.notSynchronized
  subst hsz
  have hD := hD0.self (sz := s.heap.size)
  generalize hAe : va_A (sw cB cI b sz st us mem pl ln) s.heap.size = A at hD ⊢
  have hA : ∀ q : Nat, s.heap.size ≤ q → A q := fun q h => by rw [← hAe]; exact Or.inr h
  have hS : va_S A s.heap s.heap [] := va_S.rf
  have hP : va_P (dC, dI) vwCl (sw cB cI b sz st us mem pl ln) s.heap := hP
  have in_X2 : ∀ w ∈ wsX20, w ∈ wsX2_store := fun _ h => List.mem_cons_of_mem _ (List.mem_append_right _ (h))
  have lk_1 := hts (.fieldLink RX2 9 "GlulxHeap$State" "bytes" "[B") (List.mem_of_getElem? (i := 1) rfl)
  have hl := lv_entry ([.ref (b 0), .int (nI x), .int (nI k), .int v]) (n := 6) (Nat.le_of_ble_eq_true rfl)
  rw [lg_entry_eq]
  generalize (lg_sl ([.ref (b 0), .int (nI x), .int (nI k), .int v]) ++ List.replicate (6 - (lg_sl ([.ref (b 0), .int (nI x), .int (nI k), .int v])).length) Slot.unset).toArray = ls at hl ⊢
  have hl : lv_has ls 6 [(0, .ref (b 0)), (1, .int (nI x)), (2, .int (nI k)), (3, .int v)] := hl
  refine lv_iload_n hx hb dX2_store_0 rfl (lv_at hl 3 rfl) ?_
  refine lv_istore (lv' := [(4, .int v), (0, .ref (b 0)), (1, .int (nI x)), (2, .int (nI k)), (3, .int v)]) hx hb dX2_store_1 hl (by decide) rfl (fun ls hl => ?_)
  refine lv_iload_n hx hb dX2_store_3 rfl (lv_at hl 3 rfl) ?_
  refine lv_iconst (v := (nI 1)) hx hb dX2_store_4 (by decide) ?_
  refine lv_isub hx hb dX2_store_5 ?_
  refine tpi (rfl) ?_
  refine lv_istore (lv' := [(5, .int (lst k)), (4, .int v), (0, .ref (b 0)), (1, .int (nI x)), (2, .int (nI k)), (3, .int v)]) hx hb dX2_store_6 hl (by decide) rfl (fun ls hl => ?_)
  refine lp_world (σ := Nat × Int32 × (Nat → Nat)) (fun ⟨ed, t, f⟩ => ed ≤ k ∧ t.toBitVec.toNat = v.toBitVec.toNat / 256 ^ (k - ed) ∧ f = wrH mem x k v ed) (fun ⟨ed, t, f⟩ => ed) (fun ⟨ed, t, f⟩ => [(5, .int (lst ed)), (4, .int t), (0, .ref (b 0)), (1, .int (nI x)), (2, .int (nI k)), (3, .int v)]) (fun ⟨ed, t, f⟩ => sw cB cI b sz st us f pl ln) ?_ ((k, v, mem)) (⟨Nat.le_refl _, by rw [Nat.sub_self, Nat.pow_zero, Nat.div_one], by rw [wrH_0]⟩) (hP) (hD) hS (lv_sub hl [0, 1, 2, 3, 4, 5] rfl)
  intro ⟨ed, t, f⟩ hI ih H locs ls hP hD hS hl
  have hl : lv_has ls 6 [(5, .int (lst ed)), (4, .int t), (0, .ref (b 0)), (1, .int (nI x)), (2, .int (nI k)), (3, .int v)] := hl
  have hP : va_P (dC, dI) vwCl (sw cB cI b sz st us f pl ln) H := hP
  have hD : va_D A (sw cB cI b sz st us f pl ln) := hD
  have hI : ed ≤ k ∧ t.toBitVec.toNat = v.toBitVec.toNat / 256 ^ (k - ed) ∧ f = wrH mem x k v ed := hI
  obtain ⟨he, ht, hf⟩ := hI
  have ih_8 := ih
  refine lv_iload hx hb dX2_store_8 (lv_at hl 0 rfl) ?_
  refine lv_if_lt (tgt := 38) hx hb dX2_store_10 (by decide) (fun c_10 => ?_) (fun c_10 => ?_)
  · have e_mem : f = wr mem x k v k := by rw [hf, show ed = 0 from (Nat.eq_zero_or_pos ed).elim id (fun q => absurd c_10 (by obtain ⟨e2, rfl⟩ : ∃ z, ed = z + 1 := ⟨ed - 1, by omega⟩; rw [lst_s]; exact nI_pos (by omega))), wrH_end]
    have hP : va_P (dC, dI) vwCl (sw cB cI b sz st us (wr mem x k v k) pl ln) H := by rw [← e_mem]; exact hP
    have hD : va_D A (sw cB cI b sz st us (wr mem x k v k) pl ln) := by rw [← e_mem]; exact hD
    exact W.vret hx hb hr (fun t ht hW => ⟨⟨(), rfl, trivial, by rw [ht]; exact hP, va_K.moved hW.alike hK, hD⟩, hS.F ht⟩) hS.2.2 dX2_store_38
  · obtain ⟨e1, rfl⟩ : ∃ q, ed = q + 1 := ⟨ed - 1, by have h9 : ¬ ed = 0 := (fun q => c_10 (by rw [q]; decide)); omega⟩
    rw [lst_s] at hl
    refine lv_aload_n hx hb dX2_store_13 rfl (lv_at hl 2 rfl) ?_
    refine va_get (D := (dC, dI)) (ci := 2) (v := .ref (b 1)) (C := RX2) (T := TX2) (N := 6) hx hb hts in_X2 hown hK hP 0 rfl rfl 0 (by decide) lk_1 (fun _ h9 => h9) rfl dX2_store_14 ?_
    refine lv_iload_n hx hb dX2_store_17 rfl (lv_at hl 3 rfl) ?_
    refine lv_iload hx hb dX2_store_18 (lv_at hl 0 rfl) ?_
    refine lv_iadd hx hb dX2_store_20 ?_
    refine tpi (nI_add _ _) ?_
    refine lv_iload hx hb dX2_store_21 (lv_at hl 1 rfl) ?_
    refine lv_i2b hx hb dX2_store_23 (i2b_byt t) ?_
    refine va_bast hx hb hK hP hD hS 1 1 rfl rfl (vp_in_nI (by omega) (by omega)) dX2_store_24 (fun H locs hP hD hS => ?_)
    rw [bf_up (by omega)] at hP hD
    have hP : va_P (dC, dI) vwCl (sw cB cI b sz st us (va_up f (x + e1) (byt t 0)) pl ln) H := hP
    have hD : va_D A (sw cB cI b sz st us (va_up f (x + e1) (byt t 0)) pl ln) := hD
    refine lv_iload hx hb dX2_store_25 (lv_at hl 1 rfl) ?_
    refine lv_bipush (v := (nI 8)) hx hb dX2_store_27 (by decide) ?_
    refine lv_iushr hx hb dX2_store_29 (rfl) ?_
    refine lv_istore (lv' := [(4, .int ((t.toUInt32 >>> ((nI 8).toUInt32 &&& Int32.toUInt32 31)).toInt32)), (5, .int (nI e1)), (0, .ref (b 0)), (1, .int (nI x)), (2, .int (nI k)), (3, .int v)]) hx hb dX2_store_30 hl (by decide) rfl (fun ls hl => ?_)
    refine lv_iinc (v := (lst e1)) (lv' := [(5, .int (lst e1)), (4, .int ((t.toUInt32 >>> ((nI 8).toUInt32 &&& Int32.toUInt32 31)).toInt32)), (0, .ref (b 0)), (1, .int (nI x)), (2, .int (nI k)), (3, .int v)]) hx hb dX2_store_32 hl (k := 1) rfl (lst_dec e1) (by decide) rfl (fun ls hl => ?_)
    refine lv_goto (tgt := 8) hx hb dX2_store_35 (by decide) ?_
    exact ih_8 (e1, (t.toUInt32 >>> ((nI 8).toUInt32 &&& Int32.toUInt32 31)).toInt32, va_up f (x + e1) (byt t 0)) (⟨by omega, by rw [ush8, ht, Nat.div_div_eq_div_mul, show k - e1 = k - (e1 + 1) + 1 by omega, Nat.pow_succ], by rw [hf, wrH_s (by omega) (by rw [byt_sh ht, show k - (e1 + 1) = k - 1 - e1 by omega])]⟩) (show e1 < e1 + 1 by omega) H locs ls (hP) (hD) hS (lv_sub hl [0, 1, 2, 3, 4, 5] rfl)
set_option maxHeartbeats 4000000 in
set_option maxRecDepth 100000 in
theorem c_X2_addBlock (l : Launch) (dC : Nat → ClassId) (dI : Nat → Nat → Nat) (cB cI : ClassId) (b : Nat → Nat) (sz st us : Nat) (mem pl ln : Nat → Nat) (zz : Nat) (i x n : Nat) (g1 : i ≤ us) (g2 : us < 64) (g3 : sz ≤ 8192) (g4 : x + n ≤ 8192) : Met l yX2_addBlock wsX2_addBlock ({ frames := 3, cells := 0, slots := 0, locals := 67 }) (va_Pc [.ref (b 0), .int (nI i), .int (nI x), .int (nI n)] (fun U => U.heap.size = zz ∧ va_P (dC, dI) vwCl (sw cB cI b sz st us mem pl ln) U.heap ∧ va_K (dC, dI) vwCl [(cI, .int), (cB, .byte)] U ∧ va_D (fun _ => True) (sw cB cI b sz st us mem pl ln))) (va_Qv (fun _ => True) (fun (_ : Unit) t => va_P (dC, dI) vwCl (sw cB cI b (mkG sz (x + n)) (if us = 0 then sz else st) (us + 1) mem (ins pl i us x) (ins ln i us n)) t.heap ∧ va_K (dC, dI) vwCl [(cI, .int), (cB, .byte)] t ∧ va_D (va_A (sw cB cI b sz st us mem pl ln) zz) (sw cB cI b (mkG sz (x + n)) (if us = 0 then sz else st) (us + 1) mem (ins pl i us x) (ins ln i us n))) (va_A (sw cB cI b sz st us mem pl ln) zz)) 0 0 (va_A (sw cB cI b sz st us mem pl ln) zz) := by
  refine Met.ofW (cc := cX2_addBlock) (maxL := 4) (ret := none) (by decide) rfl ?_
  intro p e s m args below meth c s₁ B hml hv
  obtain ⟨rfl, hsz, hP, hK, hD0⟩ := hv
  have hx := B.exec
  have hb := B.bytes
  have hr := B.returns
  have hts := atoms_spec (ws := wsX2_addBlock) B.pre
  have hown : s.vm.findClass RX2 = some m.cls := findClass_of_methodNamed B.named
  have hlocks := B.notSynchronized
  subst hsz
  have hD := hD0.self (sz := s.heap.size)
  generalize hAe : va_A (sw cB cI b sz st us mem pl ln) s.heap.size = A at hD ⊢
  have hA : ∀ q : Nat, s.heap.size ≤ q → A q := fun q h => by rw [← hAe]; exact Or.inr h
  have hS : va_S A s.heap s.heap [] := va_S.rf
  have hP : va_P (dC, dI) vwCl (sw cB cI b sz st us mem pl ln) s.heap := hP
  have in_X2 : ∀ w ∈ wsX20, w ∈ wsX2_addBlock := fun _ h => List.mem_cons_of_mem _ (List.mem_append_right _ (h))
  have lk_1 := hts (.fieldLink RX2 39 "GlulxHeap$State" "used" "I") (List.mem_of_getElem? (i := 1) rfl)
  have lk_2 := hts (.fieldLink RX2 32 "GlulxHeap$State" "size" "I") (List.mem_of_getElem? (i := 2) rfl)
  have lk_3 := hts (.fieldLink RX2 36 "GlulxHeap$State" "start" "I") (List.mem_of_getElem? (i := 3) rfl)
  have lk_4 := hts (.fieldLink RX2 15 "GlulxHeap$State" "places" "[I") (List.mem_of_getElem? (i := 4) rfl)
  have lk_5 := hts (.methodLink RX2 42 arraycopyName) (List.mem_of_getElem? (i := 5) rfl)
  have lk_6 := hts (.native arraycopyName) (List.mem_of_getElem? (i := 6) rfl)
  have lk_7 := hts (.static arraycopyName) (List.mem_of_getElem? (i := 7) rfl)
  have lk_8 := hts (.initialized "java/lang/System") (List.mem_of_getElem? (i := 8) rfl)
  have lk_9 := hts (.fieldLink RX2 19 "GlulxHeap$State" "lengths" "[I") (List.mem_of_getElem? (i := 9) rfl)
  have hl := lv_entry ([.ref (b 0), .int (nI i), .int (nI x), .int (nI n)]) (n := 4) (Nat.le_of_ble_eq_true rfl)
  rw [lg_entry_eq]
  generalize (lg_sl ([.ref (b 0), .int (nI i), .int (nI x), .int (nI n)]) ++ List.replicate (4 - (lg_sl ([.ref (b 0), .int (nI i), .int (nI x), .int (nI n)])).length) Slot.unset).toArray = ls at hl ⊢
  have hl : lv_has ls 4 [(0, .ref (b 0)), (1, .int (nI i)), (2, .int (nI x)), (3, .int (nI n))] := hl
  refine lv_aload_n hx hb dX2_addBlock_0 rfl (lv_at hl 0 rfl) ?_
  refine va_get (D := (dC, dI)) (ci := 2) (v := .int (nI us)) (C := RX2) (T := TX2) (N := 6) hx hb hts in_X2 hown hK hP 0 rfl rfl 5 (by decide) lk_1 (fun _ h9 => h9) rfl dX2_addBlock_1 ?_
  refine lv_if_ne (tgt := 15) hx hb dX2_addBlock_4 (by decide) (fun c_4 => ?_) (fun c_4 => ?_)
  · have c_4 : ¬ us = 0 := fun q => c_4 ((nZ_eq (by omega)).mpr q)
    refine lv_aload_n hx hb dX2_addBlock_15 rfl (lv_at hl 0 rfl) ?_
    refine va_get (D := (dC, dI)) (ci := 2) (v := .ref (b 2)) (C := RX2) (T := TX2) (N := 6) hx hb hts in_X2 hown hK hP 0 rfl rfl 1 (by decide) lk_4 (fun _ h9 => h9) rfl dX2_addBlock_16 ?_
    refine lv_iload_n hx hb dX2_addBlock_19 rfl (lv_at hl 1 rfl) ?_
    refine lv_aload_n hx hb dX2_addBlock_20 rfl (lv_at hl 0 rfl) ?_
    refine va_get (D := (dC, dI)) (ci := 2) (v := .ref (b 2)) (C := RX2) (T := TX2) (N := 6) hx hb hts in_X2 hown hK hP 0 rfl rfl 1 (by decide) lk_4 (fun _ h9 => h9) rfl dX2_addBlock_21 ?_
    refine lv_iload_n hx hb dX2_addBlock_24 rfl (lv_at hl 1 rfl) ?_
    refine lv_iconst (v := (nI 1)) hx hb dX2_addBlock_25 (by decide) ?_
    refine lv_iadd hx hb dX2_addBlock_26 ?_
    refine tpi (nI_add _ _) ?_
    refine lv_aload_n hx hb dX2_addBlock_27 rfl (lv_at hl 0 rfl) ?_
    refine va_get (D := (dC, dI)) (ci := 2) (v := .int (nI us)) (C := RX2) (T := TX2) (N := 6) hx hb hts in_X2 hown hK hP 0 rfl rfl 5 (by decide) lk_1 (fun _ h9 => h9) rfl dX2_addBlock_28 ?_
    refine lv_iload_n hx hb dX2_addBlock_31 rfl (lv_at hl 1 rfl) ?_
    refine lv_isub hx hb dX2_addBlock_32 ?_
    refine tpi (pk_sub (by omega)) ?_
    refine va_copyi hx hb (by rw [hml]; exact hl.1.symm) hown lk_5 lk_6 lk_7 lk_8 hK hP hD hS 2 2 0 0 rfl rfl rfl rfl rfl (nI_pos (by omega)) (nI_pos (by omega)) (nI_pos (by omega)) (by rw [nI_clamp (by omega), nI_clamp (by omega)]; omega) (by rw [nI_clamp (by omega), nI_clamp (by omega)]; omega) (fun _ _ => rfl) (Nat.le_of_ble_eq_true rfl) (Nat.le_of_ble_eq_true rfl) dX2_addBlock_33 (fun H locs hP hD hS => ?_)
    rw [cpy_nf (by omega) (by omega) (by omega)] at hP hD
    have hP : va_P (dC, dI) vwCl (sw cB cI b sz st us mem (va_cpy pl pl i (i + 1) (us - i)) ln) H := hP
    have hD : va_D A (sw cB cI b sz st us mem (va_cpy pl pl i (i + 1) (us - i)) ln) := hD
    refine lv_aload_n hx hb dX2_addBlock_36 rfl (lv_at hl 0 rfl) ?_
    refine va_get (D := (dC, dI)) (ci := 2) (v := .ref (b 3)) (C := RX2) (T := TX2) (N := 6) hx hb hts in_X2 hown hK hP 0 rfl rfl 2 (by decide) lk_9 (fun _ h9 => h9) rfl dX2_addBlock_37 ?_
    refine lv_iload_n hx hb dX2_addBlock_40 rfl (lv_at hl 1 rfl) ?_
    refine lv_aload_n hx hb dX2_addBlock_41 rfl (lv_at hl 0 rfl) ?_
    refine va_get (D := (dC, dI)) (ci := 2) (v := .ref (b 3)) (C := RX2) (T := TX2) (N := 6) hx hb hts in_X2 hown hK hP 0 rfl rfl 2 (by decide) lk_9 (fun _ h9 => h9) rfl dX2_addBlock_42 ?_
    refine lv_iload_n hx hb dX2_addBlock_45 rfl (lv_at hl 1 rfl) ?_
    refine lv_iconst (v := (nI 1)) hx hb dX2_addBlock_46 (by decide) ?_
    refine lv_iadd hx hb dX2_addBlock_47 ?_
    refine tpi (nI_add _ _) ?_
    refine lv_aload_n hx hb dX2_addBlock_48 rfl (lv_at hl 0 rfl) ?_
    refine va_get (D := (dC, dI)) (ci := 2) (v := .int (nI us)) (C := RX2) (T := TX2) (N := 6) hx hb hts in_X2 hown hK hP 0 rfl rfl 5 (by decide) lk_1 (fun _ h9 => h9) rfl dX2_addBlock_49 ?_
    refine lv_iload_n hx hb dX2_addBlock_52 rfl (lv_at hl 1 rfl) ?_
    refine lv_isub hx hb dX2_addBlock_53 ?_
    refine tpi (pk_sub (by omega)) ?_
    refine va_copyi hx hb (by rw [hml]; exact hl.1.symm) hown lk_5 lk_6 lk_7 lk_8 hK hP hD hS 3 3 0 0 rfl rfl rfl rfl rfl (nI_pos (by omega)) (nI_pos (by omega)) (nI_pos (by omega)) (by rw [nI_clamp (by omega), nI_clamp (by omega)]; omega) (by rw [nI_clamp (by omega), nI_clamp (by omega)]; omega) (fun _ _ => rfl) (Nat.le_of_ble_eq_true rfl) (Nat.le_of_ble_eq_true rfl) dX2_addBlock_54 (fun H locs hP hD hS => ?_)
    rw [cpy_nf (by omega) (by omega) (by omega)] at hP hD
    have hP : va_P (dC, dI) vwCl (sw cB cI b sz st us mem (va_cpy pl pl i (i + 1) (us - i)) (va_cpy ln ln i (i + 1) (us - i))) H := hP
    have hD : va_D A (sw cB cI b sz st us mem (va_cpy pl pl i (i + 1) (us - i)) (va_cpy ln ln i (i + 1) (us - i))) := hD
    refine lv_aload_n hx hb dX2_addBlock_57 rfl (lv_at hl 0 rfl) ?_
    refine va_get (D := (dC, dI)) (ci := 2) (v := .ref (b 2)) (C := RX2) (T := TX2) (N := 6) hx hb hts in_X2 hown hK hP 0 rfl rfl 1 (by decide) lk_4 (fun _ h9 => h9) rfl dX2_addBlock_58 ?_
    refine lv_iload_n hx hb dX2_addBlock_61 rfl (lv_at hl 1 rfl) ?_
    refine lv_iload_n hx hb dX2_addBlock_62 rfl (lv_at hl 2 rfl) ?_
    refine va_iast hx hb hK hP hD hS 2 0 rfl rfl (vp_in_nI (by omega) (by omega)) dX2_addBlock_63 (fun H locs hP hD hS => ?_)
    rw [nf_up (by omega)] at hP hD
    have hP : va_P (dC, dI) vwCl (sw cB cI b sz st us mem (va_up ((va_cpy pl pl i (i + 1) (us - i))) i x) (va_cpy ln ln i (i + 1) (us - i))) H := hP
    have hD : va_D A (sw cB cI b sz st us mem (va_up ((va_cpy pl pl i (i + 1) (us - i))) i x) (va_cpy ln ln i (i + 1) (us - i))) := hD
    refine lv_aload_n hx hb dX2_addBlock_64 rfl (lv_at hl 0 rfl) ?_
    refine va_get (D := (dC, dI)) (ci := 2) (v := .ref (b 3)) (C := RX2) (T := TX2) (N := 6) hx hb hts in_X2 hown hK hP 0 rfl rfl 2 (by decide) lk_9 (fun _ h9 => h9) rfl dX2_addBlock_65 ?_
    refine lv_iload_n hx hb dX2_addBlock_68 rfl (lv_at hl 1 rfl) ?_
    refine lv_iload_n hx hb dX2_addBlock_69 rfl (lv_at hl 3 rfl) ?_
    refine va_iast hx hb hK hP hD hS 3 0 rfl rfl (vp_in_nI (by omega) (by omega)) dX2_addBlock_70 (fun H locs hP hD hS => ?_)
    rw [nf_up (by omega)] at hP hD
    have hP : va_P (dC, dI) vwCl (sw cB cI b sz st us mem (va_up ((va_cpy pl pl i (i + 1) (us - i))) i x) (va_up ((va_cpy ln ln i (i + 1) (us - i))) i n)) H := hP
    have hD : va_D A (sw cB cI b sz st us mem (va_up ((va_cpy pl pl i (i + 1) (us - i))) i x) (va_up ((va_cpy ln ln i (i + 1) (us - i))) i n)) := hD
    refine lv_aload_n hx hb dX2_addBlock_71 rfl (lv_at hl 0 rfl) ?_
    refine lv_dup hx hb dX2_addBlock_72 rfl ?_
    refine va_get (D := (dC, dI)) (ci := 2) (v := .int (nI us)) (C := RX2) (T := TX2) (N := 6) hx hb hts in_X2 hown hK hP 0 rfl rfl 5 (by decide) lk_1 (fun _ h9 => h9) rfl dX2_addBlock_73 ?_
    refine lv_iconst (v := (nI 1)) hx hb dX2_addBlock_76 (by decide) ?_
    refine lv_iadd hx hb dX2_addBlock_77 ?_
    refine tpi (nI_add _ _) ?_
    refine va_put (D := (dC, dI)) (ci := 2) (v := .int (nI (us + 1))) (ty := .int) (C := RX2) (T := TX2) (N := 6) hx hb hts in_X2 tyX2 tyX2_ok nmX2 hown hK hP hD hS 0 rfl rfl 5 (by decide) lk_1 (fun _ h9 => h9) rfl (by decide +kernel) rfl rfl (Nat.le_of_ble_eq_true rfl) dX2_addBlock_78 (fun H locs hP hD hS => ?_)
    have hP : va_P (dC, dI) vwCl (sw cB cI b sz st (us + 1) mem (va_up ((va_cpy pl pl i (i + 1) (us - i))) i x) (va_up ((va_cpy ln ln i (i + 1) (us - i))) i n)) H := hP
    have hD : va_D A (sw cB cI b sz st (us + 1) mem (va_up ((va_cpy pl pl i (i + 1) (us - i))) i x) (va_up ((va_cpy ln ln i (i + 1) (us - i))) i n)) := hD
    refine lv_iload_n hx hb dX2_addBlock_81 rfl (lv_at hl 2 rfl) ?_
    refine lv_iload_n hx hb dX2_addBlock_82 rfl (lv_at hl 3 rfl) ?_
    refine lv_iadd hx hb dX2_addBlock_83 ?_
    refine tpi (nI_add _ _) ?_
    refine lv_aload_n hx hb dX2_addBlock_84 rfl (lv_at hl 0 rfl) ?_
    refine va_get (D := (dC, dI)) (ci := 2) (v := .int (nI sz)) (C := RX2) (T := TX2) (N := 6) hx hb hts in_X2 hown hK hP 0 rfl rfl 3 (by decide) lk_2 (fun _ h9 => h9) rfl dX2_addBlock_85 ?_
    refine lv_icmp_le (tgt := 112) hx hb dX2_addBlock_88 (by decide) (fun c_88 => ?_) (fun c_88 => ?_)
    · have c_88 : x + n ≤ sz := (nI_leI (a := x + n) (b := sz) (by omega) (by omega)).mp c_88
      have e_sz : sz = mkG sz (x + n) := by unfold mkG; rw [if_neg (by omega)]
      have e_st : st = if us = 0 then sz else st := by rw [if_neg (by omega)]
      have e_pl : va_up ((va_cpy pl pl i (i + 1) (us - i))) i x = ins pl i us x := by unfold ins; rw [cpy_shf g1]
      have e_ln : va_up ((va_cpy ln ln i (i + 1) (us - i))) i n = ins ln i us n := by unfold ins; rw [cpy_shf g1]
      have hP : va_P (dC, dI) vwCl (sw cB cI b (mkG sz (x + n)) (if us = 0 then sz else st) (us + 1) mem (ins pl i us x) (ins ln i us n)) H := by rw [← e_sz, ← e_st, ← e_pl, ← e_ln]; exact hP
      have hD : va_D A (sw cB cI b (mkG sz (x + n)) (if us = 0 then sz else st) (us + 1) mem (ins pl i us x) (ins ln i us n)) := by rw [← e_sz, ← e_st, ← e_pl, ← e_ln]; exact hD
      exact W.vret hx hb hr (fun t ht hW => ⟨⟨(), rfl, trivial, by rw [ht]; exact hP, va_K.moved hW.alike hK, hD⟩, hS.F ht⟩) hS.2.2 dX2_addBlock_112
    · have c_88 : ¬ x + n ≤ sz := fun q => c_88 ((nI_leI (a := x + n) (b := sz) (by omega) (by omega)).mpr q)
      refine lv_aload_n hx hb dX2_addBlock_91 rfl (lv_at hl 0 rfl) ?_
      refine lv_iload_n hx hb dX2_addBlock_92 rfl (lv_at hl 2 rfl) ?_
      refine lv_iload_n hx hb dX2_addBlock_93 rfl (lv_at hl 3 rfl) ?_
      refine lv_iadd hx hb dX2_addBlock_94 ?_
      refine tpi (nI_add _ _) ?_
      refine lv_sipush (v := (nI 256)) hx hb dX2_addBlock_95 (by decide) ?_
      refine lv_iadd hx hb dX2_addBlock_98 ?_
      refine tpi (nI_add _ _) ?_
      refine lv_iconst (v := (nI 1)) hx hb dX2_addBlock_99 (by decide) ?_
      refine lv_isub hx hb dX2_addBlock_100 ?_
      refine tpi (pk_sub (by omega)) ?_
      refine lv_sipush (v := (nI 256)) hx hb dX2_addBlock_101 (by decide) ?_
      refine lv_idiv hx hb dX2_addBlock_104 (by decide) ?_
      refine tpi (pk_div (by omega) (by decide) (by decide)) ?_
      refine lv_sipush (v := (nI 256)) hx hb dX2_addBlock_105 (by decide) ?_
      refine lv_imul hx hb dX2_addBlock_108 ?_
      refine tpi (pk_mul _ _) ?_
      have hFc := va_free (wc := sw cB cI b sz st (us + 1) mem (va_up ((va_cpy pl pl i (i + 1) (us - i))) i x) (va_up ((va_cpy ln ln i (i + 1) (us - i))) i n)) hD hS hA [0, 1, 2, 3] rfl
      refine va_callv (va_runV (As := [.int (nI (((x + n + 256 - 1) / 256) * 256))]) (rest := []) ⟨hx, hb, hml, hown, hts⟩ (c_X2_changeSize l dC dI cB cI b sz st (us + 1) mem (va_up ((va_cpy pl pl i (i + 1) (us - i))) i x) (va_up ((va_cpy ln ln i (i + 1) (us - i))) i n) H.size (((x + n + 256 - 1) / 256) * 256) (by omega) (by omega)) (cwV 1 hts gX2_addBlock_X2_changeSize rfl rfl rfl (by decide +kernel) ⟨Nat.le_of_ble_eq_true rfl, Nat.le_of_ble_eq_true rfl⟩) ⟨fun a9 U g9 mk9 q9 => by obtain ⟨q0, q1, qP, qK, qD⟩ := q9; exact ⟨q0, q1, qP, va_K.moved (u := U) (U := U.calling g9 mk9 a9) (Vm.Alike.refl U.vm) qK, qD⟩, va_recv hK hP (ci := 2) (q0 := 0) rfl rfl, fun U hU hW => ⟨rfl, by rw [hU], by rw [hU]; exact hP, va_K.moved hW.alike hK, hD.weaken (fun _ _ _ _ => trivial)⟩⟩ rfl rfl hl.1 rfl (lv_room (Nat.le_of_ble_eq_true rfl)) dX2_addBlock_109 ⟨Nat.zero_le _, Nat.zero_le _⟩) hS (fun q _ h => hFc q h) hFc (fun u t H1 locs ht9 hvm9 hw hB hz9 hk9 hS => ?_)
      obtain ⟨hP1, hK1, hD1⟩ := hB
      rw [ht9] at hP1
      obtain ⟨hP, hD⟩ := va_join (wr := []) (w1 := sw cB cI b (((x + n + 256 - 1) / 256) * 256) st (us + 1) (csM mem sz (((x + n + 256 - 1) / 256) * 256)) (va_up ((va_cpy pl pl i (i + 1) (us - i))) i x) (va_up ((va_cpy ln ln i (i + 1) (us - i))) i n)) hP hD [0, 1, 2, 3] [] rfl rfl (by decide) (by decide) hk9 hFc hP1 hD1
      generalize H1 = H at hP hS ⊢
      have hP : va_P (dC, dI) vwCl (sw cB cI b (((x + n + 256 - 1) / 256) * 256) st (us + 1) (csM mem sz (((x + n + 256 - 1) / 256) * 256)) (va_up ((va_cpy pl pl i (i + 1) (us - i))) i x) (va_up ((va_cpy ln ln i (i + 1) (us - i))) i n)) H := hP
      have hD : va_D A (sw cB cI b (((x + n + 256 - 1) / 256) * 256) st (us + 1) (csM mem sz (((x + n + 256 - 1) / 256) * 256)) (va_up ((va_cpy pl pl i (i + 1) (us - i))) i x) (va_up ((va_cpy ln ln i (i + 1) (us - i))) i n)) := hD
      have e_mem : csM mem sz (((x + n + 256 - 1) / 256) * 256) = mem := by unfold csM; rw [if_neg (by omega)]
      have e_sz : ((x + n + 256 - 1) / 256) * 256 = mkG sz (x + n) := by unfold mkG; rw [if_pos (by omega), show x + n + 256 - 1 = x + n + 255 by omega]
      have e_st : st = if us = 0 then sz else st := by rw [if_neg (by omega)]
      have e_pl : va_up ((va_cpy pl pl i (i + 1) (us - i))) i x = ins pl i us x := by unfold ins; rw [cpy_shf g1]
      have e_ln : va_up ((va_cpy ln ln i (i + 1) (us - i))) i n = ins ln i us n := by unfold ins; rw [cpy_shf g1]
      have hP : va_P (dC, dI) vwCl (sw cB cI b (mkG sz (x + n)) (if us = 0 then sz else st) (us + 1) mem (ins pl i us x) (ins ln i us n)) H := by rw [← e_mem, ← e_sz, ← e_st, ← e_pl, ← e_ln]; exact hP
      have hD : va_D A (sw cB cI b (mkG sz (x + n)) (if us = 0 then sz else st) (us + 1) mem (ins pl i us x) (ins ln i us n)) := by rw [← e_mem, ← e_sz, ← e_st, ← e_pl, ← e_ln]; exact hD
      exact W.vret hx hb hr (fun t ht hW => ⟨⟨(), rfl, trivial, by rw [ht]; exact hP, va_K.moved hW.alike hK, hD⟩, hS.F ht⟩) hS.2.2 dX2_addBlock_112
  · have c_4 : us = 0 := (nZ_eq (by omega)).mp c_4
    refine lv_aload_n hx hb dX2_addBlock_7 rfl (lv_at hl 0 rfl) ?_
    refine lv_aload_n hx hb dX2_addBlock_8 rfl (lv_at hl 0 rfl) ?_
    refine va_get (D := (dC, dI)) (ci := 2) (v := .int (nI sz)) (C := RX2) (T := TX2) (N := 6) hx hb hts in_X2 hown hK hP 0 rfl rfl 3 (by decide) lk_2 (fun _ h9 => h9) rfl dX2_addBlock_9 ?_
    refine va_put (D := (dC, dI)) (ci := 2) (v := .int (nI sz)) (ty := .int) (C := RX2) (T := TX2) (N := 6) hx hb hts in_X2 tyX2 tyX2_ok nmX2 hown hK hP hD hS 0 rfl rfl 4 (by decide) lk_3 (fun _ h9 => h9) rfl (by decide +kernel) rfl rfl (Nat.le_of_ble_eq_true rfl) dX2_addBlock_12 (fun H locs hP hD hS => ?_)
    have hP : va_P (dC, dI) vwCl (sw cB cI b sz sz us mem pl ln) H := hP
    have hD : va_D A (sw cB cI b sz sz us mem pl ln) := hD
    refine lv_aload_n hx hb dX2_addBlock_15 rfl (lv_at hl 0 rfl) ?_
    refine va_get (D := (dC, dI)) (ci := 2) (v := .ref (b 2)) (C := RX2) (T := TX2) (N := 6) hx hb hts in_X2 hown hK hP 0 rfl rfl 1 (by decide) lk_4 (fun _ h9 => h9) rfl dX2_addBlock_16 ?_
    refine lv_iload_n hx hb dX2_addBlock_19 rfl (lv_at hl 1 rfl) ?_
    refine lv_aload_n hx hb dX2_addBlock_20 rfl (lv_at hl 0 rfl) ?_
    refine va_get (D := (dC, dI)) (ci := 2) (v := .ref (b 2)) (C := RX2) (T := TX2) (N := 6) hx hb hts in_X2 hown hK hP 0 rfl rfl 1 (by decide) lk_4 (fun _ h9 => h9) rfl dX2_addBlock_21 ?_
    refine lv_iload_n hx hb dX2_addBlock_24 rfl (lv_at hl 1 rfl) ?_
    refine lv_iconst (v := (nI 1)) hx hb dX2_addBlock_25 (by decide) ?_
    refine lv_iadd hx hb dX2_addBlock_26 ?_
    refine tpi (nI_add _ _) ?_
    refine lv_aload_n hx hb dX2_addBlock_27 rfl (lv_at hl 0 rfl) ?_
    refine va_get (D := (dC, dI)) (ci := 2) (v := .int (nI us)) (C := RX2) (T := TX2) (N := 6) hx hb hts in_X2 hown hK hP 0 rfl rfl 5 (by decide) lk_1 (fun _ h9 => h9) rfl dX2_addBlock_28 ?_
    refine lv_iload_n hx hb dX2_addBlock_31 rfl (lv_at hl 1 rfl) ?_
    refine lv_isub hx hb dX2_addBlock_32 ?_
    refine tpi (pk_sub (by omega)) ?_
    refine va_copyi hx hb (by rw [hml]; exact hl.1.symm) hown lk_5 lk_6 lk_7 lk_8 hK hP hD hS 2 2 0 0 rfl rfl rfl rfl rfl (nI_pos (by omega)) (nI_pos (by omega)) (nI_pos (by omega)) (by rw [nI_clamp (by omega), nI_clamp (by omega)]; omega) (by rw [nI_clamp (by omega), nI_clamp (by omega)]; omega) (fun _ _ => rfl) (Nat.le_of_ble_eq_true rfl) (Nat.le_of_ble_eq_true rfl) dX2_addBlock_33 (fun H locs hP hD hS => ?_)
    rw [cpy_nf (by omega) (by omega) (by omega)] at hP hD
    have hP : va_P (dC, dI) vwCl (sw cB cI b sz sz us mem (va_cpy pl pl i (i + 1) (us - i)) ln) H := hP
    have hD : va_D A (sw cB cI b sz sz us mem (va_cpy pl pl i (i + 1) (us - i)) ln) := hD
    refine lv_aload_n hx hb dX2_addBlock_36 rfl (lv_at hl 0 rfl) ?_
    refine va_get (D := (dC, dI)) (ci := 2) (v := .ref (b 3)) (C := RX2) (T := TX2) (N := 6) hx hb hts in_X2 hown hK hP 0 rfl rfl 2 (by decide) lk_9 (fun _ h9 => h9) rfl dX2_addBlock_37 ?_
    refine lv_iload_n hx hb dX2_addBlock_40 rfl (lv_at hl 1 rfl) ?_
    refine lv_aload_n hx hb dX2_addBlock_41 rfl (lv_at hl 0 rfl) ?_
    refine va_get (D := (dC, dI)) (ci := 2) (v := .ref (b 3)) (C := RX2) (T := TX2) (N := 6) hx hb hts in_X2 hown hK hP 0 rfl rfl 2 (by decide) lk_9 (fun _ h9 => h9) rfl dX2_addBlock_42 ?_
    refine lv_iload_n hx hb dX2_addBlock_45 rfl (lv_at hl 1 rfl) ?_
    refine lv_iconst (v := (nI 1)) hx hb dX2_addBlock_46 (by decide) ?_
    refine lv_iadd hx hb dX2_addBlock_47 ?_
    refine tpi (nI_add _ _) ?_
    refine lv_aload_n hx hb dX2_addBlock_48 rfl (lv_at hl 0 rfl) ?_
    refine va_get (D := (dC, dI)) (ci := 2) (v := .int (nI us)) (C := RX2) (T := TX2) (N := 6) hx hb hts in_X2 hown hK hP 0 rfl rfl 5 (by decide) lk_1 (fun _ h9 => h9) rfl dX2_addBlock_49 ?_
    refine lv_iload_n hx hb dX2_addBlock_52 rfl (lv_at hl 1 rfl) ?_
    refine lv_isub hx hb dX2_addBlock_53 ?_
    refine tpi (pk_sub (by omega)) ?_
    refine va_copyi hx hb (by rw [hml]; exact hl.1.symm) hown lk_5 lk_6 lk_7 lk_8 hK hP hD hS 3 3 0 0 rfl rfl rfl rfl rfl (nI_pos (by omega)) (nI_pos (by omega)) (nI_pos (by omega)) (by rw [nI_clamp (by omega), nI_clamp (by omega)]; omega) (by rw [nI_clamp (by omega), nI_clamp (by omega)]; omega) (fun _ _ => rfl) (Nat.le_of_ble_eq_true rfl) (Nat.le_of_ble_eq_true rfl) dX2_addBlock_54 (fun H locs hP hD hS => ?_)
    rw [cpy_nf (by omega) (by omega) (by omega)] at hP hD
    have hP : va_P (dC, dI) vwCl (sw cB cI b sz sz us mem (va_cpy pl pl i (i + 1) (us - i)) (va_cpy ln ln i (i + 1) (us - i))) H := hP
    have hD : va_D A (sw cB cI b sz sz us mem (va_cpy pl pl i (i + 1) (us - i)) (va_cpy ln ln i (i + 1) (us - i))) := hD
    refine lv_aload_n hx hb dX2_addBlock_57 rfl (lv_at hl 0 rfl) ?_
    refine va_get (D := (dC, dI)) (ci := 2) (v := .ref (b 2)) (C := RX2) (T := TX2) (N := 6) hx hb hts in_X2 hown hK hP 0 rfl rfl 1 (by decide) lk_4 (fun _ h9 => h9) rfl dX2_addBlock_58 ?_
    refine lv_iload_n hx hb dX2_addBlock_61 rfl (lv_at hl 1 rfl) ?_
    refine lv_iload_n hx hb dX2_addBlock_62 rfl (lv_at hl 2 rfl) ?_
    refine va_iast hx hb hK hP hD hS 2 0 rfl rfl (vp_in_nI (by omega) (by omega)) dX2_addBlock_63 (fun H locs hP hD hS => ?_)
    rw [nf_up (by omega)] at hP hD
    have hP : va_P (dC, dI) vwCl (sw cB cI b sz sz us mem (va_up ((va_cpy pl pl i (i + 1) (us - i))) i x) (va_cpy ln ln i (i + 1) (us - i))) H := hP
    have hD : va_D A (sw cB cI b sz sz us mem (va_up ((va_cpy pl pl i (i + 1) (us - i))) i x) (va_cpy ln ln i (i + 1) (us - i))) := hD
    refine lv_aload_n hx hb dX2_addBlock_64 rfl (lv_at hl 0 rfl) ?_
    refine va_get (D := (dC, dI)) (ci := 2) (v := .ref (b 3)) (C := RX2) (T := TX2) (N := 6) hx hb hts in_X2 hown hK hP 0 rfl rfl 2 (by decide) lk_9 (fun _ h9 => h9) rfl dX2_addBlock_65 ?_
    refine lv_iload_n hx hb dX2_addBlock_68 rfl (lv_at hl 1 rfl) ?_
    refine lv_iload_n hx hb dX2_addBlock_69 rfl (lv_at hl 3 rfl) ?_
    refine va_iast hx hb hK hP hD hS 3 0 rfl rfl (vp_in_nI (by omega) (by omega)) dX2_addBlock_70 (fun H locs hP hD hS => ?_)
    rw [nf_up (by omega)] at hP hD
    have hP : va_P (dC, dI) vwCl (sw cB cI b sz sz us mem (va_up ((va_cpy pl pl i (i + 1) (us - i))) i x) (va_up ((va_cpy ln ln i (i + 1) (us - i))) i n)) H := hP
    have hD : va_D A (sw cB cI b sz sz us mem (va_up ((va_cpy pl pl i (i + 1) (us - i))) i x) (va_up ((va_cpy ln ln i (i + 1) (us - i))) i n)) := hD
    refine lv_aload_n hx hb dX2_addBlock_71 rfl (lv_at hl 0 rfl) ?_
    refine lv_dup hx hb dX2_addBlock_72 rfl ?_
    refine va_get (D := (dC, dI)) (ci := 2) (v := .int (nI us)) (C := RX2) (T := TX2) (N := 6) hx hb hts in_X2 hown hK hP 0 rfl rfl 5 (by decide) lk_1 (fun _ h9 => h9) rfl dX2_addBlock_73 ?_
    refine lv_iconst (v := (nI 1)) hx hb dX2_addBlock_76 (by decide) ?_
    refine lv_iadd hx hb dX2_addBlock_77 ?_
    refine tpi (nI_add _ _) ?_
    refine va_put (D := (dC, dI)) (ci := 2) (v := .int (nI (us + 1))) (ty := .int) (C := RX2) (T := TX2) (N := 6) hx hb hts in_X2 tyX2 tyX2_ok nmX2 hown hK hP hD hS 0 rfl rfl 5 (by decide) lk_1 (fun _ h9 => h9) rfl (by decide +kernel) rfl rfl (Nat.le_of_ble_eq_true rfl) dX2_addBlock_78 (fun H locs hP hD hS => ?_)
    have hP : va_P (dC, dI) vwCl (sw cB cI b sz sz (us + 1) mem (va_up ((va_cpy pl pl i (i + 1) (us - i))) i x) (va_up ((va_cpy ln ln i (i + 1) (us - i))) i n)) H := hP
    have hD : va_D A (sw cB cI b sz sz (us + 1) mem (va_up ((va_cpy pl pl i (i + 1) (us - i))) i x) (va_up ((va_cpy ln ln i (i + 1) (us - i))) i n)) := hD
    refine lv_iload_n hx hb dX2_addBlock_81 rfl (lv_at hl 2 rfl) ?_
    refine lv_iload_n hx hb dX2_addBlock_82 rfl (lv_at hl 3 rfl) ?_
    refine lv_iadd hx hb dX2_addBlock_83 ?_
    refine tpi (nI_add _ _) ?_
    refine lv_aload_n hx hb dX2_addBlock_84 rfl (lv_at hl 0 rfl) ?_
    refine va_get (D := (dC, dI)) (ci := 2) (v := .int (nI sz)) (C := RX2) (T := TX2) (N := 6) hx hb hts in_X2 hown hK hP 0 rfl rfl 3 (by decide) lk_2 (fun _ h9 => h9) rfl dX2_addBlock_85 ?_
    refine lv_icmp_le (tgt := 112) hx hb dX2_addBlock_88 (by decide) (fun c_88 => ?_) (fun c_88 => ?_)
    · have c_88 : x + n ≤ sz := (nI_leI (a := x + n) (b := sz) (by omega) (by omega)).mp c_88
      have e_sz : sz = mkG sz (x + n) := by unfold mkG; rw [if_neg (by omega)]
      have e_st : sz = if us = 0 then sz else st := by rw [if_pos (by omega)]
      have e_pl : va_up ((va_cpy pl pl i (i + 1) (us - i))) i x = ins pl i us x := by unfold ins; rw [cpy_shf g1]
      have e_ln : va_up ((va_cpy ln ln i (i + 1) (us - i))) i n = ins ln i us n := by unfold ins; rw [cpy_shf g1]
      have hP : va_P (dC, dI) vwCl (sw cB cI b (mkG sz (x + n)) (if us = 0 then sz else st) (us + 1) mem (ins pl i us x) (ins ln i us n)) H := by rw [← e_sz, ← e_st, ← e_pl, ← e_ln]; exact hP
      have hD : va_D A (sw cB cI b (mkG sz (x + n)) (if us = 0 then sz else st) (us + 1) mem (ins pl i us x) (ins ln i us n)) := by rw [← e_sz, ← e_st, ← e_pl, ← e_ln]; exact hD
      exact W.vret hx hb hr (fun t ht hW => ⟨⟨(), rfl, trivial, by rw [ht]; exact hP, va_K.moved hW.alike hK, hD⟩, hS.F ht⟩) hS.2.2 dX2_addBlock_112
    · have c_88 : ¬ x + n ≤ sz := fun q => c_88 ((nI_leI (a := x + n) (b := sz) (by omega) (by omega)).mpr q)
      refine lv_aload_n hx hb dX2_addBlock_91 rfl (lv_at hl 0 rfl) ?_
      refine lv_iload_n hx hb dX2_addBlock_92 rfl (lv_at hl 2 rfl) ?_
      refine lv_iload_n hx hb dX2_addBlock_93 rfl (lv_at hl 3 rfl) ?_
      refine lv_iadd hx hb dX2_addBlock_94 ?_
      refine tpi (nI_add _ _) ?_
      refine lv_sipush (v := (nI 256)) hx hb dX2_addBlock_95 (by decide) ?_
      refine lv_iadd hx hb dX2_addBlock_98 ?_
      refine tpi (nI_add _ _) ?_
      refine lv_iconst (v := (nI 1)) hx hb dX2_addBlock_99 (by decide) ?_
      refine lv_isub hx hb dX2_addBlock_100 ?_
      refine tpi (pk_sub (by omega)) ?_
      refine lv_sipush (v := (nI 256)) hx hb dX2_addBlock_101 (by decide) ?_
      refine lv_idiv hx hb dX2_addBlock_104 (by decide) ?_
      refine tpi (pk_div (by omega) (by decide) (by decide)) ?_
      refine lv_sipush (v := (nI 256)) hx hb dX2_addBlock_105 (by decide) ?_
      refine lv_imul hx hb dX2_addBlock_108 ?_
      refine tpi (pk_mul _ _) ?_
      have hFc := va_free (wc := sw cB cI b sz sz (us + 1) mem (va_up ((va_cpy pl pl i (i + 1) (us - i))) i x) (va_up ((va_cpy ln ln i (i + 1) (us - i))) i n)) hD hS hA [0, 1, 2, 3] rfl
      refine va_callv (va_runV (As := [.int (nI (((x + n + 256 - 1) / 256) * 256))]) (rest := []) ⟨hx, hb, hml, hown, hts⟩ (c_X2_changeSize l dC dI cB cI b sz sz (us + 1) mem (va_up ((va_cpy pl pl i (i + 1) (us - i))) i x) (va_up ((va_cpy ln ln i (i + 1) (us - i))) i n) H.size (((x + n + 256 - 1) / 256) * 256) (by omega) (by omega)) (cwV 1 hts gX2_addBlock_X2_changeSize rfl rfl rfl (by decide +kernel) ⟨Nat.le_of_ble_eq_true rfl, Nat.le_of_ble_eq_true rfl⟩) ⟨fun a9 U g9 mk9 q9 => by obtain ⟨q0, q1, qP, qK, qD⟩ := q9; exact ⟨q0, q1, qP, va_K.moved (u := U) (U := U.calling g9 mk9 a9) (Vm.Alike.refl U.vm) qK, qD⟩, va_recv hK hP (ci := 2) (q0 := 0) rfl rfl, fun U hU hW => ⟨rfl, by rw [hU], by rw [hU]; exact hP, va_K.moved hW.alike hK, hD.weaken (fun _ _ _ _ => trivial)⟩⟩ rfl rfl hl.1 rfl (lv_room (Nat.le_of_ble_eq_true rfl)) dX2_addBlock_109 ⟨Nat.zero_le _, Nat.zero_le _⟩) hS (fun q _ h => hFc q h) hFc (fun u t H1 locs ht9 hvm9 hw hB hz9 hk9 hS => ?_)
      obtain ⟨hP1, hK1, hD1⟩ := hB
      rw [ht9] at hP1
      obtain ⟨hP, hD⟩ := va_join (wr := []) (w1 := sw cB cI b (((x + n + 256 - 1) / 256) * 256) sz (us + 1) (csM mem sz (((x + n + 256 - 1) / 256) * 256)) (va_up ((va_cpy pl pl i (i + 1) (us - i))) i x) (va_up ((va_cpy ln ln i (i + 1) (us - i))) i n)) hP hD [0, 1, 2, 3] [] rfl rfl (by decide) (by decide) hk9 hFc hP1 hD1
      generalize H1 = H at hP hS ⊢
      have hP : va_P (dC, dI) vwCl (sw cB cI b (((x + n + 256 - 1) / 256) * 256) sz (us + 1) (csM mem sz (((x + n + 256 - 1) / 256) * 256)) (va_up ((va_cpy pl pl i (i + 1) (us - i))) i x) (va_up ((va_cpy ln ln i (i + 1) (us - i))) i n)) H := hP
      have hD : va_D A (sw cB cI b (((x + n + 256 - 1) / 256) * 256) sz (us + 1) (csM mem sz (((x + n + 256 - 1) / 256) * 256)) (va_up ((va_cpy pl pl i (i + 1) (us - i))) i x) (va_up ((va_cpy ln ln i (i + 1) (us - i))) i n)) := hD
      have e_mem : csM mem sz (((x + n + 256 - 1) / 256) * 256) = mem := by unfold csM; rw [if_neg (by omega)]
      have e_sz : ((x + n + 256 - 1) / 256) * 256 = mkG sz (x + n) := by unfold mkG; rw [if_pos (by omega), show x + n + 256 - 1 = x + n + 255 by omega]
      have e_st : sz = if us = 0 then sz else st := by rw [if_pos (by omega)]
      have e_pl : va_up ((va_cpy pl pl i (i + 1) (us - i))) i x = ins pl i us x := by unfold ins; rw [cpy_shf g1]
      have e_ln : va_up ((va_cpy ln ln i (i + 1) (us - i))) i n = ins ln i us n := by unfold ins; rw [cpy_shf g1]
      have hP : va_P (dC, dI) vwCl (sw cB cI b (mkG sz (x + n)) (if us = 0 then sz else st) (us + 1) mem (ins pl i us x) (ins ln i us n)) H := by rw [← e_mem, ← e_sz, ← e_st, ← e_pl, ← e_ln]; exact hP
      have hD : va_D A (sw cB cI b (mkG sz (x + n)) (if us = 0 then sz else st) (us + 1) mem (ins pl i us x) (ins ln i us n)) := by rw [← e_mem, ← e_sz, ← e_st, ← e_pl, ← e_ln]; exact hD
      exact W.vret hx hb hr (fun t ht hW => ⟨⟨(), rfl, trivial, by rw [ht]; exact hP, va_K.moved hW.alike hK, hD⟩, hS.F ht⟩) hS.2.2 dX2_addBlock_112
set_option maxHeartbeats 4000000 in
set_option maxRecDepth 100000 in
theorem c_X2_removeBlock (l : Launch) (dC : Nat → ClassId) (dI : Nat → Nat → Nat) (cB cI : ClassId) (b : Nat → Nat) (sz st us : Nat) (mem pl ln : Nat → Nat) (zz : Nat) (i : Nat) (g1 : i < us) (g2 : us ≤ 64) (g3 : sz ≤ 8192) (g4 : st ≤ 8192) : Met l yX2_removeBlock wsX2_removeBlock ({ frames := 3, cells := 0, slots := 0, locals := 67 }) (va_Pc [.ref (b 0), .int (nI i)] (fun U => U.heap.size = zz ∧ va_P (dC, dI) vwCl (sw cB cI b sz st us mem pl ln) U.heap ∧ va_K (dC, dI) vwCl [(cI, .int), (cB, .byte)] U ∧ va_D (fun _ => True) (sw cB cI b sz st us mem pl ln))) (va_Qv (fun _ => True) (fun (_ : Unit) t => va_P (dC, dI) vwCl (sw cB cI b (if us - 1 = 0 then st else sz) (if us - 1 = 0 then 0 else st) (us - 1) (if us - 1 = 0 then csM mem sz st else mem) (dlf pl i (us - 1)) (dlf ln i (us - 1))) t.heap ∧ va_K (dC, dI) vwCl [(cI, .int), (cB, .byte)] t ∧ va_D (va_A (sw cB cI b sz st us mem pl ln) zz) (sw cB cI b (if us - 1 = 0 then st else sz) (if us - 1 = 0 then 0 else st) (us - 1) (if us - 1 = 0 then csM mem sz st else mem) (dlf pl i (us - 1)) (dlf ln i (us - 1)))) (va_A (sw cB cI b sz st us mem pl ln) zz)) 0 0 (va_A (sw cB cI b sz st us mem pl ln) zz) := by
  refine Met.ofW (cc := cX2_removeBlock) (maxL := 2) (ret := none) (by decide) rfl ?_
  intro p e s m args below meth c s₁ B hml hv
  obtain ⟨rfl, hsz, hP, hK, hD0⟩ := hv
  have hx := B.exec
  have hb := B.bytes
  have hr := B.returns
  have hts := atoms_spec (ws := wsX2_removeBlock) B.pre
  have hown : s.vm.findClass RX2 = some m.cls := findClass_of_methodNamed B.named
  have hlocks := B.notSynchronized
  subst hsz
  have hD := hD0.self (sz := s.heap.size)
  generalize hAe : va_A (sw cB cI b sz st us mem pl ln) s.heap.size = A at hD ⊢
  have hA : ∀ q : Nat, s.heap.size ≤ q → A q := fun q h => by rw [← hAe]; exact Or.inr h
  have hS : va_S A s.heap s.heap [] := va_S.rf
  have hP : va_P (dC, dI) vwCl (sw cB cI b sz st us mem pl ln) s.heap := hP
  have in_X2 : ∀ w ∈ wsX20, w ∈ wsX2_removeBlock := fun _ h => List.mem_cons_of_mem _ (List.mem_append_right _ (h))
  have lk_1 := hts (.fieldLink RX2 15 "GlulxHeap$State" "places" "[I") (List.mem_of_getElem? (i := 1) rfl)
  have lk_2 := hts (.fieldLink RX2 39 "GlulxHeap$State" "used" "I") (List.mem_of_getElem? (i := 2) rfl)
  have lk_3 := hts (.methodLink RX2 42 arraycopyName) (List.mem_of_getElem? (i := 3) rfl)
  have lk_4 := hts (.native arraycopyName) (List.mem_of_getElem? (i := 4) rfl)
  have lk_5 := hts (.static arraycopyName) (List.mem_of_getElem? (i := 5) rfl)
  have lk_6 := hts (.initialized "java/lang/System") (List.mem_of_getElem? (i := 6) rfl)
  have lk_7 := hts (.fieldLink RX2 19 "GlulxHeap$State" "lengths" "[I") (List.mem_of_getElem? (i := 7) rfl)
  have lk_8 := hts (.fieldLink RX2 36 "GlulxHeap$State" "start" "I") (List.mem_of_getElem? (i := 8) rfl)
  have hl := lv_entry ([.ref (b 0), .int (nI i)]) (n := 2) (Nat.le_of_ble_eq_true rfl)
  rw [lg_entry_eq]
  generalize (lg_sl ([.ref (b 0), .int (nI i)]) ++ List.replicate (2 - (lg_sl ([.ref (b 0), .int (nI i)])).length) Slot.unset).toArray = ls at hl ⊢
  have hl : lv_has ls 2 [(0, .ref (b 0)), (1, .int (nI i))] := hl
  refine lv_aload_n hx hb dX2_removeBlock_0 rfl (lv_at hl 0 rfl) ?_
  refine va_get (D := (dC, dI)) (ci := 2) (v := .ref (b 2)) (C := RX2) (T := TX2) (N := 6) hx hb hts in_X2 hown hK hP 0 rfl rfl 1 (by decide) lk_1 (fun _ h9 => h9) rfl dX2_removeBlock_1 ?_
  refine lv_iload_n hx hb dX2_removeBlock_4 rfl (lv_at hl 1 rfl) ?_
  refine lv_iconst (v := (nI 1)) hx hb dX2_removeBlock_5 (by decide) ?_
  refine lv_iadd hx hb dX2_removeBlock_6 ?_
  refine tpi (nI_add _ _) ?_
  refine lv_aload_n hx hb dX2_removeBlock_7 rfl (lv_at hl 0 rfl) ?_
  refine va_get (D := (dC, dI)) (ci := 2) (v := .ref (b 2)) (C := RX2) (T := TX2) (N := 6) hx hb hts in_X2 hown hK hP 0 rfl rfl 1 (by decide) lk_1 (fun _ h9 => h9) rfl dX2_removeBlock_8 ?_
  refine lv_iload_n hx hb dX2_removeBlock_11 rfl (lv_at hl 1 rfl) ?_
  refine lv_aload_n hx hb dX2_removeBlock_12 rfl (lv_at hl 0 rfl) ?_
  refine va_get (D := (dC, dI)) (ci := 2) (v := .int (nI us)) (C := RX2) (T := TX2) (N := 6) hx hb hts in_X2 hown hK hP 0 rfl rfl 5 (by decide) lk_2 (fun _ h9 => h9) rfl dX2_removeBlock_13 ?_
  refine lv_iload_n hx hb dX2_removeBlock_16 rfl (lv_at hl 1 rfl) ?_
  refine lv_isub hx hb dX2_removeBlock_17 ?_
  refine tpi (pk_sub (by omega)) ?_
  refine lv_iconst (v := (nI 1)) hx hb dX2_removeBlock_18 (by decide) ?_
  refine lv_isub hx hb dX2_removeBlock_19 ?_
  refine tpi (pk_sub (by omega)) ?_
  refine va_copyi hx hb (by rw [hml]; exact hl.1.symm) hown lk_3 lk_4 lk_5 lk_6 hK hP hD hS 2 2 0 0 rfl rfl rfl rfl rfl (nI_pos (by omega)) (nI_pos (by omega)) (nI_pos (by omega)) (by rw [nI_clamp (by omega), nI_clamp (by omega)]; omega) (by rw [nI_clamp (by omega), nI_clamp (by omega)]; omega) (fun _ _ => rfl) (Nat.le_of_ble_eq_true rfl) (Nat.le_of_ble_eq_true rfl) dX2_removeBlock_20 (fun H locs hP hD hS => ?_)
  rw [cpy_nf (by omega) (by omega) (by omega)] at hP hD
  have hP : va_P (dC, dI) vwCl (sw cB cI b sz st us mem (va_cpy pl pl (i + 1) i (us - i - 1)) ln) H := hP
  have hD : va_D A (sw cB cI b sz st us mem (va_cpy pl pl (i + 1) i (us - i - 1)) ln) := hD
  refine lv_aload_n hx hb dX2_removeBlock_23 rfl (lv_at hl 0 rfl) ?_
  refine va_get (D := (dC, dI)) (ci := 2) (v := .ref (b 3)) (C := RX2) (T := TX2) (N := 6) hx hb hts in_X2 hown hK hP 0 rfl rfl 2 (by decide) lk_7 (fun _ h9 => h9) rfl dX2_removeBlock_24 ?_
  refine lv_iload_n hx hb dX2_removeBlock_27 rfl (lv_at hl 1 rfl) ?_
  refine lv_iconst (v := (nI 1)) hx hb dX2_removeBlock_28 (by decide) ?_
  refine lv_iadd hx hb dX2_removeBlock_29 ?_
  refine tpi (nI_add _ _) ?_
  refine lv_aload_n hx hb dX2_removeBlock_30 rfl (lv_at hl 0 rfl) ?_
  refine va_get (D := (dC, dI)) (ci := 2) (v := .ref (b 3)) (C := RX2) (T := TX2) (N := 6) hx hb hts in_X2 hown hK hP 0 rfl rfl 2 (by decide) lk_7 (fun _ h9 => h9) rfl dX2_removeBlock_31 ?_
  refine lv_iload_n hx hb dX2_removeBlock_34 rfl (lv_at hl 1 rfl) ?_
  refine lv_aload_n hx hb dX2_removeBlock_35 rfl (lv_at hl 0 rfl) ?_
  refine va_get (D := (dC, dI)) (ci := 2) (v := .int (nI us)) (C := RX2) (T := TX2) (N := 6) hx hb hts in_X2 hown hK hP 0 rfl rfl 5 (by decide) lk_2 (fun _ h9 => h9) rfl dX2_removeBlock_36 ?_
  refine lv_iload_n hx hb dX2_removeBlock_39 rfl (lv_at hl 1 rfl) ?_
  refine lv_isub hx hb dX2_removeBlock_40 ?_
  refine tpi (pk_sub (by omega)) ?_
  refine lv_iconst (v := (nI 1)) hx hb dX2_removeBlock_41 (by decide) ?_
  refine lv_isub hx hb dX2_removeBlock_42 ?_
  refine tpi (pk_sub (by omega)) ?_
  refine va_copyi hx hb (by rw [hml]; exact hl.1.symm) hown lk_3 lk_4 lk_5 lk_6 hK hP hD hS 3 3 0 0 rfl rfl rfl rfl rfl (nI_pos (by omega)) (nI_pos (by omega)) (nI_pos (by omega)) (by rw [nI_clamp (by omega), nI_clamp (by omega)]; omega) (by rw [nI_clamp (by omega), nI_clamp (by omega)]; omega) (fun _ _ => rfl) (Nat.le_of_ble_eq_true rfl) (Nat.le_of_ble_eq_true rfl) dX2_removeBlock_43 (fun H locs hP hD hS => ?_)
  rw [cpy_nf (by omega) (by omega) (by omega)] at hP hD
  have hP : va_P (dC, dI) vwCl (sw cB cI b sz st us mem (va_cpy pl pl (i + 1) i (us - i - 1)) (va_cpy ln ln (i + 1) i (us - i - 1))) H := hP
  have hD : va_D A (sw cB cI b sz st us mem (va_cpy pl pl (i + 1) i (us - i - 1)) (va_cpy ln ln (i + 1) i (us - i - 1))) := hD
  refine lv_aload_n hx hb dX2_removeBlock_46 rfl (lv_at hl 0 rfl) ?_
  refine lv_dup hx hb dX2_removeBlock_47 rfl ?_
  refine va_get (D := (dC, dI)) (ci := 2) (v := .int (nI us)) (C := RX2) (T := TX2) (N := 6) hx hb hts in_X2 hown hK hP 0 rfl rfl 5 (by decide) lk_2 (fun _ h9 => h9) rfl dX2_removeBlock_48 ?_
  refine lv_iconst (v := (nI 1)) hx hb dX2_removeBlock_51 (by decide) ?_
  refine lv_isub hx hb dX2_removeBlock_52 ?_
  refine tpi (pk_sub (by omega)) ?_
  refine va_put (D := (dC, dI)) (ci := 2) (v := .int (nI (us - 1))) (ty := .int) (C := RX2) (T := TX2) (N := 6) hx hb hts in_X2 tyX2 tyX2_ok nmX2 hown hK hP hD hS 0 rfl rfl 5 (by decide) lk_2 (fun _ h9 => h9) rfl (by decide +kernel) rfl rfl (Nat.le_of_ble_eq_true rfl) dX2_removeBlock_53 (fun H locs hP hD hS => ?_)
  have hP : va_P (dC, dI) vwCl (sw cB cI b sz st (us - 1) mem (va_cpy pl pl (i + 1) i (us - i - 1)) (va_cpy ln ln (i + 1) i (us - i - 1))) H := hP
  have hD : va_D A (sw cB cI b sz st (us - 1) mem (va_cpy pl pl (i + 1) i (us - i - 1)) (va_cpy ln ln (i + 1) i (us - i - 1))) := hD
  refine lv_aload_n hx hb dX2_removeBlock_56 rfl (lv_at hl 0 rfl) ?_
  refine va_get (D := (dC, dI)) (ci := 2) (v := .int (nI (us - 1))) (C := RX2) (T := TX2) (N := 6) hx hb hts in_X2 hown hK hP 0 rfl rfl 5 (by decide) lk_2 (fun _ h9 => h9) rfl dX2_removeBlock_57 ?_
  refine lv_if_ne (tgt := 76) hx hb dX2_removeBlock_60 (by decide) (fun c_60 => ?_) (fun c_60 => ?_)
  · have c_60 : ¬ us - 1 = 0 := fun q => c_60 ((nZ_eq (by omega)).mpr q)
    have e_sz : sz = if us - 1 = 0 then st else sz := by rw [if_neg (by omega)]
    have e_mem : mem = if us - 1 = 0 then csM mem sz st else mem := by rw [if_neg (by omega)]
    have e_st : st = if us - 1 = 0 then 0 else st := by rw [if_neg (by omega)]
    have e_pl : va_cpy pl pl (i + 1) i (us - i - 1) = dlf pl i (us - 1) := cpy_dlf g1
    have e_ln : va_cpy ln ln (i + 1) i (us - i - 1) = dlf ln i (us - 1) := cpy_dlf g1
    have hP : va_P (dC, dI) vwCl (sw cB cI b (if us - 1 = 0 then st else sz) (if us - 1 = 0 then 0 else st) (us - 1) (if us - 1 = 0 then csM mem sz st else mem) (dlf pl i (us - 1)) (dlf ln i (us - 1))) H := by rw [← e_sz, ← e_mem, ← e_st, ← e_pl, ← e_ln]; exact hP
    have hD : va_D A (sw cB cI b (if us - 1 = 0 then st else sz) (if us - 1 = 0 then 0 else st) (us - 1) (if us - 1 = 0 then csM mem sz st else mem) (dlf pl i (us - 1)) (dlf ln i (us - 1))) := by rw [← e_sz, ← e_mem, ← e_st, ← e_pl, ← e_ln]; exact hD
    exact W.vret hx hb hr (fun t ht hW => ⟨⟨(), rfl, trivial, by rw [ht]; exact hP, va_K.moved hW.alike hK, hD⟩, hS.F ht⟩) hS.2.2 dX2_removeBlock_76
  · have c_60 : us - 1 = 0 := (nZ_eq (by omega)).mp c_60
    refine lv_aload_n hx hb dX2_removeBlock_63 rfl (lv_at hl 0 rfl) ?_
    refine lv_aload_n hx hb dX2_removeBlock_64 rfl (lv_at hl 0 rfl) ?_
    refine va_get (D := (dC, dI)) (ci := 2) (v := .int (nI st)) (C := RX2) (T := TX2) (N := 6) hx hb hts in_X2 hown hK hP 0 rfl rfl 4 (by decide) lk_8 (fun _ h9 => h9) rfl dX2_removeBlock_65 ?_
    have hFc := va_free (wc := sw cB cI b sz st (us - 1) mem (va_cpy pl pl (i + 1) i (us - i - 1)) (va_cpy ln ln (i + 1) i (us - i - 1))) hD hS hA [0, 1, 2, 3] rfl
    refine va_callv (va_runV (As := [.int (nI st)]) (rest := []) ⟨hx, hb, hml, hown, hts⟩ (c_X2_changeSize l dC dI cB cI b sz st (us - 1) mem (va_cpy pl pl (i + 1) i (us - i - 1)) (va_cpy ln ln (i + 1) i (us - i - 1)) H.size st (by omega) (by omega)) (cwV 1 hts gX2_removeBlock_X2_changeSize rfl rfl rfl (by decide +kernel) ⟨Nat.le_of_ble_eq_true rfl, Nat.le_of_ble_eq_true rfl⟩) ⟨fun a9 U g9 mk9 q9 => by obtain ⟨q0, q1, qP, qK, qD⟩ := q9; exact ⟨q0, q1, qP, va_K.moved (u := U) (U := U.calling g9 mk9 a9) (Vm.Alike.refl U.vm) qK, qD⟩, va_recv hK hP (ci := 2) (q0 := 0) rfl rfl, fun U hU hW => ⟨rfl, by rw [hU], by rw [hU]; exact hP, va_K.moved hW.alike hK, hD.weaken (fun _ _ _ _ => trivial)⟩⟩ rfl rfl hl.1 rfl (lv_room (Nat.le_of_ble_eq_true rfl)) dX2_removeBlock_68 ⟨Nat.zero_le _, Nat.zero_le _⟩) hS (fun q _ h => hFc q h) hFc (fun u t H1 locs ht9 hvm9 hw hB hz9 hk9 hS => ?_)
    obtain ⟨hP1, hK1, hD1⟩ := hB
    rw [ht9] at hP1
    obtain ⟨hP, hD⟩ := va_join (wr := []) (w1 := sw cB cI b st st (us - 1) (csM mem sz st) (va_cpy pl pl (i + 1) i (us - i - 1)) (va_cpy ln ln (i + 1) i (us - i - 1))) hP hD [0, 1, 2, 3] [] rfl rfl (by decide) (by decide) hk9 hFc hP1 hD1
    generalize H1 = H at hP hS ⊢
    have hP : va_P (dC, dI) vwCl (sw cB cI b st st (us - 1) (csM mem sz st) (va_cpy pl pl (i + 1) i (us - i - 1)) (va_cpy ln ln (i + 1) i (us - i - 1))) H := hP
    have hD : va_D A (sw cB cI b st st (us - 1) (csM mem sz st) (va_cpy pl pl (i + 1) i (us - i - 1)) (va_cpy ln ln (i + 1) i (us - i - 1))) := hD
    refine lv_aload_n hx hb dX2_removeBlock_71 rfl (lv_at hl 0 rfl) ?_
    refine lv_iconst (v := (nI 0)) hx hb dX2_removeBlock_72 (by decide) ?_
    refine va_put (D := (dC, dI)) (ci := 2) (v := .int (nI 0)) (ty := .int) (C := RX2) (T := TX2) (N := 6) hx hb hts in_X2 tyX2 tyX2_ok nmX2 hown hK hP hD hS 0 rfl rfl 4 (by decide) lk_8 (fun _ h9 => h9) rfl (by decide +kernel) rfl rfl (Nat.le_of_ble_eq_true rfl) dX2_removeBlock_73 (fun H locs hP hD hS => ?_)
    have hP : va_P (dC, dI) vwCl (sw cB cI b st 0 (us - 1) (csM mem sz st) (va_cpy pl pl (i + 1) i (us - i - 1)) (va_cpy ln ln (i + 1) i (us - i - 1))) H := hP
    have hD : va_D A (sw cB cI b st 0 (us - 1) (csM mem sz st) (va_cpy pl pl (i + 1) i (us - i - 1)) (va_cpy ln ln (i + 1) i (us - i - 1))) := hD
    have e_sz : st = if us - 1 = 0 then st else sz := by rw [if_pos (by omega)]
    have e_mem : csM mem sz st = if us - 1 = 0 then csM mem sz st else mem := by rw [if_pos (by omega)]
    have e_st : 0 = if us - 1 = 0 then 0 else st := by rw [if_pos (by omega)]
    have e_pl : va_cpy pl pl (i + 1) i (us - i - 1) = dlf pl i (us - 1) := cpy_dlf g1
    have e_ln : va_cpy ln ln (i + 1) i (us - i - 1) = dlf ln i (us - 1) := cpy_dlf g1
    have hP : va_P (dC, dI) vwCl (sw cB cI b (if us - 1 = 0 then st else sz) (if us - 1 = 0 then 0 else st) (us - 1) (if us - 1 = 0 then csM mem sz st else mem) (dlf pl i (us - 1)) (dlf ln i (us - 1))) H := by rw [← e_sz, ← e_mem, ← e_st, ← e_pl, ← e_ln]; exact hP
    have hD : va_D A (sw cB cI b (if us - 1 = 0 then st else sz) (if us - 1 = 0 then 0 else st) (us - 1) (if us - 1 = 0 then csM mem sz st else mem) (dlf pl i (us - 1)) (dlf ln i (us - 1))) := by rw [← e_sz, ← e_mem, ← e_st, ← e_pl, ← e_ln]; exact hD
    exact W.vret hx hb hr (fun t ht hW => ⟨⟨(), rfl, trivial, by rw [ht]; exact hP, va_K.moved hW.alike hK, hD⟩, hS.F ht⟩) hS.2.2 dX2_removeBlock_76
set_option maxHeartbeats 4000000 in
set_option maxRecDepth 100000 in
theorem c_X2_become (l : Launch) (dC : Nat → ClassId) (dI : Nat → Nat → Nat) (cB cI : ClassId) (b d : Nat → Nat) (sz st us : Nat) (mem pl ln : Nat → Nat) (sz2 st2 us2 : Nat) (mem2 pl2 ln2 : Nat → Nat) (zz : Nat)   : Met l yX2_become wsX2_become ({ frames := 1, cells := 0, slots := 0, locals := 40 }) (va_Pc [.ref (b 0), .ref (d 0)] (fun U => U.heap.size = zz ∧ va_P (dC, dI) vwCl (sw2 cB cI b d sz st us mem pl ln sz2 st2 us2 mem2 pl2 ln2) U.heap ∧ va_K (dC, dI) vwCl [(cI, .int), (cB, .byte)] U ∧ va_D (fun _ => True) (sw2 cB cI b d sz st us mem pl ln sz2 st2 us2 mem2 pl2 ln2))) (va_Qv (fun _ => True) (fun (_ : Unit) t => va_P (dC, dI) vwCl (sw2 cB cI b d sz2 st2 us2 (va_cpy mem2 mem 0 0 8192) (va_cpy pl2 pl 0 0 64) (va_cpy ln2 ln 0 0 64) sz2 st2 us2 mem2 pl2 ln2) t.heap ∧ va_K (dC, dI) vwCl [(cI, .int), (cB, .byte)] t ∧ va_D (va_A (sw2 cB cI b d sz st us mem pl ln sz2 st2 us2 mem2 pl2 ln2) zz) (sw2 cB cI b d sz2 st2 us2 (va_cpy mem2 mem 0 0 8192) (va_cpy pl2 pl 0 0 64) (va_cpy ln2 ln 0 0 64) sz2 st2 us2 mem2 pl2 ln2)) (va_A (sw2 cB cI b d sz st us mem pl ln sz2 st2 us2 mem2 pl2 ln2) zz)) 0 0 (va_A (sw2 cB cI b d sz st us mem pl ln sz2 st2 us2 mem2 pl2 ln2) zz) := by
  refine Met.ofW (cc := cX2_become) (maxL := 2) (ret := none) (by decide) rfl ?_
  intro p e s m args below meth c s₁ B hml hv
  obtain ⟨rfl, hsz, hP, hK, hD0⟩ := hv
  have hx := B.exec
  have hb := B.bytes
  have hr := B.returns
  have hts := atoms_spec (ws := wsX2_become) B.pre
  have hown : s.vm.findClass RX2 = some m.cls := findClass_of_methodNamed B.named
  have hlocks := B.notSynchronized
  subst hsz
  have hD := hD0.self (sz := s.heap.size)
  generalize hAe : va_A (sw2 cB cI b d sz st us mem pl ln sz2 st2 us2 mem2 pl2 ln2) s.heap.size = A at hD ⊢
  have hA : ∀ q : Nat, s.heap.size ≤ q → A q := fun q h => by rw [← hAe]; exact Or.inr h
  have hS : va_S A s.heap s.heap [] := va_S.rf
  have hP : va_P (dC, dI) vwCl (sw2 cB cI b d sz st us mem pl ln sz2 st2 us2 mem2 pl2 ln2) s.heap := hP
  have in_X2 : ∀ w ∈ wsX20, w ∈ wsX2_become := fun _ h => List.mem_cons_of_mem _ (List.mem_append_right _ (h))
  have lk_1 := hts (.fieldLink RX2 9 "GlulxHeap$State" "bytes" "[B") (List.mem_of_getElem? (i := 1) rfl)
  have lk_2 := hts (.methodLink RX2 42 arraycopyName) (List.mem_of_getElem? (i := 2) rfl)
  have lk_3 := hts (.native arraycopyName) (List.mem_of_getElem? (i := 3) rfl)
  have lk_4 := hts (.static arraycopyName) (List.mem_of_getElem? (i := 4) rfl)
  have lk_5 := hts (.initialized "java/lang/System") (List.mem_of_getElem? (i := 5) rfl)
  have lk_6 := hts (.fieldLink RX2 15 "GlulxHeap$State" "places" "[I") (List.mem_of_getElem? (i := 6) rfl)
  have lk_7 := hts (.fieldLink RX2 19 "GlulxHeap$State" "lengths" "[I") (List.mem_of_getElem? (i := 7) rfl)
  have lk_8 := hts (.fieldLink RX2 32 "GlulxHeap$State" "size" "I") (List.mem_of_getElem? (i := 8) rfl)
  have lk_9 := hts (.fieldLink RX2 36 "GlulxHeap$State" "start" "I") (List.mem_of_getElem? (i := 9) rfl)
  have lk_10 := hts (.fieldLink RX2 39 "GlulxHeap$State" "used" "I") (List.mem_of_getElem? (i := 10) rfl)
  have hl := lv_entry ([.ref (b 0), .ref (d 0)]) (n := 2) (Nat.le_of_ble_eq_true rfl)
  rw [lg_entry_eq]
  generalize (lg_sl ([.ref (b 0), .ref (d 0)]) ++ List.replicate (2 - (lg_sl ([.ref (b 0), .ref (d 0)])).length) Slot.unset).toArray = ls at hl ⊢
  have hl : lv_has ls 2 [(0, .ref (b 0)), (1, .ref (d 0))] := hl
  refine lv_aload_n hx hb dX2_become_0 rfl (lv_at hl 1 rfl) ?_
  refine va_get (D := (dC, dI)) (ci := 2) (v := .ref (d 1)) (C := RX2) (T := TX2) (N := 6) hx hb hts in_X2 hown hK hP 4 rfl rfl 0 (by decide) lk_1 (fun _ h9 => h9) rfl dX2_become_1 ?_
  refine lv_iconst (v := (nI 0)) hx hb dX2_become_4 (by decide) ?_
  refine lv_aload_n hx hb dX2_become_5 rfl (lv_at hl 0 rfl) ?_
  refine va_get (D := (dC, dI)) (ci := 2) (v := .ref (b 1)) (C := RX2) (T := TX2) (N := 6) hx hb hts in_X2 hown hK hP 0 rfl rfl 0 (by decide) lk_1 (fun _ h9 => h9) rfl dX2_become_6 ?_
  refine lv_iconst (v := (nI 0)) hx hb dX2_become_9 (by decide) ?_
  refine lv_sipush (v := (nI 8192)) hx hb dX2_become_10 (by decide) ?_
  refine va_copyi hx hb (by rw [hml]; exact hl.1.symm) hown lk_2 lk_3 lk_4 lk_5 hK hP hD hS 5 1 1 1 rfl rfl rfl rfl rfl (nI_pos (by omega)) (nI_pos (by omega)) (nI_pos (by omega)) (by rw [nI_clamp (by omega), nI_clamp (by omega)]; omega) (by rw [nI_clamp (by omega), nI_clamp (by omega)]; omega) (fun _ _ => sb_fitB _) (Nat.le_of_ble_eq_true rfl) (Nat.le_of_ble_eq_true rfl) dX2_become_13 (fun H locs hP hD hS => ?_)
  rw [cpy_bf (by omega) (by omega) (by omega)] at hP hD
  have hP : va_P (dC, dI) vwCl (sw2 cB cI b d sz st us (va_cpy mem2 mem 0 0 8192) pl ln sz2 st2 us2 mem2 pl2 ln2) H := hP
  have hD : va_D A (sw2 cB cI b d sz st us (va_cpy mem2 mem 0 0 8192) pl ln sz2 st2 us2 mem2 pl2 ln2) := hD
  refine lv_aload_n hx hb dX2_become_16 rfl (lv_at hl 1 rfl) ?_
  refine va_get (D := (dC, dI)) (ci := 2) (v := .ref (d 2)) (C := RX2) (T := TX2) (N := 6) hx hb hts in_X2 hown hK hP 4 rfl rfl 1 (by decide) lk_6 (fun _ h9 => h9) rfl dX2_become_17 ?_
  refine lv_iconst (v := (nI 0)) hx hb dX2_become_20 (by decide) ?_
  refine lv_aload_n hx hb dX2_become_21 rfl (lv_at hl 0 rfl) ?_
  refine va_get (D := (dC, dI)) (ci := 2) (v := .ref (b 2)) (C := RX2) (T := TX2) (N := 6) hx hb hts in_X2 hown hK hP 0 rfl rfl 1 (by decide) lk_6 (fun _ h9 => h9) rfl dX2_become_22 ?_
  refine lv_iconst (v := (nI 0)) hx hb dX2_become_25 (by decide) ?_
  refine lv_bipush (v := (nI 64)) hx hb dX2_become_26 (by decide) ?_
  refine va_copyi hx hb (by rw [hml]; exact hl.1.symm) hown lk_2 lk_3 lk_4 lk_5 hK hP hD hS 6 2 0 0 rfl rfl rfl rfl rfl (nI_pos (by omega)) (nI_pos (by omega)) (nI_pos (by omega)) (by rw [nI_clamp (by omega), nI_clamp (by omega)]; omega) (by rw [nI_clamp (by omega), nI_clamp (by omega)]; omega) (fun _ _ => rfl) (Nat.le_of_ble_eq_true rfl) (Nat.le_of_ble_eq_true rfl) dX2_become_28 (fun H locs hP hD hS => ?_)
  rw [cpy_nf (by omega) (by omega) (by omega)] at hP hD
  have hP : va_P (dC, dI) vwCl (sw2 cB cI b d sz st us (va_cpy mem2 mem 0 0 8192) (va_cpy pl2 pl 0 0 64) ln sz2 st2 us2 mem2 pl2 ln2) H := hP
  have hD : va_D A (sw2 cB cI b d sz st us (va_cpy mem2 mem 0 0 8192) (va_cpy pl2 pl 0 0 64) ln sz2 st2 us2 mem2 pl2 ln2) := hD
  refine lv_aload_n hx hb dX2_become_31 rfl (lv_at hl 1 rfl) ?_
  refine va_get (D := (dC, dI)) (ci := 2) (v := .ref (d 3)) (C := RX2) (T := TX2) (N := 6) hx hb hts in_X2 hown hK hP 4 rfl rfl 2 (by decide) lk_7 (fun _ h9 => h9) rfl dX2_become_32 ?_
  refine lv_iconst (v := (nI 0)) hx hb dX2_become_35 (by decide) ?_
  refine lv_aload_n hx hb dX2_become_36 rfl (lv_at hl 0 rfl) ?_
  refine va_get (D := (dC, dI)) (ci := 2) (v := .ref (b 3)) (C := RX2) (T := TX2) (N := 6) hx hb hts in_X2 hown hK hP 0 rfl rfl 2 (by decide) lk_7 (fun _ h9 => h9) rfl dX2_become_37 ?_
  refine lv_iconst (v := (nI 0)) hx hb dX2_become_40 (by decide) ?_
  refine lv_bipush (v := (nI 64)) hx hb dX2_become_41 (by decide) ?_
  refine va_copyi hx hb (by rw [hml]; exact hl.1.symm) hown lk_2 lk_3 lk_4 lk_5 hK hP hD hS 7 3 0 0 rfl rfl rfl rfl rfl (nI_pos (by omega)) (nI_pos (by omega)) (nI_pos (by omega)) (by rw [nI_clamp (by omega), nI_clamp (by omega)]; omega) (by rw [nI_clamp (by omega), nI_clamp (by omega)]; omega) (fun _ _ => rfl) (Nat.le_of_ble_eq_true rfl) (Nat.le_of_ble_eq_true rfl) dX2_become_43 (fun H locs hP hD hS => ?_)
  rw [cpy_nf (by omega) (by omega) (by omega)] at hP hD
  have hP : va_P (dC, dI) vwCl (sw2 cB cI b d sz st us (va_cpy mem2 mem 0 0 8192) (va_cpy pl2 pl 0 0 64) (va_cpy ln2 ln 0 0 64) sz2 st2 us2 mem2 pl2 ln2) H := hP
  have hD : va_D A (sw2 cB cI b d sz st us (va_cpy mem2 mem 0 0 8192) (va_cpy pl2 pl 0 0 64) (va_cpy ln2 ln 0 0 64) sz2 st2 us2 mem2 pl2 ln2) := hD
  refine lv_aload_n hx hb dX2_become_46 rfl (lv_at hl 0 rfl) ?_
  refine lv_aload_n hx hb dX2_become_47 rfl (lv_at hl 1 rfl) ?_
  refine va_get (D := (dC, dI)) (ci := 2) (v := .int (nI sz2)) (C := RX2) (T := TX2) (N := 6) hx hb hts in_X2 hown hK hP 4 rfl rfl 3 (by decide) lk_8 (fun _ h9 => h9) rfl dX2_become_48 ?_
  refine va_put (D := (dC, dI)) (ci := 2) (v := .int (nI sz2)) (ty := .int) (C := RX2) (T := TX2) (N := 6) hx hb hts in_X2 tyX2 tyX2_ok nmX2 hown hK hP hD hS 0 rfl rfl 3 (by decide) lk_8 (fun _ h9 => h9) rfl (by decide +kernel) rfl rfl (Nat.le_of_ble_eq_true rfl) dX2_become_51 (fun H locs hP hD hS => ?_)
  have hP : va_P (dC, dI) vwCl (sw2 cB cI b d sz2 st us (va_cpy mem2 mem 0 0 8192) (va_cpy pl2 pl 0 0 64) (va_cpy ln2 ln 0 0 64) sz2 st2 us2 mem2 pl2 ln2) H := hP
  have hD : va_D A (sw2 cB cI b d sz2 st us (va_cpy mem2 mem 0 0 8192) (va_cpy pl2 pl 0 0 64) (va_cpy ln2 ln 0 0 64) sz2 st2 us2 mem2 pl2 ln2) := hD
  refine lv_aload_n hx hb dX2_become_54 rfl (lv_at hl 0 rfl) ?_
  refine lv_aload_n hx hb dX2_become_55 rfl (lv_at hl 1 rfl) ?_
  refine va_get (D := (dC, dI)) (ci := 2) (v := .int (nI st2)) (C := RX2) (T := TX2) (N := 6) hx hb hts in_X2 hown hK hP 4 rfl rfl 4 (by decide) lk_9 (fun _ h9 => h9) rfl dX2_become_56 ?_
  refine va_put (D := (dC, dI)) (ci := 2) (v := .int (nI st2)) (ty := .int) (C := RX2) (T := TX2) (N := 6) hx hb hts in_X2 tyX2 tyX2_ok nmX2 hown hK hP hD hS 0 rfl rfl 4 (by decide) lk_9 (fun _ h9 => h9) rfl (by decide +kernel) rfl rfl (Nat.le_of_ble_eq_true rfl) dX2_become_59 (fun H locs hP hD hS => ?_)
  have hP : va_P (dC, dI) vwCl (sw2 cB cI b d sz2 st2 us (va_cpy mem2 mem 0 0 8192) (va_cpy pl2 pl 0 0 64) (va_cpy ln2 ln 0 0 64) sz2 st2 us2 mem2 pl2 ln2) H := hP
  have hD : va_D A (sw2 cB cI b d sz2 st2 us (va_cpy mem2 mem 0 0 8192) (va_cpy pl2 pl 0 0 64) (va_cpy ln2 ln 0 0 64) sz2 st2 us2 mem2 pl2 ln2) := hD
  refine lv_aload_n hx hb dX2_become_62 rfl (lv_at hl 0 rfl) ?_
  refine lv_aload_n hx hb dX2_become_63 rfl (lv_at hl 1 rfl) ?_
  refine va_get (D := (dC, dI)) (ci := 2) (v := .int (nI us2)) (C := RX2) (T := TX2) (N := 6) hx hb hts in_X2 hown hK hP 4 rfl rfl 5 (by decide) lk_10 (fun _ h9 => h9) rfl dX2_become_64 ?_
  refine va_put (D := (dC, dI)) (ci := 2) (v := .int (nI us2)) (ty := .int) (C := RX2) (T := TX2) (N := 6) hx hb hts in_X2 tyX2 tyX2_ok nmX2 hown hK hP hD hS 0 rfl rfl 5 (by decide) lk_10 (fun _ h9 => h9) rfl (by decide +kernel) rfl rfl (Nat.le_of_ble_eq_true rfl) dX2_become_67 (fun H locs hP hD hS => ?_)
  have hP : va_P (dC, dI) vwCl (sw2 cB cI b d sz2 st2 us2 (va_cpy mem2 mem 0 0 8192) (va_cpy pl2 pl 0 0 64) (va_cpy ln2 ln 0 0 64) sz2 st2 us2 mem2 pl2 ln2) H := hP
  have hD : va_D A (sw2 cB cI b d sz2 st2 us2 (va_cpy mem2 mem 0 0 8192) (va_cpy pl2 pl 0 0 64) (va_cpy ln2 ln 0 0 64) sz2 st2 us2 mem2 pl2 ln2) := hD
  have hP : va_P (dC, dI) vwCl (sw2 cB cI b d sz2 st2 us2 (va_cpy mem2 mem 0 0 8192) (va_cpy pl2 pl 0 0 64) (va_cpy ln2 ln 0 0 64) sz2 st2 us2 mem2 pl2 ln2) H := hP
  have hD : va_D A (sw2 cB cI b d sz2 st2 us2 (va_cpy mem2 mem 0 0 8192) (va_cpy pl2 pl 0 0 64) (va_cpy ln2 ln 0 0 64) sz2 st2 us2 mem2 pl2 ln2) := hD
  exact W.vret hx hb hr (fun t ht hW => ⟨⟨(), rfl, trivial, by rw [ht]; exact hP, va_K.moved hW.alike hK, hD⟩, hS.F ht⟩) hS.2.2 dX2_become_70
set_option maxHeartbeats 4000000 in
set_option maxRecDepth 100000 in
theorem c_X2_isLike (l : Launch) (dC : Nat → ClassId) (dI : Nat → Nat → Nat) (cB cI : ClassId) (b d : Nat → Nat) (sz st us : Nat) (mem pl ln : Nat → Nat) (sz2 st2 us2 : Nat) (mem2 pl2 ln2 : Nat → Nat)  (g3 : sz ≤ 8192) (g5 : us ≤ 64) (g6 : st < 2 ^ 31) (h3 : sz2 ≤ 8192) (h5 : us2 ≤ 64) (h6 : st2 < 2 ^ 31) (bmem : ∀ j, mem j < 256) (bpl : ∀ j, pl j < 2 ^ 31) (bln : ∀ j, ln j < 2 ^ 31) (bmem2 : ∀ j, mem2 j < 256) (bpl2 : ∀ j, pl2 j < 2 ^ 31) (bln2 : ∀ j, ln2 j < 2 ^ 31) : Met l yX2_isLike wsX2_isLike ({ frames := 0, cells := 0, slots := 0, locals := 0 }) (va_Pc [.ref (b 0), .ref (d 0)] (fun U => va_P (dC, dI) vwCl (sw2 cB cI b d sz st us mem pl ln sz2 st2 us2 mem2 pl2 ln2) U.heap ∧ va_K (dC, dI) vwCl [(cI, .int), (cB, .byte)] U)) (vp_Si (fun r => ((slk sz st us mem pl ln sz2 st2 us2 mem2 pl2 ln2) ∧ r = nI 1) ∨ (¬ (slk sz st us mem pl ln sz2 st2 us2 mem2 pl2 ln2) ∧ r = nI 0))) 0 0 (fun _ => False) := by
  refine Met.ofW (cc := cX2_isLike) (maxL := 3) (ret := (some .boolean)) (by decide) rfl ?_
  intro p e s m args below meth c s₁ B hml hv
  obtain ⟨rfl, hP, hK⟩ := hv
  have hx := B.exec
  have hb := B.bytes
  have hr := B.returns
  have hts := atoms_spec (ws := wsX2_isLike) B.pre
  have hown : s.vm.findClass RX2 = some m.cls := findClass_of_methodNamed B.named
  have hlocks := B.notSynchronized
  have in_X2 : ∀ w ∈ wsX20, w ∈ wsX2_isLike := fun _ h => List.mem_cons_of_mem _ (List.mem_append_right _ (h))
  have lk_1 := hts (.fieldLink RX2 32 "GlulxHeap$State" "size" "I") (List.mem_of_getElem? (i := 1) rfl)
  have lk_2 := hts (.fieldLink RX2 36 "GlulxHeap$State" "start" "I") (List.mem_of_getElem? (i := 2) rfl)
  have lk_3 := hts (.fieldLink RX2 39 "GlulxHeap$State" "used" "I") (List.mem_of_getElem? (i := 3) rfl)
  have lk_4 := hts (.fieldLink RX2 15 "GlulxHeap$State" "places" "[I") (List.mem_of_getElem? (i := 4) rfl)
  have lk_5 := hts (.fieldLink RX2 19 "GlulxHeap$State" "lengths" "[I") (List.mem_of_getElem? (i := 5) rfl)
  have lk_6 := hts (.fieldLink RX2 9 "GlulxHeap$State" "bytes" "[B") (List.mem_of_getElem? (i := 6) rfl)
  have hl := lv_entry ([.ref (b 0), .ref (d 0)]) (n := 3) (Nat.le_of_ble_eq_true rfl)
  rw [lg_entry_eq]
  generalize (lg_sl ([.ref (b 0), .ref (d 0)]) ++ List.replicate (3 - (lg_sl ([.ref (b 0), .ref (d 0)])).length) Slot.unset).toArray = ls at hl ⊢
  have hl : lv_has ls 3 [(0, .ref (b 0)), (1, .ref (d 0))] := hl
  refine lv_aload_n hx hb dX2_isLike_0 rfl (lv_at hl 0 rfl) ?_
  refine va_get (D := (dC, dI)) (ci := 2) (v := .int (nI sz)) (C := RX2) (T := TX2) (N := 6) hx hb hts in_X2 hown hK hP 0 rfl rfl 3 (by decide) lk_1 (fun _ h9 => h9) rfl dX2_isLike_1 ?_
  refine lv_aload_n hx hb dX2_isLike_4 rfl (lv_at hl 1 rfl) ?_
  refine va_get (D := (dC, dI)) (ci := 2) (v := .int (nI sz2)) (C := RX2) (T := TX2) (N := 6) hx hb hts in_X2 hown hK hP 4 rfl rfl 3 (by decide) lk_1 (fun _ h9 => h9) rfl dX2_isLike_5 ?_
  refine lv_icmp_ne (tgt := 33) hx hb dX2_isLike_8 (by decide) (fun c_8 => ?_) (fun c_8 => ?_)
  · have c_8 : ¬ sz = sz2 := fun q => c_8 ((nI_eq (a := sz) (b := sz2) (by omega) (by omega)).mpr q)
    refine lv_iconst (v := (nI 0)) hx hb dX2_isLike_33 (by decide) ?_
    exact W.zret (v := (nI 0)) (ty := .boolean) hx hb hr (by decide) (fun t ht hW => ⟨(nI 0), rfl, Or.inr ⟨fun q => c_8 q.1.1, rfl⟩, ht⟩) (fun _ h9 => absurd h9 List.not_mem_nil) dX2_isLike_34
  · have c_8 : sz = sz2 := (nI_eq (a := sz) (b := sz2) (by omega) (by omega)).mp c_8
    refine lv_aload_n hx hb dX2_isLike_11 rfl (lv_at hl 0 rfl) ?_
    refine va_get (D := (dC, dI)) (ci := 2) (v := .int (nI st)) (C := RX2) (T := TX2) (N := 6) hx hb hts in_X2 hown hK hP 0 rfl rfl 4 (by decide) lk_2 (fun _ h9 => h9) rfl dX2_isLike_12 ?_
    refine lv_aload_n hx hb dX2_isLike_15 rfl (lv_at hl 1 rfl) ?_
    refine va_get (D := (dC, dI)) (ci := 2) (v := .int (nI st2)) (C := RX2) (T := TX2) (N := 6) hx hb hts in_X2 hown hK hP 4 rfl rfl 4 (by decide) lk_2 (fun _ h9 => h9) rfl dX2_isLike_16 ?_
    refine lv_icmp_ne (tgt := 33) hx hb dX2_isLike_19 (by decide) (fun c_19 => ?_) (fun c_19 => ?_)
    · have c_19 : ¬ st = st2 := fun q => c_19 ((nI_eq (a := st) (b := st2) (by omega) (by omega)).mpr q)
      refine lv_iconst (v := (nI 0)) hx hb dX2_isLike_33 (by decide) ?_
      exact W.zret (v := (nI 0)) (ty := .boolean) hx hb hr (by decide) (fun t ht hW => ⟨(nI 0), rfl, Or.inr ⟨fun q => c_19 q.1.2.1, rfl⟩, ht⟩) (fun _ h9 => absurd h9 List.not_mem_nil) dX2_isLike_34
    · have c_19 : st = st2 := (nI_eq (a := st) (b := st2) (by omega) (by omega)).mp c_19
      refine lv_aload_n hx hb dX2_isLike_22 rfl (lv_at hl 0 rfl) ?_
      refine va_get (D := (dC, dI)) (ci := 2) (v := .int (nI us)) (C := RX2) (T := TX2) (N := 6) hx hb hts in_X2 hown hK hP 0 rfl rfl 5 (by decide) lk_3 (fun _ h9 => h9) rfl dX2_isLike_23 ?_
      refine lv_aload_n hx hb dX2_isLike_26 rfl (lv_at hl 1 rfl) ?_
      refine va_get (D := (dC, dI)) (ci := 2) (v := .int (nI us2)) (C := RX2) (T := TX2) (N := 6) hx hb hts in_X2 hown hK hP 4 rfl rfl 5 (by decide) lk_3 (fun _ h9 => h9) rfl dX2_isLike_27 ?_
      refine lv_icmp_eq (tgt := 35) hx hb dX2_isLike_30 (by decide) (fun c_30 => ?_) (fun c_30 => ?_)
      · have c_30 : us = us2 := (nI_eq (a := us) (b := us2) (by omega) (by omega)).mp c_30
        refine lv_iconst (v := (nI 0)) hx hb dX2_isLike_35 (by decide) ?_
        refine lv_istore_n (lv' := [(2, .int (nI 0)), (0, .ref (b 0)), (1, .ref (d 0))]) hx hb dX2_isLike_36 rfl hl (by decide) rfl (fun ls hl => ?_)
        refine lp_still (σ := Nat) (fun i => i ≤ us ∧ ∀ j, j < i → pl j = pl2 j ∧ ln j = ln2 j) (fun i => us - i) (fun i => [(2, .int (nI i)), (0, .ref (b 0)), (1, .ref (d 0))]) ?_ 0 (⟨by omega, fun j hj => absurd hj (Nat.not_lt_zero _)⟩) (lv_sub hl [0, 1, 2] rfl)
        intro i hI ih ls hl
        have hl : lv_has ls 3 [(2, .int (nI i)), (0, .ref (b 0)), (1, .ref (d 0))] := hl
        have hI : i ≤ us ∧ ∀ j, j < i → pl j = pl2 j ∧ ln j = ln2 j := hI
        obtain ⟨hi, hv⟩ := hI
        have ih_37 := ih
        refine lv_iload_n hx hb dX2_isLike_37 rfl (lv_at hl 0 rfl) ?_
        refine lv_aload_n hx hb dX2_isLike_38 rfl (lv_at hl 1 rfl) ?_
        refine va_get (D := (dC, dI)) (ci := 2) (v := .int (nI us)) (C := RX2) (T := TX2) (N := 6) hx hb hts in_X2 hown hK hP 0 rfl rfl 5 (by decide) lk_3 (fun _ h9 => h9) rfl dX2_isLike_39 ?_
        refine lv_icmp_ge (tgt := 83) hx hb dX2_isLike_42 (by decide) (fun c_42 => ?_) (fun c_42 => ?_)
        · have c_42 : us ≤ i := (nI_leI (a := us) (b := i) (by omega) (by omega)).mp c_42
          refine lv_iconst (v := (nI 0)) hx hb dX2_isLike_83 (by decide) ?_
          refine lv_istore_n (lv' := [(2, .int (nI 0)), (0, .ref (b 0)), (1, .ref (d 0))]) hx hb dX2_isLike_84 rfl hl (by decide) rfl (fun ls hl => ?_)
          refine lp_still (σ := Nat) (fun k => k ≤ sz ∧ ∀ j, j < k → mem j = mem2 j) (fun k => sz - k) (fun k => [(2, .int (nI k)), (0, .ref (b 0)), (1, .ref (d 0))]) ?_ 0 (⟨by omega, fun j hj => absurd hj (Nat.not_lt_zero _)⟩) (lv_sub hl [0, 1, 2] rfl)
          intro k hI ih ls hl
          have hl : lv_has ls 3 [(2, .int (nI k)), (0, .ref (b 0)), (1, .ref (d 0))] := hl
          have hI : k ≤ sz ∧ ∀ j, j < k → mem j = mem2 j := hI
          obtain ⟨hk, hu⟩ := hI
          have ih_85 := ih
          refine lv_iload_n hx hb dX2_isLike_85 rfl (lv_at hl 0 rfl) ?_
          refine lv_aload_n hx hb dX2_isLike_86 rfl (lv_at hl 1 rfl) ?_
          refine va_get (D := (dC, dI)) (ci := 2) (v := .int (nI sz)) (C := RX2) (T := TX2) (N := 6) hx hb hts in_X2 hown hK hP 0 rfl rfl 3 (by decide) lk_1 (fun _ h9 => h9) rfl dX2_isLike_87 ?_
          refine lv_icmp_ge (tgt := 116) hx hb dX2_isLike_90 (by decide) (fun c_90 => ?_) (fun c_90 => ?_)
          · have c_90 : sz ≤ k := (nI_leI (a := sz) (b := k) (by omega) (by omega)).mp c_90
            refine lv_iconst (v := (nI 1)) hx hb dX2_isLike_116 (by decide) ?_
            exact W.zret (v := (nI 1)) (ty := .boolean) hx hb hr (by decide) (fun t ht hW => ⟨(nI 1), rfl, Or.inl ⟨⟨⟨c_8, c_19, c_30⟩, fun j hj => hv j (by omega), fun j hj => hu j (by omega)⟩, rfl⟩, ht⟩) (fun _ h9 => absurd h9 List.not_mem_nil) dX2_isLike_117
          · have c_90 : ¬ sz ≤ k := fun q => c_90 ((nI_leI (a := sz) (b := k) (by omega) (by omega)).mpr q)
            refine lv_aload_n hx hb dX2_isLike_93 rfl (lv_at hl 1 rfl) ?_
            refine va_get (D := (dC, dI)) (ci := 2) (v := .ref (b 1)) (C := RX2) (T := TX2) (N := 6) hx hb hts in_X2 hown hK hP 0 rfl rfl 0 (by decide) lk_6 (fun _ h9 => h9) rfl dX2_isLike_94 ?_
            refine lv_iload_n hx hb dX2_isLike_97 rfl (lv_at hl 0 rfl) ?_
            refine va_bald hx hb hK hP 1 1 rfl rfl (vp_in_nI (by omega) (by omega)) dX2_isLike_98 ?_
            refine tpi (bf_at (by omega)) ?_
            have w_98 := bmem k
            refine lv_aload_n hx hb dX2_isLike_99 rfl (lv_at hl 2 rfl) ?_
            refine va_get (D := (dC, dI)) (ci := 2) (v := .ref (d 1)) (C := RX2) (T := TX2) (N := 6) hx hb hts in_X2 hown hK hP 4 rfl rfl 0 (by decide) lk_6 (fun _ h9 => h9) rfl dX2_isLike_100 ?_
            refine lv_iload_n hx hb dX2_isLike_103 rfl (lv_at hl 0 rfl) ?_
            refine va_bald hx hb hK hP 5 1 rfl rfl (vp_in_nI (by omega) (by omega)) dX2_isLike_104 ?_
            refine tpi (bf_at (by omega)) ?_
            have w_104 := bmem2 k
            refine lv_icmp_eq (tgt := 110) hx hb dX2_isLike_105 (by decide) (fun c_105 => ?_) (fun c_105 => ?_)
            · refine lv_iinc (v := (nI (k + 1))) (lv' := [(2, .int (nI (k + 1))), (0, .ref (b 0)), (1, .ref (d 0))]) hx hb dX2_isLike_110 hl (k := 0) rfl (nI_inc _) (by decide) rfl (fun ls hl => ?_)
              refine lv_goto (tgt := 85) hx hb dX2_isLike_113 (by decide) ?_
              exact ih_85 (k + 1) (⟨by omega, lt_s hu ((sb_inj w_98 w_104).mp c_105)⟩) (show sz - (k + 1) < sz - k by omega) ls (lv_sub hl [0, 1, 2] rfl)
            · refine lv_iconst (v := (nI 0)) hx hb dX2_isLike_108 (by decide) ?_
              exact W.zret (v := (nI 0)) (ty := .boolean) hx hb hr (by decide) (fun t ht hW => ⟨(nI 0), rfl, Or.inr ⟨fun q => c_105 ((sb_inj w_98 w_104).mpr (q.2.2 k (by omega))), rfl⟩, ht⟩) (fun _ h9 => absurd h9 List.not_mem_nil) dX2_isLike_109
        · have c_42 : ¬ us ≤ i := fun q => c_42 ((nI_leI (a := us) (b := i) (by omega) (by omega)).mpr q)
          refine lv_aload_n hx hb dX2_isLike_45 rfl (lv_at hl 1 rfl) ?_
          refine va_get (D := (dC, dI)) (ci := 2) (v := .ref (b 2)) (C := RX2) (T := TX2) (N := 6) hx hb hts in_X2 hown hK hP 0 rfl rfl 1 (by decide) lk_4 (fun _ h9 => h9) rfl dX2_isLike_46 ?_
          refine lv_iload_n hx hb dX2_isLike_49 rfl (lv_at hl 0 rfl) ?_
          refine va_iald hx hb hK hP 2 0 rfl rfl (vp_in_nI (by omega) (by omega)) dX2_isLike_50 ?_
          refine tpi (nf_at (by omega)) ?_
          have w_50 := bpl i
          refine lv_aload_n hx hb dX2_isLike_51 rfl (lv_at hl 2 rfl) ?_
          refine va_get (D := (dC, dI)) (ci := 2) (v := .ref (d 2)) (C := RX2) (T := TX2) (N := 6) hx hb hts in_X2 hown hK hP 4 rfl rfl 1 (by decide) lk_4 (fun _ h9 => h9) rfl dX2_isLike_52 ?_
          refine lv_iload_n hx hb dX2_isLike_55 rfl (lv_at hl 0 rfl) ?_
          refine va_iald hx hb hK hP 6 0 rfl rfl (vp_in_nI (by omega) (by omega)) dX2_isLike_56 ?_
          refine tpi (nf_at (by omega)) ?_
          have w_56 := bpl2 i
          refine lv_icmp_ne (tgt := 75) hx hb dX2_isLike_57 (by decide) (fun c_57 => ?_) (fun c_57 => ?_)
          · have c_57 : ¬ pl i = pl2 i := fun q => c_57 ((nI_eq (a := pl i) (b := pl2 i) (by omega) (by omega)).mpr q)
            refine lv_iconst (v := (nI 0)) hx hb dX2_isLike_75 (by decide) ?_
            exact W.zret (v := (nI 0)) (ty := .boolean) hx hb hr (by decide) (fun t ht hW => ⟨(nI 0), rfl, Or.inr ⟨fun q => c_57 (q.2.1 i (by omega)).1, rfl⟩, ht⟩) (fun _ h9 => absurd h9 List.not_mem_nil) dX2_isLike_76
          · have c_57 : pl i = pl2 i := (nI_eq (a := pl i) (b := pl2 i) (by omega) (by omega)).mp c_57
            refine lv_aload_n hx hb dX2_isLike_60 rfl (lv_at hl 1 rfl) ?_
            refine va_get (D := (dC, dI)) (ci := 2) (v := .ref (b 3)) (C := RX2) (T := TX2) (N := 6) hx hb hts in_X2 hown hK hP 0 rfl rfl 2 (by decide) lk_5 (fun _ h9 => h9) rfl dX2_isLike_61 ?_
            refine lv_iload_n hx hb dX2_isLike_64 rfl (lv_at hl 0 rfl) ?_
            refine va_iald hx hb hK hP 3 0 rfl rfl (vp_in_nI (by omega) (by omega)) dX2_isLike_65 ?_
            refine tpi (nf_at (by omega)) ?_
            have w_65 := bln i
            refine lv_aload_n hx hb dX2_isLike_66 rfl (lv_at hl 2 rfl) ?_
            refine va_get (D := (dC, dI)) (ci := 2) (v := .ref (d 3)) (C := RX2) (T := TX2) (N := 6) hx hb hts in_X2 hown hK hP 4 rfl rfl 2 (by decide) lk_5 (fun _ h9 => h9) rfl dX2_isLike_67 ?_
            refine lv_iload_n hx hb dX2_isLike_70 rfl (lv_at hl 0 rfl) ?_
            refine va_iald hx hb hK hP 7 0 rfl rfl (vp_in_nI (by omega) (by omega)) dX2_isLike_71 ?_
            refine tpi (nf_at (by omega)) ?_
            have w_71 := bln2 i
            refine lv_icmp_eq (tgt := 77) hx hb dX2_isLike_72 (by decide) (fun c_72 => ?_) (fun c_72 => ?_)
            · have c_72 : ln i = ln2 i := (nI_eq (a := ln i) (b := ln2 i) (by omega) (by omega)).mp c_72
              refine lv_iinc (v := (nI (i + 1))) (lv' := [(2, .int (nI (i + 1))), (0, .ref (b 0)), (1, .ref (d 0))]) hx hb dX2_isLike_77 hl (k := 0) rfl (nI_inc _) (by decide) rfl (fun ls hl => ?_)
              refine lv_goto (tgt := 37) hx hb dX2_isLike_80 (by decide) ?_
              exact ih_37 (i + 1) (⟨by omega, lt_s hv ⟨c_57, c_72⟩⟩) (show us - (i + 1) < us - i by omega) ls (lv_sub hl [0, 1, 2] rfl)
            · have c_72 : ¬ ln i = ln2 i := fun q => c_72 ((nI_eq (a := ln i) (b := ln2 i) (by omega) (by omega)).mpr q)
              refine lv_iconst (v := (nI 0)) hx hb dX2_isLike_75 (by decide) ?_
              exact W.zret (v := (nI 0)) (ty := .boolean) hx hb hr (by decide) (fun t ht hW => ⟨(nI 0), rfl, Or.inr ⟨fun q => c_72 (q.2.1 i (by omega)).2, rfl⟩, ht⟩) (fun _ h9 => absurd h9 List.not_mem_nil) dX2_isLike_76
      · have c_30 : ¬ us = us2 := fun q => c_30 ((nI_eq (a := us) (b := us2) (by omega) (by omega)).mpr q)
        refine lv_iconst (v := (nI 0)) hx hb dX2_isLike_33 (by decide) ?_
        exact W.zret (v := (nI 0)) (ty := .boolean) hx hb hr (by decide) (fun t ht hW => ⟨(nI 0), rfl, Or.inr ⟨fun q => c_30 q.1.2.2, rfl⟩, ht⟩) (fun _ h9 => absurd h9 List.not_mem_nil) dX2_isLike_34
