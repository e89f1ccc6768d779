set_option maxHeartbeats 4000000 in
set_option maxRecDepth 100000 in
theorem c_X0_unfoldBlocks (l : Launch) (dC : Nat → ClassId) (dI : Nat → Nat → Nat) (cB cI : ClassId) (o b : Nat → Nat) (oz : Nat) (cs : Nat) (cd : Nat → Nat) (sz : Nat) (st : Nat) (us : Nat) (mem : Nat → Nat) (pl : Nat → Nat) (ln : Nat → Nat) (zz : Nat)  (gz : cs ≤ oz) (g0 : oz ≤ 20000) (bcd : ∀ j, cd j < 256) (g3 : sz ≤ 8192) (g4 : st ≤ 131072) (g5 : us ≤ 64) (bpl : ∀ j, pl j < 2 ^ 31) (bln : ∀ j, ln j < 2 ^ 31) : Met l yX0_unfoldBlocks wsX0_unfoldBlocks ({ frames := 2, cells := 0, slots := 0, locals := 42 }) (va_Pc [.ref (o 0), .ref (b 0)] (fun U => U.heap.size = zz ∧ va_P (dC, dI) vwCl (ow cB o oz cs cd ++ sw cB cI b sz st us mem pl ln) U.heap ∧ va_K (dC, dI) vwCl [(cI, .int), (cB, .byte)] U ∧ va_D (fun _ => True) (ow cB o oz cs cd ++ sw cB cI b sz st us mem pl ln))) (va_Qi (fun (r : Int32) (u : (Nat → Nat) × (Nat → Nat)) => match u with | ⟨pl2, ln2⟩ => r = (match hdB cs cd sz us 0 st with | some w => nI w | none => (-1)) ∧ (∀ j, pl2 j < 2 ^ 31 ∧ ln2 j < 2 ^ 31) ∧ (hdB cs cd sz us 0 st = none → ∀ j, j < us → pl2 j = tw cd (6 + 4 * j) ∧ ln2 j = tw cd (6 + 4 * j + 2))) (fun (u : (Nat → Nat) × (Nat → Nat)) t => match u with | ⟨pl2, ln2⟩ => va_P (dC, dI) vwCl (ow cB o oz cs cd ++ sw cB cI b sz st us mem pl2 ln2) t.heap ∧ va_K (dC, dI) vwCl [(cI, .int), (cB, .byte)] t ∧ va_D (va_A (ow cB o oz cs cd ++ sw cB cI b sz st us mem pl ln) zz) (ow cB o oz cs cd ++ sw cB cI b sz st us mem pl2 ln2)) (va_A (ow cB o oz cs cd ++ sw cB cI b sz st us mem pl ln) zz)) 0 0 (va_A (ow cB o oz cs cd ++ sw cB cI b sz st us mem pl ln) zz) := by
  refine Met.ofW (cc := cX0_unfoldBlocks) (maxL := 7) (ret := (some .int)) (by decide) rfl ?_
  intro p e s m args below meth c s₁ B hml hv
  obtain ⟨rfl, hsz, hP, hK, hD0⟩ := hv
  have hx := B.exec
  have hb := B.bytes
  have hr := B.returns
  have hts := atoms_spec (ws := wsX0_unfoldBlocks) B.pre
  have hown : s.vm.findClass RX0 = some m.cls := findClass_of_methodNamed B.named
  have hlocks := B.notSynchronized
  subst hsz
  have hD := hD0.self (sz := s.heap.size)
  generalize hAe : va_A (ow cB o oz cs cd ++ sw cB cI b sz st us mem pl ln) s.heap.size = A at hD ⊢
  have hA : ∀ q : Nat, s.heap.size ≤ q → A q := fun q h => by rw [← hAe]; exact Or.inr h
  have hS : va_S A s.heap s.heap [] := va_S.rf
  have hP : va_P (dC, dI) vwCl (ow cB o oz cs cd ++ sw cB cI b sz st us mem pl ln) s.heap := hP
  have in_X0 : ∀ w ∈ wsX00, w ∈ wsX0_unfoldBlocks := fun _ h => List.mem_cons_of_mem _ (List.mem_append_right _ (h))
  have in_X2 : ∀ w ∈ wsX20, w ∈ wsX0_unfoldBlocks := fun _ h => List.mem_cons_of_mem _ (List.mem_append_left _ (List.mem_append_right _ (h)))
  have lk_1 := hts (.fieldLink RX0 35 "GlulxHeap$State" "start" "I") (List.mem_of_getElem? (i := 1) rfl)
  have lk_2 := hts (.fieldLink RX0 38 "GlulxHeap$State" "used" "I") (List.mem_of_getElem? (i := 2) rfl)
  have lk_3 := hts (.fieldLink RX0 15 "GlulxHeap$Code" "length" "I") (List.mem_of_getElem? (i := 3) rfl)
  have lk_4 := hts (.fieldLink RX0 27 "GlulxHeap$State" "size" "I") (List.mem_of_getElem? (i := 4) rfl)
  have lk_5 := hts (.fieldLink RX0 41 "GlulxHeap$State" "places" "[I") (List.mem_of_getElem? (i := 5) rfl)
  have lk_6 := hts (.fieldLink RX0 45 "GlulxHeap$State" "lengths" "[I") (List.mem_of_getElem? (i := 6) rfl)
  have hl := lv_entry ([.ref (o 0), .ref (b 0)]) (n := 7) (Nat.le_of_ble_eq_true rfl)
  rw [lg_entry_eq]
  generalize (lg_sl ([.ref (o 0), .ref (b 0)]) ++ List.replicate (7 - (lg_sl ([.ref (o 0), .ref (b 0)])).length) Slot.unset).toArray = ls at hl ⊢
  have hl : lv_has ls 7 [(0, .ref (o 0)), (1, .ref (b 0))] := hl
  refine lv_aload_n hx hb dX0_unfoldBlocks_0 rfl (lv_at hl 1 rfl) ?_
  refine va_get (D := (dC, dI)) (ci := 2) (v := .int (nI st)) (C := RX2) (T := TX2) (N := 6) hx hb hts in_X2 hown hK hP 2 rfl rfl 4 (by decide) lk_1 (fun _ h9 => h9) rfl dX0_unfoldBlocks_1 ?_
  refine lv_istore_n (lv' := [(2, .int (nI st)), (0, .ref (o 0)), (1, .ref (b 0))]) hx hb dX0_unfoldBlocks_4 rfl hl (by decide) rfl (fun ls hl => ?_)
  refine lv_iconst (v := (nI 0)) hx hb dX0_unfoldBlocks_5 (by decide) ?_
  refine lv_istore_n (lv' := [(3, .int (nI 0)), (2, .int (nI st)), (0, .ref (o 0)), (1, .ref (b 0))]) hx hb dX0_unfoldBlocks_6 rfl hl (by decide) rfl (fun ls hl => ?_)
  refine lp_world (σ := Nat × Nat × (Nat → Nat) × (Nat → Nat)) (fun ⟨i, en, g, h⟩ => i ≤ us ∧ hdB cs cd sz us 0 st = hdB cs cd sz (us - i) i en ∧ (∀ j, j < i → g j = tw cd (6 + 4 * j) ∧ h j = tw cd (6 + 4 * j + 2)) ∧ (∀ j, g j < 2 ^ 31 ∧ h j < 2 ^ 31) ∧ en ≤ 131072) (fun ⟨i, en, g, h⟩ => us - i) (fun ⟨i, en, g, h⟩ => [(3, .int (nI i)), (2, .int (nI en)), (0, .ref (o 0)), (1, .ref (b 0))]) (fun ⟨i, en, g, h⟩ => ow cB o oz cs cd ++ sw cB cI b sz st us mem g h) ?_ ((0, st, pl, ln)) (⟨by omega, rfl, fun j hj => absurd hj (Nat.not_lt_zero _), fun j => ⟨bpl j, bln j⟩, by omega⟩) (hP) (hD) hS (lv_sub hl [0, 1, 2, 3] rfl)
  intro ⟨i, en, g, h⟩ hI ih H locs ls hP hD hS hl
  have hl : lv_has ls 7 [(3, .int (nI i)), (2, .int (nI en)), (0, .ref (o 0)), (1, .ref (b 0))] := hl
  have hP : va_P (dC, dI) vwCl (ow cB o oz cs cd ++ sw cB cI b sz st us mem g h) H := hP
  have hD : va_D A (ow cB o oz cs cd ++ sw cB cI b sz st us mem g h) := hD
  have hI : i ≤ us ∧ hdB cs cd sz us 0 st = hdB cs cd sz (us - i) i en ∧ (∀ j, j < i → g j = tw cd (6 + 4 * j) ∧ h j = tw cd (6 + 4 * j + 2)) ∧ (∀ j, g j < 2 ^ 31 ∧ h j < 2 ^ 31) ∧ en ≤ 131072 := hI
  obtain ⟨hi, hv, hgd, hgb, hen⟩ := hI
  have ih_7 := ih
  refine lv_iload_n hx hb dX0_unfoldBlocks_7 rfl (lv_at hl 0 rfl) ?_
  refine lv_aload_n hx hb dX0_unfoldBlocks_8 rfl (lv_at hl 3 rfl) ?_
  refine va_get (D := (dC, dI)) (ci := 2) (v := .int (nI us)) (C := RX2) (T := TX2) (N := 6) hx hb hts in_X2 hown hK hP 2 rfl rfl 5 (by decide) lk_2 (fun _ h9 => h9) rfl dX0_unfoldBlocks_9 ?_
  refine lv_icmp_ge (tgt := 132) hx hb dX0_unfoldBlocks_12 (by decide) (fun c_12 => ?_) (fun c_12 => ?_)
  · have c_12 : us ≤ i := (nI_leI (a := us) (b := i) (by omega) (by omega)).mp c_12
    refine lv_iconst (v := ((-1))) hx hb dX0_unfoldBlocks_132 (by decide) ?_
    have hS9 : hdB cs cd sz us 0 st = none := by rw [hv, show us - i = 0 by omega]; rfl
    exact W.iret (v := ((-1))) hx hb hr (fun t ht hW => ⟨⟨((-1)), (g, h), rfl, ⟨by rw [hS9], hgb, fun _ j hj => hgd j (by omega)⟩, by rw [ht]; exact hP, va_K.moved hW.alike hK, hD⟩, hS.F ht⟩) hS.2.2 dX0_unfoldBlocks_133
  · have c_12 : ¬ us ≤ i := fun q => c_12 ((nI_leI (a := us) (b := i) (by omega) (by omega)).mpr q)
    refine lv_bipush (v := (nI 6)) hx hb dX0_unfoldBlocks_15 (by decide) ?_
    refine lv_iconst (v := (nI 4)) hx hb dX0_unfoldBlocks_17 (by decide) ?_
    refine lv_iload_n hx hb dX0_unfoldBlocks_18 rfl (lv_at hl 0 rfl) ?_
    refine lv_imul hx hb dX0_unfoldBlocks_19 ?_
    refine tpi (pk_mul _ _) ?_
    refine lv_iadd hx hb dX0_unfoldBlocks_20 ?_
    refine tpi (nI_add _ _) ?_
    refine lv_istore (lv' := [(4, .int (nI (6 + (4 * i)))), (3, .int (nI i)), (2, .int (nI en)), (0, .ref (o 0)), (1, .ref (b 0))]) hx hb dX0_unfoldBlocks_21 hl (by decide) rfl (fun ls hl => ?_)
    refine lv_aload_n hx hb dX0_unfoldBlocks_23 rfl (lv_at hl 3 rfl) ?_
    refine va_get (D := (dC, dI)) (ci := 0) (v := .int (nI cs)) (C := RX0) (T := TX0) (N := 2) hx hb hts in_X0 hown hK hP 0 rfl rfl 1 (by decide) lk_3 (fun _ h9 => h9) rfl dX0_unfoldBlocks_24 ?_
    refine lv_iload hx hb dX0_unfoldBlocks_27 (lv_at hl 0 rfl) ?_
    refine lv_iconst (v := (nI 2)) hx hb dX0_unfoldBlocks_29 (by decide) ?_
    refine lv_iadd hx hb dX0_unfoldBlocks_30 ?_
    refine tpi (nI_add _ _) ?_
    refine lv_icmp_ge (tgt := 39) hx hb dX0_unfoldBlocks_31 (by decide) (fun c_31 => ?_) (fun c_31 => ?_)
    · have c_31 : 6 + (4 * i) + 2 ≤ cs := (nI_leI (a := 6 + (4 * i) + 2) (b := cs) (by omega) (by omega)).mp c_31
      refine lv_aload_n hx hb dX0_unfoldBlocks_39 rfl (lv_at hl 3 rfl) ?_
      refine lv_iload hx hb dX0_unfoldBlocks_40 (lv_at hl 0 rfl) ?_
      have hPc := hP.sub (ws' := ow cB o oz cs cd) [0, 1] rfl
      have hKc := hK.sub (tys' := [(cB, .byte)]) [1] rfl
      refine vp_callSi (W.runV (As := [.int (nI (6 + (4 * i)))]) (rest := []) ⟨hx, hb, hml, hown, hts⟩ (c_X0_pairAt l dC dI cB o oz cs cd (6 + (4 * i)) (by omega) (by omega) bcd) (cwV 1 hts gX0_unfoldBlocks_X0_pairAt rfl rfl rfl (by decide +kernel) ⟨Nat.le_of_ble_eq_true rfl, Nat.le_of_ble_eq_true rfl⟩) ⟨fun a9 U g9 mk9 q9 => by obtain ⟨q0, qP, qK⟩ := q9; exact ⟨q0, qP, va_K.moved (u := U) (U := U.calling g9 mk9 a9) (Vm.Alike.refl U.vm) qK⟩, va_recv hKc hPc (ci := 0) (q0 := 0) rfl rfl, fun U hU hW => ⟨rfl, by rw [hU]; exact hPc, va_K.moved hW.alike hKc⟩⟩ rfl rfl hl.1 rfl (lv_room (Nat.le_of_ble_eq_true rfl)) dX0_unfoldBlocks_42 ⟨Nat.zero_le _, Nat.zero_le _⟩) (fun r_42 hw => ?_)
      try dsimp only at hw
      subst hw
      have wt_42 := tw_lt bcd (6 + (4 * i))
      refine lv_istore (lv' := [(5, .int (nI (tw cd (6 + (4 * i))))), (4, .int (nI (6 + (4 * i)))), (3, .int (nI i)), (2, .int (nI en)), (0, .ref (o 0)), (1, .ref (b 0))]) hx hb dX0_unfoldBlocks_45 hl (by decide) rfl (fun ls hl => ?_)
      refine lv_iload hx hb dX0_unfoldBlocks_47 (lv_at hl 0 rfl) ?_
      refine lv_iload_n hx hb dX0_unfoldBlocks_49 rfl (lv_at hl 3 rfl) ?_
      refine lv_icmp_ge (tgt := 56) hx hb dX0_unfoldBlocks_50 (by decide) (fun c_50 => ?_) (fun c_50 => ?_)
      · have c_50 : en ≤ tw cd (6 + (4 * i)) := (nI_leI (a := en) (b := tw cd (6 + (4 * i))) (by omega) (by omega)).mp c_50
        refine lv_aload_n hx hb dX0_unfoldBlocks_56 rfl (lv_at hl 4 rfl) ?_
        refine va_get (D := (dC, dI)) (ci := 0) (v := .int (nI cs)) (C := RX0) (T := TX0) (N := 2) hx hb hts in_X0 hown hK hP 0 rfl rfl 1 (by decide) lk_3 (fun _ h9 => h9) rfl dX0_unfoldBlocks_57 ?_
        refine lv_iload hx hb dX0_unfoldBlocks_60 (lv_at hl 1 rfl) ?_
        refine lv_iconst (v := (nI 4)) hx hb dX0_unfoldBlocks_62 (by decide) ?_
        refine lv_iadd hx hb dX0_unfoldBlocks_63 ?_
        refine tpi (nI_add _ _) ?_
        refine lv_icmp_ge (tgt := 72) hx hb dX0_unfoldBlocks_64 (by decide) (fun c_64 => ?_) (fun c_64 => ?_)
        · have c_64 : 6 + (4 * i) + 4 ≤ cs := (nI_leI (a := 6 + (4 * i) + 4) (b := cs) (by omega) (by omega)).mp c_64
          refine lv_aload_n hx hb dX0_unfoldBlocks_72 rfl (lv_at hl 4 rfl) ?_
          refine lv_iload hx hb dX0_unfoldBlocks_73 (lv_at hl 1 rfl) ?_
          refine lv_iconst (v := (nI 2)) hx hb dX0_unfoldBlocks_75 (by decide) ?_
          refine lv_iadd hx hb dX0_unfoldBlocks_76 ?_
          refine tpi (nI_add _ _) ?_
          have hPc := hP.sub (ws' := ow cB o oz cs cd) [0, 1] rfl
          have hKc := hK.sub (tys' := [(cB, .byte)]) [1] rfl
          refine vp_callSi (W.runV (As := [.int (nI (6 + (4 * i) + 2))]) (rest := []) ⟨hx, hb, hml, hown, hts⟩ (c_X0_pairAt l dC dI cB o oz cs cd (6 + (4 * i) + 2) (by omega) (by omega) bcd) (cwV 1 hts gX0_unfoldBlocks_X0_pairAt rfl rfl rfl (by decide +kernel) ⟨Nat.le_of_ble_eq_true rfl, Nat.le_of_ble_eq_true rfl⟩) ⟨fun a9 U g9 mk9 q9 => by obtain ⟨q0, qP, qK⟩ := q9; exact ⟨q0, qP, va_K.moved (u := U) (U := U.calling g9 mk9 a9) (Vm.Alike.refl U.vm) qK⟩, va_recv hKc hPc (ci := 0) (q0 := 0) rfl rfl, fun U hU hW => ⟨rfl, by rw [hU]; exact hPc, va_K.moved hW.alike hKc⟩⟩ rfl rfl hl.1 rfl (lv_room (Nat.le_of_ble_eq_true rfl)) dX0_unfoldBlocks_77 ⟨Nat.zero_le _, Nat.zero_le _⟩) (fun r_77 hw => ?_)
          try dsimp only at hw
          subst hw
          have wt_77 := tw_lt bcd (6 + (4 * i) + 2)
          refine lv_istore (lv' := [(6, .int (nI (tw cd (6 + (4 * i) + 2)))), (5, .int (nI (tw cd (6 + (4 * i))))), (4, .int (nI (6 + (4 * i)))), (3, .int (nI i)), (2, .int (nI en)), (0, .ref (o 0)), (1, .ref (b 0))]) hx hb dX0_unfoldBlocks_80 hl (by decide) rfl (fun ls hl => ?_)
          refine lv_iload hx hb dX0_unfoldBlocks_82 (lv_at hl 0 rfl) ?_
          refine lv_if_eq (tgt := 99) hx hb dX0_unfoldBlocks_84 (by decide) (fun c_84 => ?_) (fun c_84 => ?_)
          · have c_84 : tw cd (6 + (4 * i) + 2) = 0 := (nZ_eq (by omega)).mp c_84
            refine lv_iload hx hb dX0_unfoldBlocks_99 (lv_at hl 2 rfl) ?_
            refine lv_iconst (v := (nI 2)) hx hb dX0_unfoldBlocks_101 (by decide) ?_
            refine lv_iadd hx hb dX0_unfoldBlocks_102 ?_
            refine tpi (nI_add _ _) ?_
            have hS9 : hdB cs cd sz us 0 st = some (6 + (4 * i) + 2) := by rw [hv, hdB_s (by omega), if_neg (by omega), if_neg (by omega), if_neg (by omega), if_pos (by omega)]
            exact W.iret (v := (nI (6 + (4 * i) + 2))) hx hb hr (fun t ht hW => ⟨⟨(nI (6 + (4 * i) + 2)), (g, h), rfl, ⟨by rw [hS9], hgb, fun q => by rw [hS9] at q; cases q⟩, by rw [ht]; exact hP, va_K.moved hW.alike hK, hD⟩, hS.F ht⟩) hS.2.2 dX0_unfoldBlocks_103
          · have c_84 : ¬ tw cd (6 + (4 * i) + 2) = 0 := fun q => c_84 ((nZ_eq (by omega)).mpr q)
            refine lv_iload hx hb dX0_unfoldBlocks_87 (lv_at hl 1 rfl) ?_
            refine lv_iload hx hb dX0_unfoldBlocks_89 (lv_at hl 0 rfl) ?_
            refine lv_iadd hx hb dX0_unfoldBlocks_91 ?_
            refine tpi (nI_add _ _) ?_
            refine lv_aload_n hx hb dX0_unfoldBlocks_92 rfl (lv_at hl 6 rfl) ?_
            refine va_get (D := (dC, dI)) (ci := 2) (v := .int (nI sz)) (C := RX2) (T := TX2) (N := 6) hx hb hts in_X2 hown hK hP 2 rfl rfl 3 (by decide) lk_4 (fun _ h9 => h9) rfl dX0_unfoldBlocks_93 ?_
            refine lv_icmp_le (tgt := 104) hx hb dX0_unfoldBlocks_96 (by decide) (fun c_96 => ?_) (fun c_96 => ?_)
            · have c_96 : tw cd (6 + (4 * i)) + (tw cd (6 + (4 * i) + 2)) ≤ sz := (nI_leI (a := tw cd (6 + (4 * i)) + (tw cd (6 + (4 * i) + 2))) (b := sz) (by omega) (by omega)).mp c_96
              refine lv_aload_n hx hb dX0_unfoldBlocks_104 rfl (lv_at hl 6 rfl) ?_
              refine va_get (D := (dC, dI)) (ci := 2) (v := .ref (b 2)) (C := RX2) (T := TX2) (N := 6) hx hb hts in_X2 hown hK hP 2 rfl rfl 1 (by decide) lk_5 (fun _ h9 => h9) rfl dX0_unfoldBlocks_105 ?_
              refine lv_iload_n hx hb dX0_unfoldBlocks_108 rfl (lv_at hl 3 rfl) ?_
              refine lv_iload hx hb dX0_unfoldBlocks_109 (lv_at hl 1 rfl) ?_
              refine va_iast hx hb hK hP hD hS 4 0 rfl rfl (vp_in_nI (by omega) (by omega)) dX0_unfoldBlocks_111 (fun H locs hP hD hS => ?_)
              rw [nf_up (by omega)] at hP hD
              have hP : va_P (dC, dI) vwCl (ow cB o oz cs cd ++ sw cB cI b sz st us mem (va_up g i (tw cd (6 + (4 * i)))) h) H := hP
              have hD : va_D A (ow cB o oz cs cd ++ sw cB cI b sz st us mem (va_up g i (tw cd (6 + (4 * i)))) h) := hD
              refine lv_aload_n hx hb dX0_unfoldBlocks_112 rfl (lv_at hl 6 rfl) ?_
              refine va_get (D := (dC, dI)) (ci := 2) (v := .ref (b 3)) (C := RX2) (T := TX2) (N := 6) hx hb hts in_X2 hown hK hP 2 rfl rfl 2 (by decide) lk_6 (fun _ h9 => h9) rfl dX0_unfoldBlocks_113 ?_
              refine lv_iload_n hx hb dX0_unfoldBlocks_116 rfl (lv_at hl 3 rfl) ?_
              refine lv_iload hx hb dX0_unfoldBlocks_117 (lv_at hl 0 rfl) ?_
              refine va_iast hx hb hK hP hD hS 5 0 rfl rfl (vp_in_nI (by omega) (by omega)) dX0_unfoldBlocks_119 (fun H locs hP hD hS => ?_)
              rw [nf_up (by omega)] at hP hD
              have hP : va_P (dC, dI) vwCl (ow cB o oz cs cd ++ sw cB cI b sz st us mem (va_up g i (tw cd (6 + (4 * i)))) (va_up h i (tw cd (6 + (4 * i) + 2)))) H := hP
              have hD : va_D A (ow cB o oz cs cd ++ sw cB cI b sz st us mem (va_up g i (tw cd (6 + (4 * i)))) (va_up h i (tw cd (6 + (4 * i) + 2)))) := hD
              refine lv_iload hx hb dX0_unfoldBlocks_120 (lv_at hl 1 rfl) ?_
              refine lv_iload hx hb dX0_unfoldBlocks_122 (lv_at hl 0 rfl) ?_
              refine lv_iadd hx hb dX0_unfoldBlocks_124 ?_
              refine tpi (nI_add _ _) ?_
              refine lv_istore_n (lv' := [(2, .int (nI (tw cd (6 + (4 * i)) + (tw cd (6 + (4 * i) + 2))))), (6, .int (nI (tw cd (6 + (4 * i) + 2)))), (5, .int (nI (tw cd (6 + (4 * i))))), (4, .int (nI (6 + (4 * i)))), (3, .int (nI i)), (0, .ref (o 0)), (1, .ref (b 0))]) hx hb dX0_unfoldBlocks_125 rfl hl (by decide) rfl (fun ls hl => ?_)
              refine lv_iinc (v := (nI (i + 1))) (lv' := [(3, .int (nI (i + 1))), (2, .int (nI (tw cd (6 + (4 * i)) + (tw cd (6 + (4 * i) + 2))))), (6, .int (nI (tw cd (6 + (4 * i) + 2)))), (5, .int (nI (tw cd (6 + (4 * i))))), (4, .int (nI (6 + (4 * i)))), (0, .ref (o 0)), (1, .ref (b 0))]) hx hb dX0_unfoldBlocks_126 hl (k := 4) rfl (nI_inc _) (by decide) rfl (fun ls hl => ?_)
              refine lv_goto (tgt := 7) hx hb dX0_unfoldBlocks_129 (by decide) ?_
              exact ih_7 (i + 1, tw cd (6 + (4 * i)) + (tw cd (6 + (4 * i) + 2)), va_up g i (tw cd (6 + (4 * i))), va_up h i (tw cd (6 + (4 * i) + 2))) (⟨by omega, by rw [hv, hdB_s (by omega), if_neg (by omega), if_neg (by omega), if_neg (by omega), if_neg (by omega)], lt_s (fun j hj => ⟨by rw [va_up_ne _ _ (by omega)]; exact (hgd j hj).1, by rw [va_up_ne _ _ (by omega)]; exact (hgd j hj).2⟩) ⟨va_up_self _ _ _, va_up_self _ _ _⟩, fun j => ⟨up_lt (fun j => (hgb j).1) (by omega) j, up_lt (fun j => (hgb j).2) (by omega) j⟩, by omega⟩) (show us - (i + 1) < us - i by omega) H locs ls (hP) (hD) hS (lv_sub hl [0, 1, 5, 6] rfl)
            · have c_96 : ¬ tw cd (6 + (4 * i)) + (tw cd (6 + (4 * i) + 2)) ≤ sz := fun q => c_96 ((nI_leI (a := tw cd (6 + (4 * i)) + (tw cd (6 + (4 * i) + 2))) (b := sz) (by omega) (by omega)).mpr q)
              refine lv_iload hx hb dX0_unfoldBlocks_99 (lv_at hl 2 rfl) ?_
              refine lv_iconst (v := (nI 2)) hx hb dX0_unfoldBlocks_101 (by decide) ?_
              refine lv_iadd hx hb dX0_unfoldBlocks_102 ?_
              refine tpi (nI_add _ _) ?_
              have hS9 : hdB cs cd sz us 0 st = some (6 + (4 * i) + 2) := by rw [hv, hdB_s (by omega), if_neg (by omega), if_neg (by omega), if_neg (by omega), if_pos (by omega)]
              exact W.iret (v := (nI (6 + (4 * i) + 2))) hx hb hr (fun t ht hW => ⟨⟨(nI (6 + (4 * i) + 2)), (g, h), rfl, ⟨by rw [hS9], hgb, fun q => by rw [hS9] at q; cases q⟩, by rw [ht]; exact hP, va_K.moved hW.alike hK, hD⟩, hS.F ht⟩) hS.2.2 dX0_unfoldBlocks_103
        · have c_64 : ¬ 6 + (4 * i) + 4 ≤ cs := fun q => c_64 ((nI_leI (a := 6 + (4 * i) + 4) (b := cs) (by omega) (by omega)).mpr q)
          refine lv_aload_n hx hb dX0_unfoldBlocks_67 rfl (lv_at hl 4 rfl) ?_
          refine va_get (D := (dC, dI)) (ci := 0) (v := .int (nI cs)) (C := RX0) (T := TX0) (N := 2) hx hb hts in_X0 hown hK hP 0 rfl rfl 1 (by decide) lk_3 (fun _ h9 => h9) rfl dX0_unfoldBlocks_68 ?_
          have hS9 : hdB cs cd sz us 0 st = some (cs) := by rw [hv, hdB_s (by omega), if_neg (by omega), if_neg (by omega), if_pos (by omega)]
          exact W.iret (v := (nI cs)) hx hb hr (fun t ht hW => ⟨⟨(nI cs), (g, h), rfl, ⟨by rw [hS9], hgb, fun q => by rw [hS9] at q; cases q⟩, by rw [ht]; exact hP, va_K.moved hW.alike hK, hD⟩, hS.F ht⟩) hS.2.2 dX0_unfoldBlocks_71
      · have c_50 : ¬ en ≤ tw cd (6 + (4 * i)) := fun q => c_50 ((nI_leI (a := en) (b := tw cd (6 + (4 * i))) (by omega) (by omega)).mpr q)
        refine lv_iload hx hb dX0_unfoldBlocks_53 (lv_at hl 1 rfl) ?_
        have hS9 : hdB cs cd sz us 0 st = some (6 + (4 * i)) := by rw [hv, hdB_s (by omega), if_neg (by omega), if_pos (by omega)]
        exact W.iret (v := (nI (6 + (4 * i)))) hx hb hr (fun t ht hW => ⟨⟨(nI (6 + (4 * i))), (g, h), rfl, ⟨by rw [hS9], hgb, fun q => by rw [hS9] at q; cases q⟩, by rw [ht]; exact hP, va_K.moved hW.alike hK, hD⟩, hS.F ht⟩) hS.2.2 dX0_unfoldBlocks_55
    · have c_31 : ¬ 6 + (4 * i) + 2 ≤ cs := fun q => c_31 ((nI_leI (a := 6 + (4 * i) + 2) (b := cs) (by omega) (by omega)).mpr q)
      refine lv_aload_n hx hb dX0_unfoldBlocks_34 rfl (lv_at hl 3 rfl) ?_
      refine va_get (D := (dC, dI)) (ci := 0) (v := .int (nI cs)) (C := RX0) (T := TX0) (N := 2) hx hb hts in_X0 hown hK hP 0 rfl rfl 1 (by decide) lk_3 (fun _ h9 => h9) rfl dX0_unfoldBlocks_35 ?_
      have hS9 : hdB cs cd sz us 0 st = some (cs) := by rw [hv, hdB_s (by omega), if_pos (by omega)]
      exact W.iret (v := (nI cs)) hx hb hr (fun t ht hW => ⟨⟨(nI cs), (g, h), rfl, ⟨by rw [hS9], hgb, fun q => by rw [hS9] at q; cases q⟩, by rw [ht]; exact hP, va_K.moved hW.alike hK, hD⟩, hS.F ht⟩) hS.2.2 dX0_unfoldBlocks_38
set_option maxHeartbeats 4000000 in
set_option maxRecDepth 100000 in
theorem c_X0_unfoldBytes (l : Launch) (dC : Nat → ClassId) (dI : Nat → Nat → Nat) (cB cI : ClassId) (o b : Nat → Nat) (oz : Nat) (cs : Nat) (cd : Nat → Nat) (sz : Nat) (st : Nat) (us : Nat) (mem : Nat → Nat) (pl : Nat → Nat) (ln : Nat → Nat) (zz : Nat)  (gz : cs ≤ oz) (g0 : oz ≤ 20000) (bcd : ∀ j, cd j < 256) (g3 : sz ≤ 8192) (g5 : us ≤ 64) (bmem : ∀ j, mem j < 256) : Met l yX0_unfoldBytes wsX0_unfoldBytes ({ frames := 1, cells := 0, slots := 0, locals := 21 }) (va_Pc [.ref (o 0), .ref (b 0)] (fun U => U.heap.size = zz ∧ va_P (dC, dI) vwCl (ow cB o oz cs cd ++ sw cB cI b sz st us mem pl ln) U.heap ∧ va_K (dC, dI) vwCl [(cI, .int), (cB, .byte)] U ∧ va_D (fun _ => True) (ow cB o oz cs cd ++ sw cB cI b sz st us mem pl ln))) (va_Qi (fun (r : Int32) (u : (Nat → Nat)) => match u with | mem2 => r = (match rdK cs cd sz (6 + 4 * us) 0 mem with | .inl w => nI w | .inr _ => (-1)) ∧ (∀ j, mem2 j < 256) ∧ (∀ g, rdK cs cd sz (6 + 4 * us) 0 mem = .inr g → mem2 = g)) (fun (u : (Nat → Nat)) t => match u with | mem2 => va_P (dC, dI) vwCl (ow cB o oz cs cd ++ sw cB cI b sz st us mem2 pl ln) t.heap ∧ va_K (dC, dI) vwCl [(cI, .int), (cB, .byte)] t ∧ va_D (va_A (ow cB o oz cs cd ++ sw cB cI b sz st us mem pl ln) zz) (ow cB o oz cs cd ++ sw cB cI b sz st us mem2 pl ln)) (va_A (ow cB o oz cs cd ++ sw cB cI b sz st us mem pl ln) zz)) 0 0 (va_A (ow cB o oz cs cd ++ sw cB cI b sz st us mem pl ln) zz) := by
  refine Met.ofW (cc := cX0_unfoldBytes) (maxL := 5) (ret := (some .int)) (by decide) rfl ?_
  intro p e s m args below meth c s₁ B hml hv
  obtain ⟨rfl, hsz, hP, hK, hD0⟩ := hv
  have hx := B.exec
  have hb := B.bytes
  have hr := B.returns
  have hts := atoms_spec (ws := wsX0_unfoldBytes) B.pre
  have hown : s.vm.findClass RX0 = some m.cls := findClass_of_methodNamed B.named
  have hlocks := B.notSynchronized
  subst hsz
  have hD := hD0.self (sz := s.heap.size)
  generalize hAe : va_A (ow cB o oz cs cd ++ sw cB cI b sz st us mem pl ln) s.heap.size = A at hD ⊢
  have hA : ∀ q : Nat, s.heap.size ≤ q → A q := fun q h => by rw [← hAe]; exact Or.inr h
  have hS : va_S A s.heap s.heap [] := va_S.rf
  have hP : va_P (dC, dI) vwCl (ow cB o oz cs cd ++ sw cB cI b sz st us mem pl ln) s.heap := hP
  have in_X0 : ∀ w ∈ wsX00, w ∈ wsX0_unfoldBytes := fun _ h => List.mem_cons_of_mem _ (List.mem_append_right _ (h))
  have in_X2 : ∀ w ∈ wsX20, w ∈ wsX0_unfoldBytes := fun _ h => List.mem_cons_of_mem _ (List.mem_append_left _ (List.mem_append_right _ (h)))
  have lk_1 := hts (.fieldLink RX0 38 "GlulxHeap$State" "used" "I") (List.mem_of_getElem? (i := 1) rfl)
  have lk_2 := hts (.fieldLink RX0 15 "GlulxHeap$Code" "length" "I") (List.mem_of_getElem? (i := 2) rfl)
  have lk_3 := hts (.fieldLink RX0 27 "GlulxHeap$State" "size" "I") (List.mem_of_getElem? (i := 3) rfl)
  have lk_4 := hts (.fieldLink RX0 83 "GlulxHeap$State" "bytes" "[B") (List.mem_of_getElem? (i := 4) rfl)
  have hl := lv_entry ([.ref (o 0), .ref (b 0)]) (n := 5) (Nat.le_of_ble_eq_true rfl)
  rw [lg_entry_eq]
  generalize (lg_sl ([.ref (o 0), .ref (b 0)]) ++ List.replicate (5 - (lg_sl ([.ref (o 0), .ref (b 0)])).length) Slot.unset).toArray = ls at hl ⊢
  have hl : lv_has ls 5 [(0, .ref (o 0)), (1, .ref (b 0))] := hl
  refine lv_bipush (v := (nI 6)) hx hb dX0_unfoldBytes_0 (by decide) ?_
  refine lv_iconst (v := (nI 4)) hx hb dX0_unfoldBytes_2 (by decide) ?_
  refine lv_aload_n hx hb dX0_unfoldBytes_3 rfl (lv_at hl 1 rfl) ?_
  refine va_get (D := (dC, dI)) (ci := 2) (v := .int (nI us)) (C := RX2) (T := TX2) (N := 6) hx hb hts in_X2 hown hK hP 2 rfl rfl 5 (by decide) lk_1 (fun _ h9 => h9) rfl dX0_unfoldBytes_4 ?_
  refine lv_imul hx hb dX0_unfoldBytes_7 ?_
  refine tpi (pk_mul _ _) ?_
  refine lv_iadd hx hb dX0_unfoldBytes_8 ?_
  refine tpi (nI_add _ _) ?_
  refine lv_istore_n (lv' := [(2, .int (nI (6 + (4 * us)))), (0, .ref (o 0)), (1, .ref (b 0))]) hx hb dX0_unfoldBytes_9 rfl hl (by decide) rfl (fun ls hl => ?_)
  refine lv_iconst (v := (nI 0)) hx hb dX0_unfoldBytes_10 (by decide) ?_
  refine lv_istore_n (lv' := [(3, .int (nI 0)), (2, .int (nI (6 + (4 * us)))), (0, .ref (o 0)), (1, .ref (b 0))]) hx hb dX0_unfoldBytes_11 rfl hl (by decide) rfl (fun ls hl => ?_)
  refine lp_world (σ := Nat × Nat × (Nat → Nat)) (fun ⟨x, i, f⟩ => x ≤ 20300 ∧ i ≤ sz ∧ rdK cs cd sz (6 + 4 * us) 0 mem = rdK cs cd sz x i f ∧ (∀ j, f j < 256)) (fun ⟨x, i, f⟩ => 20300 - x) (fun ⟨x, i, f⟩ => [(3, .int (nI i)), (2, .int (nI x)), (0, .ref (o 0)), (1, .ref (b 0))]) (fun ⟨x, i, f⟩ => ow cB o oz cs cd ++ sw cB cI b sz st us f pl ln) ?_ ((6 + (4 * us), 0, mem)) (⟨by omega, by omega, rfl, bmem⟩) (hP) (hD) hS (lv_sub hl [0, 1, 2, 3] rfl)
  intro ⟨x, i, f⟩ hI ih H locs ls hP hD hS hl
  have hl : lv_has ls 5 [(3, .int (nI i)), (2, .int (nI x)), (0, .ref (o 0)), (1, .ref (b 0))] := hl
  have hP : va_P (dC, dI) vwCl (ow cB o oz cs cd ++ sw cB cI b sz st us f pl ln) H := hP
  have hD : va_D A (ow cB o oz cs cd ++ sw cB cI b sz st us f pl ln) := hD
  have hI : x ≤ 20300 ∧ i ≤ sz ∧ rdK cs cd sz (6 + 4 * us) 0 mem = rdK cs cd sz x i f ∧ (∀ j, f j < 256) := hI
  obtain ⟨hx2, hi, hv, hfb⟩ := hI
  have ih_12 := ih
  refine lv_iload_n hx hb dX0_unfoldBytes_12 rfl (lv_at hl 1 rfl) ?_
  refine lv_aload_n hx hb dX0_unfoldBytes_13 rfl (lv_at hl 2 rfl) ?_
  refine va_get (D := (dC, dI)) (ci := 0) (v := .int (nI cs)) (C := RX0) (T := TX0) (N := 2) hx hb hts in_X0 hown hK hP 0 rfl rfl 1 (by decide) lk_2 (fun _ h9 => h9) rfl dX0_unfoldBytes_14 ?_
  refine lv_icmp_ge (tgt := 121) hx hb dX0_unfoldBytes_17 (by decide) (fun c_17 => ?_) (fun c_17 => ?_)
  · have c_17 : cs ≤ x := (nI_leI (a := cs) (b := x) (by omega) (by omega)).mp c_17
    refine lv_iconst (v := ((-1))) hx hb dX0_unfoldBytes_121 (by decide) ?_
    have hR9 : rdK cs cd sz (6 + 4 * us) 0 mem = .inr f := by rw [hv, rdK, dif_pos (by omega)]
    exact W.iret (v := ((-1))) hx hb hr (fun t ht hW => ⟨⟨((-1)), (f), rfl, ⟨by rw [hR9], hfb, fun g q => by rw [hR9] at q; cases q; rfl⟩, by rw [ht]; exact hP, va_K.moved hW.alike hK, hD⟩, hS.F ht⟩) hS.2.2 dX0_unfoldBytes_122
  · have c_17 : ¬ cs ≤ x := fun q => c_17 ((nI_leI (a := cs) (b := x) (by omega) (by omega)).mpr q)
    refine lv_iload_n hx hb dX0_unfoldBytes_20 rfl (lv_at hl 0 rfl) ?_
    refine lv_aload_n hx hb dX0_unfoldBytes_21 rfl (lv_at hl 3 rfl) ?_
    refine va_get (D := (dC, dI)) (ci := 2) (v := .int (nI sz)) (C := RX2) (T := TX2) (N := 6) hx hb hts in_X2 hown hK hP 2 rfl rfl 3 (by decide) lk_3 (fun _ h9 => h9) rfl dX0_unfoldBytes_22 ?_
    refine lv_icmp_lt (tgt := 30) hx hb dX0_unfoldBytes_25 (by decide) (fun c_25 => ?_) (fun c_25 => ?_)
    · have c_25 : i < sz := (nI_ltI (a := i) (b := sz) (by omega) (by omega)).mp c_25
      refine lv_aload_n hx hb dX0_unfoldBytes_30 rfl (lv_at hl 2 rfl) ?_
      refine lv_iload_n hx hb dX0_unfoldBytes_31 rfl (lv_at hl 1 rfl) ?_
      have hPc := hP.sub (ws' := ow cB o oz cs cd) [0, 1] rfl
      have hKc := hK.sub (tys' := [(cB, .byte)]) [1] rfl
      refine vp_callSi (W.runV (As := [.int (nI x)]) (rest := []) ⟨hx, hb, hml, hown, hts⟩ (c_X0_byteAt l dC dI cB o oz cs cd x (by omega) (by omega) bcd) (cwV 1 hts gX0_unfoldBytes_X0_byteAt rfl rfl rfl (by decide +kernel) ⟨Nat.le_of_ble_eq_true rfl, Nat.le_of_ble_eq_true rfl⟩) ⟨fun a9 U g9 mk9 q9 => by obtain ⟨q0, qP, qK⟩ := q9; exact ⟨q0, qP, va_K.moved (u := U) (U := U.calling g9 mk9 a9) (Vm.Alike.refl U.vm) qK⟩, va_recv hKc hPc (ci := 0) (q0 := 0) rfl rfl, fun U hU hW => ⟨rfl, by rw [hU]; exact hPc, va_K.moved hW.alike hKc⟩⟩ rfl rfl hl.1 rfl (lv_room (Nat.le_of_ble_eq_true rfl)) dX0_unfoldBytes_32 ⟨Nat.zero_le _, Nat.zero_le _⟩) (fun r_32 hw => ?_)
      try dsimp only at hw
      subst hw
      have wy_32 := bcd x
      refine lv_istore (lv' := [(4, .int (nI (cd x))), (3, .int (nI i)), (2, .int (nI x)), (0, .ref (o 0)), (1, .ref (b 0))]) hx hb dX0_unfoldBytes_35 hl (by decide) rfl (fun ls hl => ?_)
      refine lv_iload hx hb dX0_unfoldBytes_37 (lv_at hl 0 rfl) ?_
      refine lv_if_eq (tgt := 68) hx hb dX0_unfoldBytes_39 (by decide) (fun c_39 => ?_) (fun c_39 => ?_)
      · have c_39 : cd x = 0 := (nZ_eq (by omega)).mp c_39
        refine lv_iload_n hx hb dX0_unfoldBytes_68 rfl (lv_at hl 2 rfl) ?_
        refine lv_iconst (v := (nI 1)) hx hb dX0_unfoldBytes_69 (by decide) ?_
        refine lv_iadd hx hb dX0_unfoldBytes_70 ?_
        refine tpi (nI_add _ _) ?_
        refine lv_aload_n hx hb dX0_unfoldBytes_71 rfl (lv_at hl 3 rfl) ?_
        refine va_get (D := (dC, dI)) (ci := 0) (v := .int (nI cs)) (C := RX0) (T := TX0) (N := 2) hx hb hts in_X0 hown hK hP 0 rfl rfl 1 (by decide) lk_2 (fun _ h9 => h9) rfl dX0_unfoldBytes_72 ?_
        refine lv_icmp_lt (tgt := 83) hx hb dX0_unfoldBytes_75 (by decide) (fun c_75 => ?_) (fun c_75 => ?_)
        · have c_75 : x + 1 < cs := (nI_ltI (a := x + 1) (b := cs) (by omega) (by omega)).mp c_75
          refine lv_iload_n hx hb dX0_unfoldBytes_83 rfl (lv_at hl 1 rfl) ?_
          refine lv_aload_n hx hb dX0_unfoldBytes_84 rfl (lv_at hl 3 rfl) ?_
          refine lv_iload_n hx hb dX0_unfoldBytes_85 rfl (lv_at hl 2 rfl) ?_
          refine lv_iconst (v := (nI 1)) hx hb dX0_unfoldBytes_86 (by decide) ?_
          refine lv_iadd hx hb dX0_unfoldBytes_87 ?_
          refine tpi (nI_add _ _) ?_
          have hPc := hP.sub (ws' := ow cB o oz cs cd) [0, 1] rfl
          have hKc := hK.sub (tys' := [(cB, .byte)]) [1] rfl
          refine vp_callSi (W.runV (As := [.int (nI (x + 1))]) (rest := [.int (nI i)]) ⟨hx, hb, hml, hown, hts⟩ (c_X0_byteAt l dC dI cB o oz cs cd (x + 1) (by omega) (by omega) bcd) (cwV 1 hts gX0_unfoldBytes_X0_byteAt rfl rfl rfl (by decide +kernel) ⟨Nat.le_of_ble_eq_true rfl, Nat.le_of_ble_eq_true rfl⟩) ⟨fun a9 U g9 mk9 q9 => by obtain ⟨q0, qP, qK⟩ := q9; exact ⟨q0, qP, va_K.moved (u := U) (U := U.calling g9 mk9 a9) (Vm.Alike.refl U.vm) qK⟩, va_recv hKc hPc (ci := 0) (q0 := 0) rfl rfl, fun U hU hW => ⟨rfl, by rw [hU]; exact hPc, va_K.moved hW.alike hKc⟩⟩ rfl rfl hl.1 rfl (lv_room (Nat.le_of_ble_eq_true rfl)) dX0_unfoldBytes_88 ⟨Nat.zero_le _, Nat.zero_le _⟩) (fun r_88 hw => ?_)
          try dsimp only at hw
          subst hw
          have wy_88 := bcd (x + 1)
          refine lv_iconst (v := (nI 1)) hx hb dX0_unfoldBytes_91 (by decide) ?_
          refine lv_iadd hx hb dX0_unfoldBytes_92 ?_
          refine tpi (nI_add _ _) ?_
          refine lv_iadd hx hb dX0_unfoldBytes_93 ?_
          refine tpi (nI_add _ _) ?_
          refine lv_istore_n (lv' := [(3, .int (nI (i + (cd (x + 1) + 1)))), (4, .int (nI (cd x))), (2, .int (nI x)), (0, .ref (o 0)), (1, .ref (b 0))]) hx hb dX0_unfoldBytes_94 rfl hl (by decide) rfl (fun ls hl => ?_)
          refine lv_iload_n hx hb dX0_unfoldBytes_95 rfl (lv_at hl 0 rfl) ?_
          refine lv_aload_n hx hb dX0_unfoldBytes_96 rfl (lv_at hl 4 rfl) ?_
          refine va_get (D := (dC, dI)) (ci := 2) (v := .int (nI sz)) (C := RX2) (T := TX2) (N := 6) hx hb hts in_X2 hown hK hP 2 rfl rfl 3 (by decide) lk_3 (fun _ h9 => h9) rfl dX0_unfoldBytes_97 ?_
          refine lv_icmp_gt (tgt := 113) hx hb dX0_unfoldBytes_100 (by decide) (fun c_100 => ?_) (fun c_100 => ?_)
          · have c_100 : sz < i + (cd (x + 1) + 1) := (nI_ltI (a := sz) (b := i + (cd (x + 1) + 1)) (by omega) (by omega)).mp c_100
            refine lv_iload_n hx hb dX0_unfoldBytes_113 rfl (lv_at hl 2 rfl) ?_
            have hR9 : rdK cs cd sz (6 + 4 * us) 0 mem = .inl (x) := by rw [hv, rdK, dif_neg (by omega), if_neg (by omega), if_neg (fun q => q c_39), if_neg (by omega), if_pos (by omega)]
            exact W.iret (v := (nI x)) hx hb hr (fun t ht hW => ⟨⟨(nI x), (f), rfl, ⟨by rw [hR9], hfb, fun g q => by rw [hR9] at q; cases q⟩, by rw [ht]; exact hP, va_K.moved hW.alike hK, hD⟩, hS.F ht⟩) hS.2.2 dX0_unfoldBytes_114
          · have c_100 : ¬ sz < i + (cd (x + 1) + 1) := fun q => c_100 ((nI_ltI (a := sz) (b := i + (cd (x + 1) + 1)) (by omega) (by omega)).mpr q)
            refine lv_iload_n hx hb dX0_unfoldBytes_103 rfl (lv_at hl 2 rfl) ?_
            refine lv_iconst (v := (nI 2)) hx hb dX0_unfoldBytes_104 (by decide) ?_
            refine lv_iadd hx hb dX0_unfoldBytes_105 ?_
            refine tpi (nI_add _ _) ?_
            refine lv_aload_n hx hb dX0_unfoldBytes_106 rfl (lv_at hl 3 rfl) ?_
            refine va_get (D := (dC, dI)) (ci := 0) (v := .int (nI cs)) (C := RX0) (T := TX0) (N := 2) hx hb hts in_X0 hown hK hP 0 rfl rfl 1 (by decide) lk_2 (fun _ h9 => h9) rfl dX0_unfoldBytes_107 ?_
            refine lv_icmp_lt (tgt := 115) hx hb dX0_unfoldBytes_110 (by decide) (fun c_110 => ?_) (fun c_110 => ?_)
            · have c_110 : x + 2 < cs := (nI_ltI (a := x + 2) (b := cs) (by omega) (by omega)).mp c_110
              refine lv_iinc (v := (nI (x + 2))) (lv' := [(2, .int (nI (x + 2))), (3, .int (nI (i + (cd (x + 1) + 1)))), (4, .int (nI (cd x))), (0, .ref (o 0)), (1, .ref (b 0))]) hx hb dX0_unfoldBytes_115 hl (k := 2) rfl (nI_inc2 _) (by decide) rfl (fun ls hl => ?_)
              refine lv_goto (tgt := 12) hx hb dX0_unfoldBytes_118 (by decide) ?_
              exact ih_12 (x + 2, i + (cd (x + 1) + 1), f) (⟨by omega, by omega, by rw [hv, rdK, dif_neg (by omega), if_neg (by omega), if_neg (fun q => q c_39), if_neg (by omega), if_neg (by omega)], hfb⟩) (show 20300 - (x + 2) < 20300 - x by omega) H locs ls (hP) (hD) hS (lv_sub hl [1, 0, 3, 4] rfl)
            · have c_110 : ¬ x + 2 < cs := fun q => c_110 ((nI_ltI (a := x + 2) (b := cs) (by omega) (by omega)).mpr q)
              refine lv_iload_n hx hb dX0_unfoldBytes_113 rfl (lv_at hl 2 rfl) ?_
              have hR9 : rdK cs cd sz (6 + 4 * us) 0 mem = .inl (x) := by rw [hv, rdK, dif_neg (by omega), if_neg (by omega), if_neg (fun q => q c_39), if_neg (by omega), if_pos (by omega)]
              exact W.iret (v := (nI x)) hx hb hr (fun t ht hW => ⟨⟨(nI x), (f), rfl, ⟨by rw [hR9], hfb, fun g q => by rw [hR9] at q; cases q⟩, by rw [ht]; exact hP, va_K.moved hW.alike hK, hD⟩, hS.F ht⟩) hS.2.2 dX0_unfoldBytes_114
        · have c_75 : ¬ x + 1 < cs := fun q => c_75 ((nI_ltI (a := x + 1) (b := cs) (by omega) (by omega)).mpr q)
          refine lv_aload_n hx hb dX0_unfoldBytes_78 rfl (lv_at hl 3 rfl) ?_
          refine va_get (D := (dC, dI)) (ci := 0) (v := .int (nI cs)) (C := RX0) (T := TX0) (N := 2) hx hb hts in_X0 hown hK hP 0 rfl rfl 1 (by decide) lk_2 (fun _ h9 => h9) rfl dX0_unfoldBytes_79 ?_
          have hR9 : rdK cs cd sz (6 + 4 * us) 0 mem = .inl (cs) := by rw [hv, rdK, dif_neg (by omega), if_neg (by omega), if_neg (fun q => q c_39), if_pos (by omega)]
          exact W.iret (v := (nI cs)) hx hb hr (fun t ht hW => ⟨⟨(nI cs), (f), rfl, ⟨by rw [hR9], hfb, fun g q => by rw [hR9] at q; cases q⟩, by rw [ht]; exact hP, va_K.moved hW.alike hK, hD⟩, hS.F ht⟩) hS.2.2 dX0_unfoldBytes_82
      · have c_39 : ¬ cd x = 0 := fun q => c_39 ((nZ_eq (by omega)).mpr q)
        refine lv_iload_n hx hb dX0_unfoldBytes_42 rfl (lv_at hl 1 rfl) ?_
        refine lv_bipush (v := (nI 64)) hx hb dX0_unfoldBytes_43 (by decide) ?_
        refine lv_icmp_ge (tgt := 50) hx hb dX0_unfoldBytes_45 (by decide) (fun c_45 => ?_) (fun c_45 => ?_)
        · have c_45 : 64 ≤ i := (nI_leI (a := 64) (b := i) (by omega) (by omega)).mp c_45
          refine lv_aload_n hx hb dX0_unfoldBytes_50 rfl (lv_at hl 4 rfl) ?_
          refine va_get (D := (dC, dI)) (ci := 2) (v := .ref (b 1)) (C := RX2) (T := TX2) (N := 6) hx hb hts in_X2 hown hK hP 2 rfl rfl 0 (by decide) lk_4 (fun _ h9 => h9) rfl dX0_unfoldBytes_51 ?_
          refine lv_iload_n hx hb dX0_unfoldBytes_54 rfl (lv_at hl 1 rfl) ?_
          refine lv_iload hx hb dX0_unfoldBytes_55 (lv_at hl 0 rfl) ?_
          refine lv_i2b (v := sb_b (cd x)) hx hb dX0_unfoldBytes_57 rfl ?_
          refine va_bast hx hb hK hP hD hS 3 1 rfl rfl (vp_in_nI (by omega) (by omega)) dX0_unfoldBytes_58 (fun H locs hP hD hS => ?_)
          rw [bf_up (by omega)] at hP hD
          have hP : va_P (dC, dI) vwCl (ow cB o oz cs cd ++ sw cB cI b sz st us (va_up f i (cd x)) pl ln) H := hP
          have hD : va_D A (ow cB o oz cs cd ++ sw cB cI b sz st us (va_up f i (cd x)) pl ln) := hD
          refine lv_iinc (v := (nI (i + 1))) (lv' := [(3, .int (nI (i + 1))), (4, .int (nI (cd x))), (2, .int (nI x)), (0, .ref (o 0)), (1, .ref (b 0))]) hx hb dX0_unfoldBytes_59 hl (k := 1) rfl (nI_inc _) (by decide) rfl (fun ls hl => ?_)
          refine lv_iinc (v := (nI (x + 1))) (lv' := [(2, .int (nI (x + 1))), (3, .int (nI (i + 1))), (4, .int (nI (cd x))), (0, .ref (o 0)), (1, .ref (b 0))]) hx hb dX0_unfoldBytes_62 hl (k := 2) rfl (nI_inc _) (by decide) rfl (fun ls hl => ?_)
          refine lv_goto (tgt := 12) hx hb dX0_unfoldBytes_65 (by decide) ?_
          exact ih_12 (x + 1, i + 1, va_up f i (cd x)) (⟨by omega, by omega, by rw [hv, rdK, dif_neg (by omega), if_neg (by omega), if_pos c_39, if_neg (by omega)], fun j => up_lt hfb (bcd x) j⟩) (show 20300 - (x + 1) < 20300 - x by omega) H locs ls (hP) (hD) hS (lv_sub hl [1, 0, 3, 4] rfl)
        · have c_45 : ¬ 64 ≤ i := fun q => c_45 ((nI_leI (a := 64) (b := i) (by omega) (by omega)).mpr q)
          refine lv_iload_n hx hb dX0_unfoldBytes_48 rfl (lv_at hl 2 rfl) ?_
          have hR9 : rdK cs cd sz (6 + 4 * us) 0 mem = .inl (x) := by rw [hv, rdK, dif_neg (by omega), if_neg (by omega), if_pos c_39, if_pos (by omega)]
          exact W.iret (v := (nI x)) hx hb hr (fun t ht hW => ⟨⟨(nI x), (f), rfl, ⟨by rw [hR9], hfb, fun g q => by rw [hR9] at q; cases q⟩, by rw [ht]; exact hP, va_K.moved hW.alike hK, hD⟩, hS.F ht⟩) hS.2.2 dX0_unfoldBytes_49
    · have c_25 : ¬ i < sz := fun q => c_25 ((nI_ltI (a := i) (b := sz) (by omega) (by omega)).mpr q)
      refine lv_iload_n hx hb dX0_unfoldBytes_28 rfl (lv_at hl 1 rfl) ?_
      have hR9 : rdK cs cd sz (6 + 4 * us) 0 mem = .inl (x) := by rw [hv, rdK, dif_neg (by omega), if_pos (by omega)]
      exact W.iret (v := (nI x)) hx hb hr (fun t ht hW => ⟨⟨(nI x), (f), rfl, ⟨by rw [hR9], hfb, fun g q => by rw [hR9] at q; cases q⟩, by rw [ht]; exact hP, va_K.moved hW.alike hK, hD⟩, hS.F ht⟩) hS.2.2 dX0_unfoldBytes_29
