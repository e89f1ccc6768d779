set_option maxHeartbeats 4000000 in
set_option maxRecDepth 100000 in
theorem c_X3_isWidth (l : Launch) (w9 : Int32)  : Met l yX3_isWidth wsX3_isWidth ({ frames := 0, cells := 0, slots := 0, locals := 0 }) (va_Pc [.int w9] (fun _ => True)) (vp_Si (fun r => ((w9 = nI 1 ∨ w9 = nI 2 ∨ w9 = nI 4) ∧ r = nI 1) ∨ (¬ (w9 = nI 1 ∨ w9 = nI 2 ∨ w9 = nI 4) ∧ r = nI 0))) 0 0 (fun _ => False) := by
  refine Met.ofW (cc := cX3_isWidth) (maxL := 1) (ret := (some .boolean)) (by decide) rfl ?_
  intro p e s m args below meth c s₁ B hml hv
  obtain ⟨rfl, -⟩ := hv
  have hx := B.exec
  have hb := B.bytes
  have hr := B.returns
  have hts := atoms_spec (ws := wsX3_isWidth) B.pre
  have hown : s.vm.findClass RX3 = some m.cls := findClass_of_methodNamed B.named
  have hlocks := B.notSynchronized
  have hl := lv_entry ([.int w9]) (n := 1) (Nat.le_of_ble_eq_true rfl)
  rw [lg_entry_eq]
  generalize (lg_sl ([.int w9]) ++ List.replicate (1 - (lg_sl ([.int w9])).length) Slot.unset).toArray = ls at hl ⊢
  have hl : lv_has ls 1 [(0, .int w9)] := hl
  refine lv_iload_n hx hb dX3_isWidth_0 rfl (lv_at hl 0 rfl) ?_
  refine lv_iconst (v := (nI 1)) hx hb dX3_isWidth_1 (by decide) ?_
  refine lv_icmp_eq (tgt := 15) hx hb dX3_isWidth_2 (by decide) (fun c_2 => ?_) (fun c_2 => ?_)
  · refine lv_iconst (v := (nI 1)) hx hb dX3_isWidth_15 (by decide) ?_
    refine lv_goto (tgt := 20) hx hb dX3_isWidth_16 (by decide) ?_
    exact W.zret (v := (nI 1)) (ty := .boolean) hx hb hr (by decide) (fun t ht hW => ⟨(nI 1), rfl, (Or.inl ⟨by first | (left; assumption) | (right; left; assumption) | (right; right; assumption), rfl⟩), ht⟩) (fun _ h9 => absurd h9 List.not_mem_nil) dX3_isWidth_20
  · refine lv_iload_n hx hb dX3_isWidth_5 rfl (lv_at hl 0 rfl) ?_
    refine lv_iconst (v := (nI 2)) hx hb dX3_isWidth_6 (by decide) ?_
    refine lv_icmp_eq (tgt := 15) hx hb dX3_isWidth_7 (by decide) (fun c_7 => ?_) (fun c_7 => ?_)
    · refine lv_iconst (v := (nI 1)) hx hb dX3_isWidth_15 (by decide) ?_
      refine lv_goto (tgt := 20) hx hb dX3_isWidth_16 (by decide) ?_
      exact W.zret (v := (nI 1)) (ty := .boolean) hx hb hr (by decide) (fun t ht hW => ⟨(nI 1), rfl, (Or.inl ⟨by first | (left; assumption) | (right; left; assumption) | (right; right; assumption), rfl⟩), ht⟩) (fun _ h9 => absurd h9 List.not_mem_nil) dX3_isWidth_20
    · refine lv_iload_n hx hb dX3_isWidth_10 rfl (lv_at hl 0 rfl) ?_
      refine lv_iconst (v := (nI 4)) hx hb dX3_isWidth_11 (by decide) ?_
      refine lv_icmp_ne (tgt := 19) hx hb dX3_isWidth_12 (by decide) (fun c_12 => ?_) (fun c_12 => ?_)
      · refine lv_iconst (v := (nI 0)) hx hb dX3_isWidth_19 (by decide) ?_
        exact W.zret (v := (nI 0)) (ty := .boolean) hx hb hr (by decide) (fun t ht hW => ⟨(nI 0), rfl, (Or.inr ⟨by rintro (h | h | h) <;> contradiction, rfl⟩), ht⟩) (fun _ h9 => absurd h9 List.not_mem_nil) dX3_isWidth_20
      · refine lv_iconst (v := (nI 1)) hx hb dX3_isWidth_15 (by decide) ?_
        refine lv_goto (tgt := 20) hx hb dX3_isWidth_16 (by decide) ?_
        exact W.zret (v := (nI 1)) (ty := .boolean) hx hb hr (by decide) (fun t ht hW => ⟨(nI 1), rfl, (Or.inl ⟨by first | (left; assumption) | (right; left; assumption) | (right; right; assumption), rfl⟩), ht⟩) (fun _ h9 => absurd h9 List.not_mem_nil) dX3_isWidth_20
set_option maxHeartbeats 4000000 in
set_option maxRecDepth 100000 in
theorem c_X3_isSize (l : Launch) (v : Nat) (g1 : v < 2 ^ 31) : Met l yX3_isSize wsX3_isSize ({ frames := 0, cells := 0, slots := 0, locals := 0 }) (va_Pc [.int (nI v)] (fun _ => True)) (vp_Si (fun r => ((isS v) ∧ r = nI 1) ∨ (¬ (isS v) ∧ r = nI 0))) 0 0 (fun _ => False) := by
  refine Met.ofW (cc := cX3_isSize) (maxL := 1) (ret := (some .boolean)) (by decide) rfl ?_
  intro p e s m args below meth c s₁ B hml hv
  obtain ⟨rfl, -⟩ := hv
  have hx := B.exec
  have hb := B.bytes
  have hr := B.returns
  have hts := atoms_spec (ws := wsX3_isSize) B.pre
  have hown : s.vm.findClass RX3 = some m.cls := findClass_of_methodNamed B.named
  have hlocks := B.notSynchronized
  have hl := lv_entry ([.int (nI v)]) (n := 1) (Nat.le_of_ble_eq_true rfl)
  rw [lg_entry_eq]
  generalize (lg_sl ([.int (nI v)]) ++ List.replicate (1 - (lg_sl ([.int (nI v)])).length) Slot.unset).toArray = ls at hl ⊢
  have hl : lv_has ls 1 [(0, .int (nI v))] := hl
  refine lv_iload_n hx hb dX3_isSize_0 rfl (lv_at hl 0 rfl) ?_
  refine lv_sipush (v := (nI 256)) hx hb dX3_isSize_1 (by decide) ?_
  refine lv_icmp_lt (tgt := 26) hx hb dX3_isSize_4 (by decide) (fun c_4 => ?_) (fun c_4 => ?_)
  · have c_4 : v < 256 := (nI_ltI (a := v) (b := 256) (by omega) (by omega)).mp c_4
    refine lv_iconst (v := (nI 0)) hx hb dX3_isSize_26 (by decide) ?_
    exact W.zret (v := (nI 0)) (ty := .boolean) hx hb hr (by decide) (fun t ht hW => ⟨(nI 0), rfl, (Or.inr ⟨by unfold isS; omega, rfl⟩), ht⟩) (fun _ h9 => absurd h9 List.not_mem_nil) dX3_isSize_27
  · have c_4 : ¬ v < 256 := fun q => c_4 ((nI_ltI (a := v) (b := 256) (by omega) (by omega)).mpr q)
    refine lv_iload_n hx hb dX3_isSize_7 rfl (lv_at hl 0 rfl) ?_
    refine lv_sipush (v := (nI 8192)) hx hb dX3_isSize_8 (by decide) ?_
    refine lv_icmp_gt (tgt := 26) hx hb dX3_isSize_11 (by decide) (fun c_11 => ?_) (fun c_11 => ?_)
    · have c_11 : 8192 < v := (nI_ltI (a := 8192) (b := v) (by omega) (by omega)).mp c_11
      refine lv_iconst (v := (nI 0)) hx hb dX3_isSize_26 (by decide) ?_
      exact W.zret (v := (nI 0)) (ty := .boolean) hx hb hr (by decide) (fun t ht hW => ⟨(nI 0), rfl, (Or.inr ⟨by unfold isS; omega, rfl⟩), ht⟩) (fun _ h9 => absurd h9 List.not_mem_nil) dX3_isSize_27
    · have c_11 : ¬ 8192 < v := fun q => c_11 ((nI_ltI (a := 8192) (b := v) (by omega) (by omega)).mpr q)
      refine lv_iload_n hx hb dX3_isSize_14 rfl (lv_at hl 0 rfl) ?_
      refine lv_sipush (v := (nI 256)) hx hb dX3_isSize_15 (by decide) ?_
      refine lv_irem hx hb dX3_isSize_18 (by decide) ?_
      refine tpi (pk_rem (by omega) (by decide) (by decide)) ?_
      refine lv_if_ne (tgt := 26) hx hb dX3_isSize_19 (by decide) (fun c_19 => ?_) (fun c_19 => ?_)
      · have c_19 : ¬ v % 256 = 0 := fun q => c_19 ((nZ_eq (by omega)).mpr q)
        refine lv_iconst (v := (nI 0)) hx hb dX3_isSize_26 (by decide) ?_
        exact W.zret (v := (nI 0)) (ty := .boolean) hx hb hr (by decide) (fun t ht hW => ⟨(nI 0), rfl, (Or.inr ⟨by unfold isS; omega, rfl⟩), ht⟩) (fun _ h9 => absurd h9 List.not_mem_nil) dX3_isSize_27
      · have c_19 : v % 256 = 0 := (nZ_eq (by omega)).mp c_19
        refine lv_iconst (v := (nI 1)) hx hb dX3_isSize_22 (by decide) ?_
        refine lv_goto (tgt := 27) hx hb dX3_isSize_23 (by decide) ?_
        exact W.zret (v := (nI 1)) (ty := .boolean) hx hb hr (by decide) (fun t ht hW => ⟨(nI 1), rfl, (Or.inl ⟨by unfold isS; omega, rfl⟩), ht⟩) (fun _ h9 => absurd h9 List.not_mem_nil) dX3_isSize_27
set_option maxHeartbeats 4000000 in
set_option maxRecDepth 100000 in
theorem c_X3_isSizeN (l : Launch) (v : Int32) (g1 : v < 0) : Met l yX3_isSize wsX3_isSize ({ frames := 0, cells := 0, slots := 0, locals := 0 }) (va_Pc [.int v] (fun _ => True)) (vp_Si (fun r => r = nI 0)) 0 0 (fun _ => False) := by
  refine Met.ofW (cc := cX3_isSize) (maxL := 1) (ret := (some .boolean)) (by decide) rfl ?_
  intro p e s m args below meth c s₁ B hml hv
  obtain ⟨rfl, -⟩ := hv
  have hx := B.exec
  have hb := B.bytes
  have hr := B.returns
  have hts := atoms_spec (ws := wsX3_isSize) B.pre
  have hown : s.vm.findClass RX3 = some m.cls := findClass_of_methodNamed B.named
  have hlocks := B.notSynchronized
  have hl := lv_entry ([.int v]) (n := 1) (Nat.le_of_ble_eq_true rfl)
  rw [lg_entry_eq]
  generalize (lg_sl ([.int v]) ++ List.replicate (1 - (lg_sl ([.int v])).length) Slot.unset).toArray = ls at hl ⊢
  have hl : lv_has ls 1 [(0, .int v)] := hl
  refine lv_iload_n hx hb dX3_isSize_0 rfl (lv_at hl 0 rfl) ?_
  refine lv_sipush (v := (nI 256)) hx hb dX3_isSize_1 (by decide) ?_
  refine lv_icmp_lt (tgt := 26) hx hb dX3_isSize_4 (by decide) (fun c_4 => ?_) (fun c_4 => ?_)
  · refine lv_iconst (v := (nI 0)) hx hb dX3_isSize_26 (by decide) ?_
    exact W.zret (v := (nI 0)) (ty := .boolean) hx hb hr (by decide) (fun t ht hW => ⟨(nI 0), rfl, (show (nI 0) = nI 0 from rfl), ht⟩) (fun _ h9 => absurd h9 List.not_mem_nil) dX3_isSize_27
  · skip
    exact absurd (Int32.lt_of_lt_of_le g1 (by decide)) c_4
set_option maxHeartbeats 4000000 in
set_option maxRecDepth 100000 in
theorem c_X0_unfoldHead (l : Launch) (dC : Nat → ClassId) (dI : Nat → Nat → Nat) (cB cI : ClassId) (o b : Nat → Nat) (oz : Nat) (cs : Nat) (cd : Nat → Nat) (sz : Nat) (st : Nat) (us : Nat) (mem : Nat → Nat) (pl : Nat → Nat) (ln : Nat → Nat) (zz : Nat)  (gz : cs ≤ oz) (g0 : oz ≤ 20000) (bcd : ∀ j, cd j < 256) : Met l yX0_unfoldHead wsX0_unfoldHead ({ frames := 2, cells := 0, slots := 0, locals := 42 }) (va_Pc [.ref (o 0), .ref (b 0)] (fun U => U.heap.size = zz ∧ va_P (dC, dI) vwCl (ow cB o oz cs cd ++ sw cB cI b sz st us mem pl ln) U.heap ∧ va_K (dC, dI) vwCl [(cI, .int), (cB, .byte)] U ∧ va_D (fun _ => True) (ow cB o oz cs cd ++ sw cB cI b sz st us mem pl ln) ∧ va_Nw (.methodLinkNest RX0 79 yX3_isSize "GlulxHeap") U)) (va_Qi (fun (r : Int32) (u : Nat × Nat × Nat) => match u with | ⟨sz2, st2, us2⟩ => r = (match hdH cs cd with | some w => nI w | none => (-1)) ∧ (hdH cs cd = none → sz2 = tw cd 0 ∧ st2 = tw cd 2 ∧ us2 = tw cd 4)) (fun (u : Nat × Nat × Nat) t => match u with | ⟨sz2, st2, us2⟩ => va_P (dC, dI) vwCl (ow cB o oz cs cd ++ sw cB cI b sz2 st2 us2 mem pl ln) t.heap ∧ va_K (dC, dI) vwCl [(cI, .int), (cB, .byte)] t ∧ va_D (va_A (ow cB o oz cs cd ++ sw cB cI b sz st us mem pl ln) zz) (ow cB o oz cs cd ++ sw cB cI b sz2 st2 us2 mem pl ln)) (va_A (ow cB o oz cs cd ++ sw cB cI b sz st us mem pl ln) zz)) 0 0 (va_A (ow cB o oz cs cd ++ sw cB cI b sz st us mem pl ln) zz) := by
  refine Met.ofW (cc := cX0_unfoldHead) (maxL := 5) (ret := (some .int)) (by decide) rfl ?_
  intro p e s m args below meth c s₁ B hml hv
  obtain ⟨rfl, hsz, hP, hK, hD0, hN0⟩ := hv
  have hx := B.exec
  have hb := B.bytes
  have hr := B.returns
  have hts := atoms_spec (ws := wsX0_unfoldHead) B.pre
  have hown : s.vm.findClass RX0 = some m.cls := findClass_of_methodNamed B.named
  have hlocks := B.notSynchronized
  subst hsz
  have hD := hD0.self (sz := s.heap.size)
  generalize hAe : va_A (ow cB o oz cs cd ++ sw cB cI b sz st us mem pl ln) s.heap.size = A at hD ⊢
  have hA : ∀ q : Nat, s.heap.size ≤ q → A q := fun q h => by rw [← hAe]; exact Or.inr h
  have hS : va_S A s.heap s.heap [] := va_S.rf
  have hP : va_P (dC, dI) vwCl (ow cB o oz cs cd ++ sw cB cI b sz st us mem pl ln) s.heap := hP
  have in_X0 : ∀ w ∈ wsX00, w ∈ wsX0_unfoldHead := fun _ h => List.mem_cons_of_mem _ (List.mem_append_left _ (List.mem_append_right _ (h)))
  have in_X2 : ∀ w ∈ wsX20, w ∈ wsX0_unfoldHead := fun _ h => List.mem_cons_of_mem _ (List.mem_append_right _ (h))
  have lk_1 := hts (.fieldLink RX0 15 "GlulxHeap$Code" "length" "I") (List.mem_of_getElem? (i := 1) rfl)
  have lk_2 := hts (.fieldLink RX0 27 "GlulxHeap$State" "size" "I") (List.mem_of_getElem? (i := 2) rfl)
  have lk_3 := hts (.fieldLink RX0 35 "GlulxHeap$State" "start" "I") (List.mem_of_getElem? (i := 3) rfl)
  have lk_4 := hts (.fieldLink RX0 38 "GlulxHeap$State" "used" "I") (List.mem_of_getElem? (i := 4) rfl)
  have lk_15 := hts (.static yX3_isSize) (List.mem_of_getElem? (i := 15) rfl)
  have lk_16 := hts (.initialized RX3) (List.mem_of_getElem? (i := 16) rfl)
  have hl := lv_entry ([.ref (o 0), .ref (b 0)]) (n := 5) (Nat.le_of_ble_eq_true rfl)
  rw [lg_entry_eq]
  generalize (lg_sl ([.ref (o 0), .ref (b 0)]) ++ List.replicate (5 - (lg_sl ([.ref (o 0), .ref (b 0)])).length) Slot.unset).toArray = ls at hl ⊢
  have hl : lv_has ls 5 [(0, .ref (o 0)), (1, .ref (b 0))] := hl
  refine lv_aload_n hx hb dX0_unfoldHead_0 rfl (lv_at hl 0 rfl) ?_
  refine va_get (D := (dC, dI)) (ci := 0) (v := .int (nI cs)) (C := RX0) (T := TX0) (N := 2) hx hb hts in_X0 hown hK hP 0 rfl rfl 1 (by decide) lk_1 (fun _ h9 => h9) rfl dX0_unfoldHead_1 ?_
  refine lv_iconst (v := (nI 2)) hx hb dX0_unfoldHead_4 (by decide) ?_
  refine lv_icmp_ge (tgt := 13) hx hb dX0_unfoldHead_5 (by decide) (fun c_5 => ?_) (fun c_5 => ?_)
  · have c_5 : 2 ≤ cs := (nI_leI (a := 2) (b := cs) (by omega) (by omega)).mp c_5
    refine lv_aload_n hx hb dX0_unfoldHead_13 rfl (lv_at hl 0 rfl) ?_
    refine lv_iconst (v := (nI 0)) hx hb dX0_unfoldHead_14 (by decide) ?_
    have hPc := hP.sub (ws' := ow cB o oz cs cd) [0, 1] rfl
    have hKc := hK.sub (tys' := [(cB, .byte)]) [1] rfl
    refine vp_callSi (W.runV (As := [.int (nI 0)]) (rest := []) ⟨hx, hb, hml, hown, hts⟩ (c_X0_pairAt l dC dI cB o oz cs cd 0 (by omega) (by omega) bcd) (cwV 1 hts gX0_unfoldHead_X0_pairAt rfl rfl rfl (by decide +kernel) ⟨Nat.le_of_ble_eq_true rfl, Nat.le_of_ble_eq_true rfl⟩) ⟨fun a9 U g9 mk9 q9 => by obtain ⟨q0, qP, qK⟩ := q9; exact ⟨q0, qP, va_K.moved (u := U) (U := U.calling g9 mk9 a9) (Vm.Alike.refl U.vm) qK⟩, va_recv hKc hPc (ci := 0) (q0 := 0) rfl rfl, fun U hU hW => ⟨rfl, by rw [hU]; exact hPc, va_K.moved hW.alike hKc⟩⟩ rfl rfl hl.1 rfl (lv_room (Nat.le_of_ble_eq_true rfl)) dX0_unfoldHead_15 ⟨Nat.zero_le _, Nat.zero_le _⟩) (fun r_15 hw => ?_)
    try dsimp only at hw
    subst hw
    have wt_15 := tw_lt bcd 0
    refine lv_istore_n (lv' := [(2, .int (nI (tw cd 0))), (0, .ref (o 0)), (1, .ref (b 0))]) hx hb dX0_unfoldHead_18 rfl hl (by decide) rfl (fun ls hl => ?_)
    refine lv_iload_n hx hb dX0_unfoldHead_19 rfl (lv_at hl 0 rfl) ?_
    refine vp_callSi (va_Run.run (va_runSN (As := [.int (nI (tw cd 0))]) (rest := []) ⟨hx, hb, hml, hown, hts⟩ (c_X3_isSize l (tw cd 0) (by omega)) ⟨va_cnB 1 hts gX0_unfoldHead_X3_isSize_n79 rfl rfl rfl hN0 lk_16 (by decide +kernel) ⟨Nat.le_of_ble_eq_true rfl, Nat.le_of_ble_eq_true rfl⟩, lk_15, trivial⟩ ⟨fun a9 U g9 mk9 q9 => ⟨q9.1, trivial⟩, fun U hU hW => ⟨rfl, trivial⟩⟩ rfl rfl hl.1 rfl (lv_room (Nat.le_of_ble_eq_true rfl)) dX0_unfoldHead_20 ⟨Nat.zero_le _, Nat.zero_le _⟩)) (fun r_20 hw => ?_)
    try dsimp only at hw
    rcases hw with ⟨hc_20, rfl⟩ | ⟨hc_20, rfl⟩
    · skip
      refine lv_if_ne (tgt := 28) hx hb dX0_unfoldHead_23 (by decide) (fun c_23 => ?_) (fun c_23 => ?_)
      · have c_23 : ¬ 1 = 0 := fun q => c_23 ((nZ_eq (by omega)).mpr q)
        refine lv_aload_n hx hb dX0_unfoldHead_28 rfl (lv_at hl 1 rfl) ?_
        refine va_get (D := (dC, dI)) (ci := 0) (v := .int (nI cs)) (C := RX0) (T := TX0) (N := 2) hx hb hts in_X0 hown hK hP 0 rfl rfl 1 (by decide) lk_1 (fun _ h9 => h9) rfl dX0_unfoldHead_29 ?_
        refine lv_iconst (v := (nI 4)) hx hb dX0_unfoldHead_32 (by decide) ?_
        refine lv_icmp_ge (tgt := 41) hx hb dX0_unfoldHead_33 (by decide) (fun c_33 => ?_) (fun c_33 => ?_)
        · have c_33 : 4 ≤ cs := (nI_leI (a := 4) (b := cs) (by omega) (by omega)).mp c_33
          refine lv_aload_n hx hb dX0_unfoldHead_41 rfl (lv_at hl 1 rfl) ?_
          refine lv_iconst (v := (nI 2)) hx hb dX0_unfoldHead_42 (by decide) ?_
          have hPc := hP.sub (ws' := ow cB o oz cs cd) [0, 1] rfl
          have hKc := hK.sub (tys' := [(cB, .byte)]) [1] rfl
          refine vp_callSi (W.runV (As := [.int (nI 2)]) (rest := []) ⟨hx, hb, hml, hown, hts⟩ (c_X0_pairAt l dC dI cB o oz cs cd 2 (by omega) (by omega) bcd) (cwV 1 hts gX0_unfoldHead_X0_pairAt rfl rfl rfl (by decide +kernel) ⟨Nat.le_of_ble_eq_true rfl, Nat.le_of_ble_eq_true rfl⟩) ⟨fun a9 U g9 mk9 q9 => by obtain ⟨q0, qP, qK⟩ := q9; exact ⟨q0, qP, va_K.moved (u := U) (U := U.calling g9 mk9 a9) (Vm.Alike.refl U.vm) qK⟩, va_recv hKc hPc (ci := 0) (q0 := 0) rfl rfl, fun U hU hW => ⟨rfl, by rw [hU]; exact hPc, va_K.moved hW.alike hKc⟩⟩ rfl rfl hl.1 rfl (lv_room (Nat.le_of_ble_eq_true rfl)) dX0_unfoldHead_43 ⟨Nat.zero_le _, Nat.zero_le _⟩) (fun r_43 hw => ?_)
          try dsimp only at hw
          subst hw
          have wt_43 := tw_lt bcd 2
          refine lv_istore_n (lv' := [(3, .int (nI (tw cd 2))), (2, .int (nI (tw cd 0))), (0, .ref (o 0)), (1, .ref (b 0))]) hx hb dX0_unfoldHead_46 rfl hl (by decide) rfl (fun ls hl => ?_)
          refine lv_iload_n hx hb dX0_unfoldHead_47 rfl (lv_at hl 0 rfl) ?_
          refine lv_if_eq (tgt := 65) hx hb dX0_unfoldHead_48 (by decide) (fun c_48 => ?_) (fun c_48 => ?_)
          · have c_48 : tw cd 2 = 0 := (nZ_eq (by omega)).mp c_48
            refine lv_aload_n hx hb dX0_unfoldHead_65 rfl (lv_at hl 2 rfl) ?_
            refine va_get (D := (dC, dI)) (ci := 0) (v := .int (nI cs)) (C := RX0) (T := TX0) (N := 2) hx hb hts in_X0 hown hK hP 0 rfl rfl 1 (by decide) lk_1 (fun _ h9 => h9) rfl dX0_unfoldHead_66 ?_
            refine lv_bipush (v := (nI 6)) hx hb dX0_unfoldHead_69 (by decide) ?_
            refine lv_icmp_ge (tgt := 79) hx hb dX0_unfoldHead_71 (by decide) (fun c_71 => ?_) (fun c_71 => ?_)
            · have c_71 : 6 ≤ cs := (nI_leI (a := 6) (b := cs) (by omega) (by omega)).mp c_71
              refine lv_aload_n hx hb dX0_unfoldHead_79 rfl (lv_at hl 2 rfl) ?_
              refine lv_iconst (v := (nI 4)) hx hb dX0_unfoldHead_80 (by decide) ?_
              have hPc := hP.sub (ws' := ow cB o oz cs cd) [0, 1] rfl
              have hKc := hK.sub (tys' := [(cB, .byte)]) [1] rfl
              refine vp_callSi (W.runV (As := [.int (nI 4)]) (rest := []) ⟨hx, hb, hml, hown, hts⟩ (c_X0_pairAt l dC dI cB o oz cs cd 4 (by omega) (by omega) bcd) (cwV 1 hts gX0_unfoldHead_X0_pairAt rfl rfl rfl (by decide +kernel) ⟨Nat.le_of_ble_eq_true rfl, Nat.le_of_ble_eq_true rfl⟩) ⟨fun a9 U g9 mk9 q9 => by obtain ⟨q0, qP, qK⟩ := q9; exact ⟨q0, qP, va_K.moved (u := U) (U := U.calling g9 mk9 a9) (Vm.Alike.refl U.vm) qK⟩, va_recv hKc hPc (ci := 0) (q0 := 0) rfl rfl, fun U hU hW => ⟨rfl, by rw [hU]; exact hPc, va_K.moved hW.alike hKc⟩⟩ rfl rfl hl.1 rfl (lv_room (Nat.le_of_ble_eq_true rfl)) dX0_unfoldHead_81 ⟨Nat.zero_le _, Nat.zero_le _⟩) (fun r_81 hw => ?_)
              try dsimp only at hw
              subst hw
              have wt_81 := tw_lt bcd 4
              refine lv_istore (lv' := [(4, .int (nI (tw cd 4))), (3, .int (nI (tw cd 2))), (2, .int (nI (tw cd 0))), (0, .ref (o 0)), (1, .ref (b 0))]) hx hb dX0_unfoldHead_84 hl (by decide) rfl (fun ls hl => ?_)
              refine lv_iload hx hb dX0_unfoldHead_86 (lv_at hl 0 rfl) ?_
              refine lv_bipush (v := (nI 64)) hx hb dX0_unfoldHead_88 (by decide) ?_
              refine lv_icmp_gt (tgt := 115) hx hb dX0_unfoldHead_90 (by decide) (fun c_90 => ?_) (fun c_90 => ?_)
              · have c_90 : 64 < tw cd 4 := (nI_ltI (a := 64) (b := tw cd 4) (by omega) (by omega)).mp c_90
                refine lv_iconst (v := (nI 4)) hx hb dX0_unfoldHead_115 (by decide) ?_
                have hS9 : hdH cs cd = some (4) := by unfold hdH; rw [if_neg (by omega), if_neg (fun q => q hc_20), if_neg (by omega), if_neg (fun q => q.1 c_48), if_neg (by omega), if_pos (by omega)]
                exact W.iret (v := (nI 4)) hx hb hr (fun t ht hW => ⟨⟨(nI 4), (sz, st, us), rfl, ⟨by rw [hS9], fun q => by rw [hS9] at q; cases q⟩, by rw [ht]; exact hP, va_K.moved hW.alike hK, hD⟩, hS.F ht⟩) hS.2.2 dX0_unfoldHead_116
              · have c_90 : ¬ 64 < tw cd 4 := fun q => c_90 ((nI_ltI (a := 64) (b := tw cd 4) (by omega) (by omega)).mpr q)
                refine lv_iload hx hb dX0_unfoldHead_93 (lv_at hl 0 rfl) ?_
                refine lv_if_ne (tgt := 102) hx hb dX0_unfoldHead_95 (by decide) (fun c_95 => ?_) (fun c_95 => ?_)
                · have c_95 : ¬ tw cd 4 = 0 := fun q => c_95 ((nZ_eq (by omega)).mpr q)
                  refine lv_iconst (v := (nI 0)) hx hb dX0_unfoldHead_102 (by decide) ?_
                  refine lv_iload_n hx hb dX0_unfoldHead_103 rfl (lv_at hl 1 rfl) ?_
                  refine lv_if_ne (tgt := 111) hx hb dX0_unfoldHead_104 (by decide) (fun c_104 => ?_) (fun c_104 => ?_)
                  · have c_104 : ¬ tw cd 2 = 0 := fun q => c_104 ((nZ_eq (by omega)).mpr q)
                    refine lv_iconst (v := (nI 0)) hx hb dX0_unfoldHead_111 (by decide) ?_
                    refine lv_icmp_eq (tgt := 117) hx hb dX0_unfoldHead_112 (by decide) (fun c_112 => ?_) (fun c_112 => ?_)
                    · have c_112 : 0 = 0 := (nI_eq (a := 0) (b := 0) (by omega) (by omega)).mp c_112
                      refine lv_aload_n hx hb dX0_unfoldHead_117 rfl (lv_at hl 4 rfl) ?_
                      refine lv_iload_n hx hb dX0_unfoldHead_118 rfl (lv_at hl 2 rfl) ?_
                      refine va_put (D := (dC, dI)) (ci := 2) (v := .int (nI (tw cd 0))) (ty := .int) (C := RX2) (T := TX2) (N := 6) hx hb hts in_X2 tyX2 tyX2_ok nmX2 hown hK hP hD hS 2 rfl rfl 3 (by decide) lk_2 (fun _ h9 => h9) rfl (by decide +kernel) rfl rfl (Nat.le_of_ble_eq_true rfl) dX0_unfoldHead_119 (fun H locs hP hD hS => ?_)
                      have hP : va_P (dC, dI) vwCl (ow cB o oz cs cd ++ sw cB cI b (tw cd 0) st us mem pl ln) H := hP
                      have hD : va_D A (ow cB o oz cs cd ++ sw cB cI b (tw cd 0) st us mem pl ln) := hD
                      refine lv_aload_n hx hb dX0_unfoldHead_122 rfl (lv_at hl 4 rfl) ?_
                      refine lv_iload_n hx hb dX0_unfoldHead_123 rfl (lv_at hl 1 rfl) ?_
                      refine va_put (D := (dC, dI)) (ci := 2) (v := .int (nI (tw cd 2))) (ty := .int) (C := RX2) (T := TX2) (N := 6) hx hb hts in_X2 tyX2 tyX2_ok nmX2 hown hK hP hD hS 2 rfl rfl 4 (by decide) lk_3 (fun _ h9 => h9) rfl (by decide +kernel) rfl rfl (Nat.le_of_ble_eq_true rfl) dX0_unfoldHead_124 (fun H locs hP hD hS => ?_)
                      have hP : va_P (dC, dI) vwCl (ow cB o oz cs cd ++ sw cB cI b (tw cd 0) (tw cd 2) us mem pl ln) H := hP
                      have hD : va_D A (ow cB o oz cs cd ++ sw cB cI b (tw cd 0) (tw cd 2) us mem pl ln) := hD
                      refine lv_aload_n hx hb dX0_unfoldHead_127 rfl (lv_at hl 4 rfl) ?_
                      refine lv_iload hx hb dX0_unfoldHead_128 (lv_at hl 0 rfl) ?_
                      refine va_put (D := (dC, dI)) (ci := 2) (v := .int (nI (tw cd 4))) (ty := .int) (C := RX2) (T := TX2) (N := 6) hx hb hts in_X2 tyX2 tyX2_ok nmX2 hown hK hP hD hS 2 rfl rfl 5 (by decide) lk_4 (fun _ h9 => h9) rfl (by decide +kernel) rfl rfl (Nat.le_of_ble_eq_true rfl) dX0_unfoldHead_130 (fun H locs hP hD hS => ?_)
                      have hP : va_P (dC, dI) vwCl (ow cB o oz cs cd ++ sw cB cI b (tw cd 0) (tw cd 2) (tw cd 4) mem pl ln) H := hP
                      have hD : va_D A (ow cB o oz cs cd ++ sw cB cI b (tw cd 0) (tw cd 2) (tw cd 4) mem pl ln) := hD
                      refine lv_iconst (v := ((-1))) hx hb dX0_unfoldHead_133 (by decide) ?_
                      have hS9 : hdH cs cd = none := by unfold hdH; rw [if_neg (by omega), if_neg (fun q => q hc_20), if_neg (by omega), if_neg (fun q => q.1 c_48), if_neg (by omega), if_neg (by omega)]
                      exact W.iret (v := ((-1))) hx hb hr (fun t ht hW => ⟨⟨((-1)), (tw cd 0, tw cd 2, tw cd 4), rfl, ⟨by rw [hS9], fun _ => ⟨rfl, rfl, rfl⟩⟩, by rw [ht]; exact hP, va_K.moved hW.alike hK, hD⟩, hS.F ht⟩) hS.2.2 dX0_unfoldHead_134
                    · exact absurd c_112 (by decide)
                  · have c_104 : tw cd 2 = 0 := (nZ_eq (by omega)).mp c_104
                    refine lv_iconst (v := (nI 1)) hx hb dX0_unfoldHead_107 (by decide) ?_
                    refine lv_goto (tgt := 112) hx hb dX0_unfoldHead_108 (by decide) ?_
                    refine lv_icmp_eq (tgt := 117) hx hb dX0_unfoldHead_112 (by decide) (fun c_112 => ?_) (fun c_112 => ?_)
                    · exact absurd c_112 (by decide)
                    · have c_112 : ¬ 0 = 1 := fun q => c_112 ((nI_eq (a := 0) (b := 1) (by omega) (by omega)).mpr q)
                      refine lv_iconst (v := (nI 4)) hx hb dX0_unfoldHead_115 (by decide) ?_
                      have hS9 : hdH cs cd = some (4) := by unfold hdH; rw [if_neg (by omega), if_neg (fun q => q hc_20), if_neg (by omega), if_neg (fun q => q.1 c_48), if_neg (by omega), if_pos (by omega)]
                      exact W.iret (v := (nI 4)) hx hb hr (fun t ht hW => ⟨⟨(nI 4), (sz, st, us), rfl, ⟨by rw [hS9], fun q => by rw [hS9] at q; cases q⟩, by rw [ht]; exact hP, va_K.moved hW.alike hK, hD⟩, hS.F ht⟩) hS.2.2 dX0_unfoldHead_116
                · have c_95 : tw cd 4 = 0 := (nZ_eq (by omega)).mp c_95
                  refine lv_iconst (v := (nI 1)) hx hb dX0_unfoldHead_98 (by decide) ?_
                  refine lv_goto (tgt := 103) hx hb dX0_unfoldHead_99 (by decide) ?_
                  refine lv_iload_n hx hb dX0_unfoldHead_103 rfl (lv_at hl 1 rfl) ?_
                  refine lv_if_ne (tgt := 111) hx hb dX0_unfoldHead_104 (by decide) (fun c_104 => ?_) (fun c_104 => ?_)
                  · have c_104 : ¬ tw cd 2 = 0 := fun q => c_104 ((nZ_eq (by omega)).mpr q)
                    refine lv_iconst (v := (nI 0)) hx hb dX0_unfoldHead_111 (by decide) ?_
                    refine lv_icmp_eq (tgt := 117) hx hb dX0_unfoldHead_112 (by decide) (fun c_112 => ?_) (fun c_112 => ?_)
                    · exact absurd c_112 (by decide)
                    · have c_112 : ¬ 1 = 0 := fun q => c_112 ((nI_eq (a := 1) (b := 0) (by omega) (by omega)).mpr q)
                      refine lv_iconst (v := (nI 4)) hx hb dX0_unfoldHead_115 (by decide) ?_
                      have hS9 : hdH cs cd = some (4) := by unfold hdH; rw [if_neg (by omega), if_neg (fun q => q hc_20), if_neg (by omega), if_neg (fun q => q.1 c_48), if_neg (by omega), if_pos (by omega)]
                      exact W.iret (v := (nI 4)) hx hb hr (fun t ht hW => ⟨⟨(nI 4), (sz, st, us), rfl, ⟨by rw [hS9], fun q => by rw [hS9] at q; cases q⟩, by rw [ht]; exact hP, va_K.moved hW.alike hK, hD⟩, hS.F ht⟩) hS.2.2 dX0_unfoldHead_116
                  · have c_104 : tw cd 2 = 0 := (nZ_eq (by omega)).mp c_104
                    refine lv_iconst (v := (nI 1)) hx hb dX0_unfoldHead_107 (by decide) ?_
                    refine lv_goto (tgt := 112) hx hb dX0_unfoldHead_108 (by decide) ?_
                    refine lv_icmp_eq (tgt := 117) hx hb dX0_unfoldHead_112 (by decide) (fun c_112 => ?_) (fun c_112 => ?_)
                    · have c_112 : 1 = 1 := (nI_eq (a := 1) (b := 1) (by omega) (by omega)).mp c_112
                      refine lv_aload_n hx hb dX0_unfoldHead_117 rfl (lv_at hl 4 rfl) ?_
                      refine lv_iload_n hx hb dX0_unfoldHead_118 rfl (lv_at hl 2 rfl) ?_
                      refine va_put (D := (dC, dI)) (ci := 2) (v := .int (nI (tw cd 0))) (ty := .int) (C := RX2) (T := TX2) (N := 6) hx hb hts in_X2 tyX2 tyX2_ok nmX2 hown hK hP hD hS 2 rfl rfl 3 (by decide) lk_2 (fun _ h9 => h9) rfl (by decide +kernel) rfl rfl (Nat.le_of_ble_eq_true rfl) dX0_unfoldHead_119 (fun H locs hP hD hS => ?_)
                      have hP : va_P (dC, dI) vwCl (ow cB o oz cs cd ++ sw cB cI b (tw cd 0) st us mem pl ln) H := hP
                      have hD : va_D A (ow cB o oz cs cd ++ sw cB cI b (tw cd 0) st us mem pl ln) := hD
                      refine lv_aload_n hx hb dX0_unfoldHead_122 rfl (lv_at hl 4 rfl) ?_
                      refine lv_iload_n hx hb dX0_unfoldHead_123 rfl (lv_at hl 1 rfl) ?_
                      refine va_put (D := (dC, dI)) (ci := 2) (v := .int (nI (tw cd 2))) (ty := .int) (C := RX2) (T := TX2) (N := 6) hx hb hts in_X2 tyX2 tyX2_ok nmX2 hown hK hP hD hS 2 rfl rfl 4 (by decide) lk_3 (fun _ h9 => h9) rfl (by decide +kernel) rfl rfl (Nat.le_of_ble_eq_true rfl) dX0_unfoldHead_124 (fun H locs hP hD hS => ?_)
                      have hP : va_P (dC, dI) vwCl (ow cB o oz cs cd ++ sw cB cI b (tw cd 0) (tw cd 2) us mem pl ln) H := hP
                      have hD : va_D A (ow cB o oz cs cd ++ sw cB cI b (tw cd 0) (tw cd 2) us mem pl ln) := hD
                      refine lv_aload_n hx hb dX0_unfoldHead_127 rfl (lv_at hl 4 rfl) ?_
                      refine lv_iload hx hb dX0_unfoldHead_128 (lv_at hl 0 rfl) ?_
                      refine va_put (D := (dC, dI)) (ci := 2) (v := .int (nI (tw cd 4))) (ty := .int) (C := RX2) (T := TX2) (N := 6) hx hb hts in_X2 tyX2 tyX2_ok nmX2 hown hK hP hD hS 2 rfl rfl 5 (by decide) lk_4 (fun _ h9 => h9) rfl (by decide +kernel) rfl rfl (Nat.le_of_ble_eq_true rfl) dX0_unfoldHead_130 (fun H locs hP hD hS => ?_)
                      have hP : va_P (dC, dI) vwCl (ow cB o oz cs cd ++ sw cB cI b (tw cd 0) (tw cd 2) (tw cd 4) mem pl ln) H := hP
                      have hD : va_D A (ow cB o oz cs cd ++ sw cB cI b (tw cd 0) (tw cd 2) (tw cd 4) mem pl ln) := hD
                      refine lv_iconst (v := ((-1))) hx hb dX0_unfoldHead_133 (by decide) ?_
                      have hS9 : hdH cs cd = none := by unfold hdH; rw [if_neg (by omega), if_neg (fun q => q hc_20), if_neg (by omega), if_neg (fun q => q.1 c_48), if_neg (by omega), if_neg (by omega)]
                      exact W.iret (v := ((-1))) hx hb hr (fun t ht hW => ⟨⟨((-1)), (tw cd 0, tw cd 2, tw cd 4), rfl, ⟨by rw [hS9], fun _ => ⟨rfl, rfl, rfl⟩⟩, by rw [ht]; exact hP, va_K.moved hW.alike hK, hD⟩, hS.F ht⟩) hS.2.2 dX0_unfoldHead_134
                    · exact absurd c_112 (by decide)
            · have c_71 : ¬ 6 ≤ cs := fun q => c_71 ((nI_leI (a := 6) (b := cs) (by omega) (by omega)).mpr q)
              refine lv_aload_n hx hb dX0_unfoldHead_74 rfl (lv_at hl 2 rfl) ?_
              refine va_get (D := (dC, dI)) (ci := 0) (v := .int (nI cs)) (C := RX0) (T := TX0) (N := 2) hx hb hts in_X0 hown hK hP 0 rfl rfl 1 (by decide) lk_1 (fun _ h9 => h9) rfl dX0_unfoldHead_75 ?_
              have hS9 : hdH cs cd = some (cs) := by unfold hdH; rw [if_neg (by omega), if_neg (fun q => q hc_20), if_neg (by omega), if_neg (fun q => q.1 c_48), if_pos (by omega)]
              exact W.iret (v := (nI cs)) hx hb hr (fun t ht hW => ⟨⟨(nI cs), (sz, st, us), rfl, ⟨by rw [hS9], fun q => by rw [hS9] at q; cases q⟩, by rw [ht]; exact hP, va_K.moved hW.alike hK, hD⟩, hS.F ht⟩) hS.2.2 dX0_unfoldHead_78
          · have c_48 : ¬ tw cd 2 = 0 := fun q => c_48 ((nZ_eq (by omega)).mpr q)
            refine lv_iload_n hx hb dX0_unfoldHead_51 rfl (lv_at hl 0 rfl) ?_
            refine vp_callSi (va_Run.run (va_runSN (As := [.int (nI (tw cd 2))]) (rest := []) ⟨hx, hb, hml, hown, hts⟩ (c_X3_isSize l (tw cd 2) (by omega)) ⟨va_cnB 1 hts gX0_unfoldHead_X3_isSize_n79 rfl rfl rfl hN0 lk_16 (by decide +kernel) ⟨Nat.le_of_ble_eq_true rfl, Nat.le_of_ble_eq_true rfl⟩, lk_15, trivial⟩ ⟨fun a9 U g9 mk9 q9 => ⟨q9.1, trivial⟩, fun U hU hW => ⟨rfl, trivial⟩⟩ rfl rfl hl.1 rfl (lv_room (Nat.le_of_ble_eq_true rfl)) dX0_unfoldHead_52 ⟨Nat.zero_le _, Nat.zero_le _⟩)) (fun r_52 hw => ?_)
            try dsimp only at hw
            rcases hw with ⟨hc_52, rfl⟩ | ⟨hc_52, rfl⟩
            · skip
              refine lv_if_eq (tgt := 63) hx hb dX0_unfoldHead_55 (by decide) (fun c_55 => ?_) (fun c_55 => ?_)
              · exact absurd c_55 (by decide)
              · have c_55 : ¬ 1 = 0 := fun q => c_55 ((nZ_eq (by omega)).mpr q)
                refine lv_iload_n hx hb dX0_unfoldHead_58 rfl (lv_at hl 0 rfl) ?_
                refine lv_iload_n hx hb dX0_unfoldHead_59 rfl (lv_at hl 1 rfl) ?_
                refine lv_icmp_lt (tgt := 65) hx hb dX0_unfoldHead_60 (by decide) (fun c_60 => ?_) (fun c_60 => ?_)
                · have c_60 : tw cd 2 < tw cd 0 := (nI_ltI (a := tw cd 2) (b := tw cd 0) (by omega) (by omega)).mp c_60
                  refine lv_aload_n hx hb dX0_unfoldHead_65 rfl (lv_at hl 2 rfl) ?_
                  refine va_get (D := (dC, dI)) (ci := 0) (v := .int (nI cs)) (C := RX0) (T := TX0) (N := 2) hx hb hts in_X0 hown hK hP 0 rfl rfl 1 (by decide) lk_1 (fun _ h9 => h9) rfl dX0_unfoldHead_66 ?_
                  refine lv_bipush (v := (nI 6)) hx hb dX0_unfoldHead_69 (by decide) ?_
                  refine lv_icmp_ge (tgt := 79) hx hb dX0_unfoldHead_71 (by decide) (fun c_71 => ?_) (fun c_71 => ?_)
                  · have c_71 : 6 ≤ cs := (nI_leI (a := 6) (b := cs) (by omega) (by omega)).mp c_71
                    refine lv_aload_n hx hb dX0_unfoldHead_79 rfl (lv_at hl 2 rfl) ?_
                    refine lv_iconst (v := (nI 4)) hx hb dX0_unfoldHead_80 (by decide) ?_
                    have hPc := hP.sub (ws' := ow cB o oz cs cd) [0, 1] rfl
                    have hKc := hK.sub (tys' := [(cB, .byte)]) [1] rfl
                    refine vp_callSi (W.runV (As := [.int (nI 4)]) (rest := []) ⟨hx, hb, hml, hown, hts⟩ (c_X0_pairAt l dC dI cB o oz cs cd 4 (by omega) (by omega) bcd) (cwV 1 hts gX0_unfoldHead_X0_pairAt rfl rfl rfl (by decide +kernel) ⟨Nat.le_of_ble_eq_true rfl, Nat.le_of_ble_eq_true rfl⟩) ⟨fun a9 U g9 mk9 q9 => by obtain ⟨q0, qP, qK⟩ := q9; exact ⟨q0, qP, va_K.moved (u := U) (U := U.calling g9 mk9 a9) (Vm.Alike.refl U.vm) qK⟩, va_recv hKc hPc (ci := 0) (q0 := 0) rfl rfl, fun U hU hW => ⟨rfl, by rw [hU]; exact hPc, va_K.moved hW.alike hKc⟩⟩ rfl rfl hl.1 rfl (lv_room (Nat.le_of_ble_eq_true rfl)) dX0_unfoldHead_81 ⟨Nat.zero_le _, Nat.zero_le _⟩) (fun r_81 hw => ?_)
                    try dsimp only at hw
                    subst hw
                    have wt_81 := tw_lt bcd 4
                    refine lv_istore (lv' := [(4, .int (nI (tw cd 4))), (3, .int (nI (tw cd 2))), (2, .int (nI (tw cd 0))), (0, .ref (o 0)), (1, .ref (b 0))]) hx hb dX0_unfoldHead_84 hl (by decide) rfl (fun ls hl => ?_)
                    refine lv_iload hx hb dX0_unfoldHead_86 (lv_at hl 0 rfl) ?_
                    refine lv_bipush (v := (nI 64)) hx hb dX0_unfoldHead_88 (by decide) ?_
                    refine lv_icmp_gt (tgt := 115) hx hb dX0_unfoldHead_90 (by decide) (fun c_90 => ?_) (fun c_90 => ?_)
                    · have c_90 : 64 < tw cd 4 := (nI_ltI (a := 64) (b := tw cd 4) (by omega) (by omega)).mp c_90
                      refine lv_iconst (v := (nI 4)) hx hb dX0_unfoldHead_115 (by decide) ?_
                      have hS9 : hdH cs cd = some (4) := by unfold hdH; rw [if_neg (by omega), if_neg (fun q => q hc_20), if_neg (by omega), if_neg (fun q => q.2.elim (fun q => q hc_52) (fun q => q (by omega))), if_neg (by omega), if_pos (by omega)]
                      exact W.iret (v := (nI 4)) hx hb hr (fun t ht hW => ⟨⟨(nI 4), (sz, st, us), rfl, ⟨by rw [hS9], fun q => by rw [hS9] at q; cases q⟩, by rw [ht]; exact hP, va_K.moved hW.alike hK, hD⟩, hS.F ht⟩) hS.2.2 dX0_unfoldHead_116
                    · have c_90 : ¬ 64 < tw cd 4 := fun q => c_90 ((nI_ltI (a := 64) (b := tw cd 4) (by omega) (by omega)).mpr q)
                      refine lv_iload hx hb dX0_unfoldHead_93 (lv_at hl 0 rfl) ?_
                      refine lv_if_ne (tgt := 102) hx hb dX0_unfoldHead_95 (by decide) (fun c_95 => ?_) (fun c_95 => ?_)
                      · have c_95 : ¬ tw cd 4 = 0 := fun q => c_95 ((nZ_eq (by omega)).mpr q)
                        refine lv_iconst (v := (nI 0)) hx hb dX0_unfoldHead_102 (by decide) ?_
                        refine lv_iload_n hx hb dX0_unfoldHead_103 rfl (lv_at hl 1 rfl) ?_
                        refine lv_if_ne (tgt := 111) hx hb dX0_unfoldHead_104 (by decide) (fun c_104 => ?_) (fun c_104 => ?_)
                        · have c_104 : ¬ tw cd 2 = 0 := fun q => c_104 ((nZ_eq (by omega)).mpr q)
                          refine lv_iconst (v := (nI 0)) hx hb dX0_unfoldHead_111 (by decide) ?_
                          refine lv_icmp_eq (tgt := 117) hx hb dX0_unfoldHead_112 (by decide) (fun c_112 => ?_) (fun c_112 => ?_)
                          · have c_112 : 0 = 0 := (nI_eq (a := 0) (b := 0) (by omega) (by omega)).mp c_112
                            refine lv_aload_n hx hb dX0_unfoldHead_117 rfl (lv_at hl 4 rfl) ?_
                            refine lv_iload_n hx hb dX0_unfoldHead_118 rfl (lv_at hl 2 rfl) ?_
                            refine va_put (D := (dC, dI)) (ci := 2) (v := .int (nI (tw cd 0))) (ty := .int) (C := RX2) (T := TX2) (N := 6) hx hb hts in_X2 tyX2 tyX2_ok nmX2 hown hK hP hD hS 2 rfl rfl 3 (by decide) lk_2 (fun _ h9 => h9) rfl (by decide +kernel) rfl rfl (Nat.le_of_ble_eq_true rfl) dX0_unfoldHead_119 (fun H locs hP hD hS => ?_)
                            have hP : va_P (dC, dI) vwCl (ow cB o oz cs cd ++ sw cB cI b (tw cd 0) st us mem pl ln) H := hP
                            have hD : va_D A (ow cB o oz cs cd ++ sw cB cI b (tw cd 0) st us mem pl ln) := hD
                            refine lv_aload_n hx hb dX0_unfoldHead_122 rfl (lv_at hl 4 rfl) ?_
                            refine lv_iload_n hx hb dX0_unfoldHead_123 rfl (lv_at hl 1 rfl) ?_
                            refine va_put (D := (dC, dI)) (ci := 2) (v := .int (nI (tw cd 2))) (ty := .int) (C := RX2) (T := TX2) (N := 6) hx hb hts in_X2 tyX2 tyX2_ok nmX2 hown hK hP hD hS 2 rfl rfl 4 (by decide) lk_3 (fun _ h9 => h9) rfl (by decide +kernel) rfl rfl (Nat.le_of_ble_eq_true rfl) dX0_unfoldHead_124 (fun H locs hP hD hS => ?_)
                            have hP : va_P (dC, dI) vwCl (ow cB o oz cs cd ++ sw cB cI b (tw cd 0) (tw cd 2) us mem pl ln) H := hP
                            have hD : va_D A (ow cB o oz cs cd ++ sw cB cI b (tw cd 0) (tw cd 2) us mem pl ln) := hD
                            refine lv_aload_n hx hb dX0_unfoldHead_127 rfl (lv_at hl 4 rfl) ?_
                            refine lv_iload hx hb dX0_unfoldHead_128 (lv_at hl 0 rfl) ?_
                            refine va_put (D := (dC, dI)) (ci := 2) (v := .int (nI (tw cd 4))) (ty := .int) (C := RX2) (T := TX2) (N := 6) hx hb hts in_X2 tyX2 tyX2_ok nmX2 hown hK hP hD hS 2 rfl rfl 5 (by decide) lk_4 (fun _ h9 => h9) rfl (by decide +kernel) rfl rfl (Nat.le_of_ble_eq_true rfl) dX0_unfoldHead_130 (fun H locs hP hD hS => ?_)
                            have hP : va_P (dC, dI) vwCl (ow cB o oz cs cd ++ sw cB cI b (tw cd 0) (tw cd 2) (tw cd 4) mem pl ln) H := hP
                            have hD : va_D A (ow cB o oz cs cd ++ sw cB cI b (tw cd 0) (tw cd 2) (tw cd 4) mem pl ln) := hD
                            refine lv_iconst (v := ((-1))) hx hb dX0_unfoldHead_133 (by decide) ?_
                            have hS9 : hdH cs cd = none := by unfold hdH; rw [if_neg (by omega), if_neg (fun q => q hc_20), if_neg (by omega), if_neg (fun q => q.2.elim (fun q => q hc_52) (fun q => q (by omega))), if_neg (by omega), if_neg (by omega)]
                            exact W.iret (v := ((-1))) hx hb hr (fun t ht hW => ⟨⟨((-1)), (tw cd 0, tw cd 2, tw cd 4), rfl, ⟨by rw [hS9], fun _ => ⟨rfl, rfl, rfl⟩⟩, by rw [ht]; exact hP, va_K.moved hW.alike hK, hD⟩, hS.F ht⟩) hS.2.2 dX0_unfoldHead_134
                          · exact absurd c_112 (by decide)
                        · have c_104 : tw cd 2 = 0 := (nZ_eq (by omega)).mp c_104
                          refine lv_iconst (v := (nI 1)) hx hb dX0_unfoldHead_107 (by decide) ?_
                          refine lv_goto (tgt := 112) hx hb dX0_unfoldHead_108 (by decide) ?_
                          refine lv_icmp_eq (tgt := 117) hx hb dX0_unfoldHead_112 (by decide) (fun c_112 => ?_) (fun c_112 => ?_)
                          · exact absurd c_112 (by decide)
                          · have c_112 : ¬ 0 = 1 := fun q => c_112 ((nI_eq (a := 0) (b := 1) (by omega) (by omega)).mpr q)
                            refine lv_iconst (v := (nI 4)) hx hb dX0_unfoldHead_115 (by decide) ?_
                            have hS9 : hdH cs cd = some (4) := by unfold hdH; rw [if_neg (by omega), if_neg (fun q => q hc_20), if_neg (by omega), if_neg (fun q => q.2.elim (fun q => q hc_52) (fun q => q (by omega))), if_neg (by omega), if_pos (by omega)]
                            exact W.iret (v := (nI 4)) hx hb hr (fun t ht hW => ⟨⟨(nI 4), (sz, st, us), rfl, ⟨by rw [hS9], fun q => by rw [hS9] at q; cases q⟩, by rw [ht]; exact hP, va_K.moved hW.alike hK, hD⟩, hS.F ht⟩) hS.2.2 dX0_unfoldHead_116
                      · have c_95 : tw cd 4 = 0 := (nZ_eq (by omega)).mp c_95
                        refine lv_iconst (v := (nI 1)) hx hb dX0_unfoldHead_98 (by decide) ?_
                        refine lv_goto (tgt := 103) hx hb dX0_unfoldHead_99 (by decide) ?_
                        refine lv_iload_n hx hb dX0_unfoldHead_103 rfl (lv_at hl 1 rfl) ?_
                        refine lv_if_ne (tgt := 111) hx hb dX0_unfoldHead_104 (by decide) (fun c_104 => ?_) (fun c_104 => ?_)
                        · have c_104 : ¬ tw cd 2 = 0 := fun q => c_104 ((nZ_eq (by omega)).mpr q)
                          refine lv_iconst (v := (nI 0)) hx hb dX0_unfoldHead_111 (by decide) ?_
                          refine lv_icmp_eq (tgt := 117) hx hb dX0_unfoldHead_112 (by decide) (fun c_112 => ?_) (fun c_112 => ?_)
                          · exact absurd c_112 (by decide)
                          · have c_112 : ¬ 1 = 0 := fun q => c_112 ((nI_eq (a := 1) (b := 0) (by omega) (by omega)).mpr q)
                            refine lv_iconst (v := (nI 4)) hx hb dX0_unfoldHead_115 (by decide) ?_
                            have hS9 : hdH cs cd = some (4) := by unfold hdH; rw [if_neg (by omega), if_neg (fun q => q hc_20), if_neg (by omega), if_neg (fun q => q.2.elim (fun q => q hc_52) (fun q => q (by omega))), if_neg (by omega), if_pos (by omega)]
                            exact W.iret (v := (nI 4)) hx hb hr (fun t ht hW => ⟨⟨(nI 4), (sz, st, us), rfl, ⟨by rw [hS9], fun q => by rw [hS9] at q; cases q⟩, by rw [ht]; exact hP, va_K.moved hW.alike hK, hD⟩, hS.F ht⟩) hS.2.2 dX0_unfoldHead_116
                        · have c_104 : tw cd 2 = 0 := (nZ_eq (by omega)).mp c_104
                          refine lv_iconst (v := (nI 1)) hx hb dX0_unfoldHead_107 (by decide) ?_
                          refine lv_goto (tgt := 112) hx hb dX0_unfoldHead_108 (by decide) ?_
                          refine lv_icmp_eq (tgt := 117) hx hb dX0_unfoldHead_112 (by decide) (fun c_112 => ?_) (fun c_112 => ?_)
                          · have c_112 : 1 = 1 := (nI_eq (a := 1) (b := 1) (by omega) (by omega)).mp c_112
                            refine lv_aload_n hx hb dX0_unfoldHead_117 rfl (lv_at hl 4 rfl) ?_
                            refine lv_iload_n hx hb dX0_unfoldHead_118 rfl (lv_at hl 2 rfl) ?_
                            refine va_put (D := (dC, dI)) (ci := 2) (v := .int (nI (tw cd 0))) (ty := .int) (C := RX2) (T := TX2) (N := 6) hx hb hts in_X2 tyX2 tyX2_ok nmX2 hown hK hP hD hS 2 rfl rfl 3 (by decide) lk_2 (fun _ h9 => h9) rfl (by decide +kernel) rfl rfl (Nat.le_of_ble_eq_true rfl) dX0_unfoldHead_119 (fun H locs hP hD hS => ?_)
                            have hP : va_P (dC, dI) vwCl (ow cB o oz cs cd ++ sw cB cI b (tw cd 0) st us mem pl ln) H := hP
                            have hD : va_D A (ow cB o oz cs cd ++ sw cB cI b (tw cd 0) st us mem pl ln) := hD
                            refine lv_aload_n hx hb dX0_unfoldHead_122 rfl (lv_at hl 4 rfl) ?_
                            refine lv_iload_n hx hb dX0_unfoldHead_123 rfl (lv_at hl 1 rfl) ?_
                            refine va_put (D := (dC, dI)) (ci := 2) (v := .int (nI (tw cd 2))) (ty := .int) (C := RX2) (T := TX2) (N := 6) hx hb hts in_X2 tyX2 tyX2_ok nmX2 hown hK hP hD hS 2 rfl rfl 4 (by decide) lk_3 (fun _ h9 => h9) rfl (by decide +kernel) rfl rfl (Nat.le_of_ble_eq_true rfl) dX0_unfoldHead_124 (fun H locs hP hD hS => ?_)
                            have hP : va_P (dC, dI) vwCl (ow cB o oz cs cd ++ sw cB cI b (tw cd 0) (tw cd 2) us mem pl ln) H := hP
                            have hD : va_D A (ow cB o oz cs cd ++ sw cB cI b (tw cd 0) (tw cd 2) us mem pl ln) := hD
                            refine lv_aload_n hx hb dX0_unfoldHead_127 rfl (lv_at hl 4 rfl) ?_
                            refine lv_iload hx hb dX0_unfoldHead_128 (lv_at hl 0 rfl) ?_
                            refine va_put (D := (dC, dI)) (ci := 2) (v := .int (nI (tw cd 4))) (ty := .int) (C := RX2) (T := TX2) (N := 6) hx hb hts in_X2 tyX2 tyX2_ok nmX2 hown hK hP hD hS 2 rfl rfl 5 (by decide) lk_4 (fun _ h9 => h9) rfl (by decide +kernel) rfl rfl (Nat.le_of_ble_eq_true rfl) dX0_unfoldHead_130 (fun H locs hP hD hS => ?_)
                            have hP : va_P (dC, dI) vwCl (ow cB o oz cs cd ++ sw cB cI b (tw cd 0) (tw cd 2) (tw cd 4) mem pl ln) H := hP
                            have hD : va_D A (ow cB o oz cs cd ++ sw cB cI b (tw cd 0) (tw cd 2) (tw cd 4) mem pl ln) := hD
                            refine lv_iconst (v := ((-1))) hx hb dX0_unfoldHead_133 (by decide) ?_
                            have hS9 : hdH cs cd = none := by unfold hdH; rw [if_neg (by omega), if_neg (fun q => q hc_20), if_neg (by omega), if_neg (fun q => q.2.elim (fun q => q hc_52) (fun q => q (by omega))), if_neg (by omega), if_neg (by omega)]
                            exact W.iret (v := ((-1))) hx hb hr (fun t ht hW => ⟨⟨((-1)), (tw cd 0, tw cd 2, tw cd 4), rfl, ⟨by rw [hS9], fun _ => ⟨rfl, rfl, rfl⟩⟩, by rw [ht]; exact hP, va_K.moved hW.alike hK, hD⟩, hS.F ht⟩) hS.2.2 dX0_unfoldHead_134
                          · exact absurd c_112 (by decide)
                  · have c_71 : ¬ 6 ≤ cs := fun q => c_71 ((nI_leI (a := 6) (b := cs) (by omega) (by omega)).mpr q)
                    refine lv_aload_n hx hb dX0_unfoldHead_74 rfl (lv_at hl 2 rfl) ?_
                    refine va_get (D := (dC, dI)) (ci := 0) (v := .int (nI cs)) (C := RX0) (T := TX0) (N := 2) hx hb hts in_X0 hown hK hP 0 rfl rfl 1 (by decide) lk_1 (fun _ h9 => h9) rfl dX0_unfoldHead_75 ?_
                    have hS9 : hdH cs cd = some (cs) := by unfold hdH; rw [if_neg (by omega), if_neg (fun q => q hc_20), if_neg (by omega), if_neg (fun q => q.2.elim (fun q => q hc_52) (fun q => q (by omega))), if_pos (by omega)]
                    exact W.iret (v := (nI cs)) hx hb hr (fun t ht hW => ⟨⟨(nI cs), (sz, st, us), rfl, ⟨by rw [hS9], fun q => by rw [hS9] at q; cases q⟩, by rw [ht]; exact hP, va_K.moved hW.alike hK, hD⟩, hS.F ht⟩) hS.2.2 dX0_unfoldHead_78
                · have c_60 : ¬ tw cd 2 < tw cd 0 := fun q => c_60 ((nI_ltI (a := tw cd 2) (b := tw cd 0) (by omega) (by omega)).mpr q)
                  refine lv_iconst (v := (nI 2)) hx hb dX0_unfoldHead_63 (by decide) ?_
                  have hS9 : hdH cs cd = some (2) := by unfold hdH; rw [if_neg (by omega), if_neg (fun q => q hc_20), if_neg (by omega), if_pos ⟨c_48, Or.inr (by omega)⟩]
                  exact W.iret (v := (nI 2)) hx hb hr (fun t ht hW => ⟨⟨(nI 2), (sz, st, us), rfl, ⟨by rw [hS9], fun q => by rw [hS9] at q; cases q⟩, by rw [ht]; exact hP, va_K.moved hW.alike hK, hD⟩, hS.F ht⟩) hS.2.2 dX0_unfoldHead_64
            · skip
              refine lv_if_eq (tgt := 63) hx hb dX0_unfoldHead_55 (by decide) (fun c_55 => ?_) (fun c_55 => ?_)
              · have c_55 : 0 = 0 := (nZ_eq (by omega)).mp c_55
                refine lv_iconst (v := (nI 2)) hx hb dX0_unfoldHead_63 (by decide) ?_
                have hS9 : hdH cs cd = some (2) := by unfold hdH; rw [if_neg (by omega), if_neg (fun q => q hc_20), if_neg (by omega), if_pos ⟨c_48, Or.inl hc_52⟩]
                exact W.iret (v := (nI 2)) hx hb hr (fun t ht hW => ⟨⟨(nI 2), (sz, st, us), rfl, ⟨by rw [hS9], fun q => by rw [hS9] at q; cases q⟩, by rw [ht]; exact hP, va_K.moved hW.alike hK, hD⟩, hS.F ht⟩) hS.2.2 dX0_unfoldHead_64
              · exact absurd c_55 (by decide)
        · have c_33 : ¬ 4 ≤ cs := fun q => c_33 ((nI_leI (a := 4) (b := cs) (by omega) (by omega)).mpr q)
          refine lv_aload_n hx hb dX0_unfoldHead_36 rfl (lv_at hl 1 rfl) ?_
          refine va_get (D := (dC, dI)) (ci := 0) (v := .int (nI cs)) (C := RX0) (T := TX0) (N := 2) hx hb hts in_X0 hown hK hP 0 rfl rfl 1 (by decide) lk_1 (fun _ h9 => h9) rfl dX0_unfoldHead_37 ?_
          have hS9 : hdH cs cd = some (cs) := by unfold hdH; rw [if_neg (by omega), if_neg (fun q => q hc_20), if_pos (by omega)]
          exact W.iret (v := (nI cs)) hx hb hr (fun t ht hW => ⟨⟨(nI cs), (sz, st, us), rfl, ⟨by rw [hS9], fun q => by rw [hS9] at q; cases q⟩, by rw [ht]; exact hP, va_K.moved hW.alike hK, hD⟩, hS.F ht⟩) hS.2.2 dX0_unfoldHead_40
      · exact absurd c_23 (by decide)
    · skip
      refine lv_if_ne (tgt := 28) hx hb dX0_unfoldHead_23 (by decide) (fun c_23 => ?_) (fun c_23 => ?_)
      · exact absurd c_23 (by decide)
      · have c_23 : 0 = 0 := (nZ_eq (by omega)).mp c_23
        refine lv_iconst (v := (nI 0)) hx hb dX0_unfoldHead_26 (by decide) ?_
        have hS9 : hdH cs cd = some (0) := by unfold hdH; rw [if_neg (by omega), if_pos hc_20]
        exact W.iret (v := (nI 0)) hx hb hr (fun t ht hW => ⟨⟨(nI 0), (sz, st, us), rfl, ⟨by rw [hS9], fun q => by rw [hS9] at q; cases q⟩, by rw [ht]; exact hP, va_K.moved hW.alike hK, hD⟩, hS.F ht⟩) hS.2.2 dX0_unfoldHead_27
  · have c_5 : ¬ 2 ≤ cs := fun q => c_5 ((nI_leI (a := 2) (b := cs) (by omega) (by omega)).mpr q)
    refine lv_aload_n hx hb dX0_unfoldHead_8 rfl (lv_at hl 0 rfl) ?_
    refine va_get (D := (dC, dI)) (ci := 0) (v := .int (nI cs)) (C := RX0) (T := TX0) (N := 2) hx hb hts in_X0 hown hK hP 0 rfl rfl 1 (by decide) lk_1 (fun _ h9 => h9) rfl dX0_unfoldHead_9 ?_
    have hS9 : hdH cs cd = some (cs) := by unfold hdH; rw [if_pos (by omega)]
    exact W.iret (v := (nI cs)) hx hb hr (fun t ht hW => ⟨⟨(nI cs), (sz, st, us), rfl, ⟨by rw [hS9], fun q => by rw [hS9] at q; cases q⟩, by rw [ht]; exact hP, va_K.moved hW.alike hK, hD⟩, hS.F ht⟩) hS.2.2 dX0_unfoldHead_12
