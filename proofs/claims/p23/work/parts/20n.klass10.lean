set_option maxHeartbeats 4000000 in
set_option maxRecDepth 100000 in
theorem c_X3_writeRefusal (l : Launch) (dC : Nat → ClassId) (dI : Nat → Nat → Nat) (cB cI : ClassId) (h kq : Nat) (sp : Option Nat) (k o b : Nat → Nat) (kp : Nat) (ga : Nat) (gl : Nat) (kl : Nat) (kb : Nat → Nat) (oz : Nat) (cs : Nat) (cd : Nat → Nat) (sz : Nat) (st : Nat) (us : Nat) (mem : Nat → Nat) (pl : Nat → Nat) (ln : Nat → Nat) (x n : Nat) (g1 : x < 2 ^ 31) (g2 : n < 2 ^ 31) (g3 : sz ≤ 8192) : Met l yX3_writeRefusal wsX3_writeRefusal ({ frames := 1, cells := 0, slots := 0, locals := 23 }) (va_Pc [.ref h, .int (nI x), .int (nI n)] (fun U => va_P (dC, dI) vwCl (gw h kq sp k o b kp ga gl ++ kw cB k kl kb ++ ow cB o oz cs cd ++ sw cB cI b sz st us mem pl ln) U.heap ∧ va_K (dC, dI) vwCl [(cI, .int), (cB, .byte)] U)) (vp_Si (fun r => (¬ x + n ≤ sz ∧ r = (-12)) ∨ (x + n ≤ sz ∧ x < 64 ∧ r = (-13)) ∨ (x + n ≤ sz ∧ ¬ x < 64 ∧ r = nI 0))) 0 0 (fun _ => False) := by
  refine Met.ofW (cc := cX3_writeRefusal) (maxL := 3) (ret := (some .int)) (by decide) rfl ?_
  intro p e s m args below meth c s₁ B hml hv
  obtain ⟨rfl, hP, hK⟩ := hv
  have hx := B.exec
  have hb := B.bytes
  have hr := B.returns
  have hts := atoms_spec (ws := wsX3_writeRefusal) B.pre
  have hown : s.vm.findClass RX3 = some m.cls := findClass_of_methodNamed B.named
  have hlocks := B.notSynchronized
  have in_X3 : ∀ w ∈ wsX30, w ∈ wsX3_writeRefusal := fun _ h => List.mem_cons_of_mem _ (List.mem_append_left _ (List.mem_append_right _ (h)))
  have lk_1 := hts (.fieldLink RX3 30 "GlulxHeap" "now" "LGlulxHeap$State;") (List.mem_of_getElem? (i := 1) rfl)
  have hl := lv_entry ([.ref h, .int (nI x), .int (nI n)]) (n := 3) (Nat.le_of_ble_eq_true rfl)
  rw [lg_entry_eq]
  generalize (lg_sl ([.ref h, .int (nI x), .int (nI n)]) ++ List.replicate (3 - (lg_sl ([.ref h, .int (nI x), .int (nI n)])).length) Slot.unset).toArray = ls at hl ⊢
  have hl : lv_has ls 3 [(0, .ref h), (1, .int (nI x)), (2, .int (nI n))] := hl
  refine lv_aload_n hx hb dX3_writeRefusal_0 rfl (lv_at hl 0 rfl) ?_
  refine va_get (D := (dC, dI)) (ci := 3) (v := .ref (b 0)) (C := RX3) (T := TX3) (N := 8) hx hb hts in_X3 hown hK hP 0 rfl rfl 3 (by decide) lk_1 (fun _ h9 => h9) rfl dX3_writeRefusal_1 ?_
  refine lv_iload_n hx hb dX3_writeRefusal_4 rfl (lv_at hl 1 rfl) ?_
  refine lv_i2l (v := lN x) hx hb dX3_writeRefusal_5 (nI_l (by omega)) ?_
  refine lv_iload_n hx hb dX3_writeRefusal_6 rfl (lv_at hl 2 rfl) ?_
  have hPc := hP.sub (ws' := sw cB cI b sz st us mem pl ln) [5, 6, 7, 8] rfl
  have hKc := hK.sub (tys' := [(cI, .int), (cB, .byte)]) [0, 1] rfl
  refine vp_callSi (W.runV (As := [.long (lN x), .int (nI n)]) (rest := []) ⟨hx, hb, hml, hown, hts⟩ (c_X2_has l dC dI cB cI b sz st us mem pl ln x n (by omega) (by omega) (by omega)) (cwV 2 hts gX3_writeRefusal_X2_has rfl rfl rfl (by decide +kernel) ⟨Nat.le_of_ble_eq_true rfl, Nat.le_of_ble_eq_true rfl⟩) ⟨fun a9 U g9 mk9 q9 => by obtain ⟨q0, qP, qK⟩ := q9; exact ⟨q0, qP, va_K.moved (u := U) (U := U.calling g9 mk9 a9) (Vm.Alike.refl U.vm) qK⟩, va_recv hKc hPc (ci := 2) (q0 := 0) rfl rfl, fun U hU hW => ⟨rfl, by rw [hU]; exact hPc, va_K.moved hW.alike hKc⟩⟩ rfl rfl hl.1 rfl (lv_room (Nat.le_of_ble_eq_true rfl)) dX3_writeRefusal_7 ⟨Nat.zero_le _, Nat.zero_le _⟩) (fun r_7 hw => ?_)
  try dsimp only at hw
  rcases hw with ⟨hc_7, rfl⟩ | ⟨hc_7, rfl⟩
  · skip
    refine lv_if_ne (tgt := 16) hx hb dX3_writeRefusal_10 (by decide) (fun c_10 => ?_) (fun c_10 => ?_)
    · have c_10 : ¬ 1 = 0 := fun q => c_10 ((nZ_eq (by omega)).mpr q)
      refine lv_iload_n hx hb dX3_writeRefusal_16 rfl (lv_at hl 1 rfl) ?_
      refine lv_bipush (v := (nI 64)) hx hb dX3_writeRefusal_17 (by decide) ?_
      refine lv_icmp_ge (tgt := 27) hx hb dX3_writeRefusal_19 (by decide) (fun c_19 => ?_) (fun c_19 => ?_)
      · have c_19 : 64 ≤ x := (nI_leI (a := 64) (b := x) (by omega) (by omega)).mp c_19
        refine lv_iconst (v := (nI 0)) hx hb dX3_writeRefusal_27 (by decide) ?_
        exact W.iret (v := (nI 0)) hx hb hr (fun t ht hW => ⟨(nI 0), rfl, Or.inr (Or.inr ⟨by omega, by omega, rfl⟩), ht⟩) (fun _ h9 => absurd h9 List.not_mem_nil) dX3_writeRefusal_28
      · have c_19 : ¬ 64 ≤ x := fun q => c_19 ((nI_leI (a := 64) (b := x) (by omega) (by omega)).mpr q)
        refine lv_bipush (v := ((-13))) hx hb dX3_writeRefusal_22 (by decide) ?_
        refine lv_goto (tgt := 28) hx hb dX3_writeRefusal_24 (by decide) ?_
        exact W.iret (v := ((-13))) hx hb hr (fun t ht hW => ⟨((-13)), rfl, Or.inr (Or.inl ⟨by omega, by omega, rfl⟩), ht⟩) (fun _ h9 => absurd h9 List.not_mem_nil) dX3_writeRefusal_28
    · exact absurd c_10 (by decide)
  · skip
    refine lv_if_ne (tgt := 16) hx hb dX3_writeRefusal_10 (by decide) (fun c_10 => ?_) (fun c_10 => ?_)
    · exact absurd c_10 (by decide)
    · have c_10 : 0 = 0 := (nZ_eq (by omega)).mp c_10
      refine lv_bipush (v := ((-12))) hx hb dX3_writeRefusal_13 (by decide) ?_
      exact W.iret (v := ((-12))) hx hb hr (fun t ht hW => ⟨((-12)), rfl, Or.inl ⟨by omega, rfl⟩, ht⟩) (fun _ h9 => absurd h9 List.not_mem_nil) dX3_writeRefusal_15
set_option maxHeartbeats 4000000 in
set_option maxRecDepth 100000 in
theorem c_X3_get (l : Launch) (dC : Nat → ClassId) (dI : Nat → Nat → Nat) (cB cI : ClassId) (h kq : Nat) (sp : Option Nat) (k o b : Nat → Nat) (kp : Nat) (ga : Nat) (gl : Nat) (kl : Nat) (kb : Nat → Nat) (oz : Nat) (cs : Nat) (cd : Nat → Nat) (sz : Nat) (st : Nat) (us : Nat) (mem : Nat → Nat) (pl : Nat → Nat) (ln : Nat → Nat) (p1 p2 : Int32) (g3 : sz ≤ 8192) (bmem : ∀ j, mem j < 256) : Met l yX3_get wsX3_get ({ frames := 1, cells := 0, slots := 0, locals := 25 }) (va_Pc [.ref h, .int p1, .int p2] (fun U => va_P (dC, dI) vwCl (gw h kq sp k o b kp ga gl ++ kw cB k kl kb ++ ow cB o oz cs cd ++ sw cB cI b sz st us mem pl ln) U.heap ∧ va_K (dC, dI) vwCl [(cI, .int), (cB, .byte)] U)) (vp_Sl (fun r => r = gS sz mem p1 p2)) 0 0 (fun _ => False) := by
  refine Met.ofW (cc := cX3_get) (maxL := 3) (ret := (some .long)) (by decide) rfl ?_
  intro p e s m args below meth c s₁ B hml hv
  obtain ⟨rfl, hP, hK⟩ := hv
  have hx := B.exec
  have hb := B.bytes
  have hr := B.returns
  have hts := atoms_spec (ws := wsX3_get) B.pre
  have hown : s.vm.findClass RX3 = some m.cls := findClass_of_methodNamed B.named
  have hlocks := B.notSynchronized
  have in_X3 : ∀ w ∈ wsX30, w ∈ wsX3_get := fun _ h => List.mem_cons_of_mem _ (List.mem_append_left _ (List.mem_append_right _ (h)))
  have lk_1 := hts (.constantLong RX3 41 (-11)) (List.mem_of_getElem? (i := 1) rfl)
  have lk_2 := hts (.fieldLink RX3 30 "GlulxHeap" "now" "LGlulxHeap$State;") (List.mem_of_getElem? (i := 2) rfl)
  have lk_3 := hts (.constantLong RX3 47 (-12)) (List.mem_of_getElem? (i := 3) rfl)
  have hl := lv_entry ([.ref h, .int p1, .int p2]) (n := 3) (Nat.le_of_ble_eq_true rfl)
  rw [lg_entry_eq]
  generalize (lg_sl ([.ref h, .int p1, .int p2]) ++ List.replicate (3 - (lg_sl ([.ref h, .int p1, .int p2])).length) Slot.unset).toArray = ls at hl ⊢
  have hl : lv_has ls 3 [(0, .ref h), (1, .int p1), (2, .int p2)] := hl
  refine lv_iload_n hx hb dX3_get_0 rfl (lv_at hl 1 rfl) ?_
  refine lv_if_lt (tgt := 11) hx hb dX3_get_1 (by decide) (fun c_1 => ?_) (fun c_1 => ?_)
  · refine lv_ldc2 (own := RX3) (v := (-11)) hx hb hown lk_1 dX3_get_11 ?_
    exact W.lret (v := ((-11))) hx hb hr (fun t ht hW => ⟨((-11)), rfl, (show ((-11)) = gS sz mem p1 p2 from (gS_w (by first | exact Or.inl hc_5 | exact Or.inr c_1)).symm), ht⟩) (fun _ h9 => absurd h9 List.not_mem_nil) dX3_get_14
  · obtain ⟨x, n_x, rfl⟩ := nI_of c_1
    refine lv_iload_n hx hb dX3_get_4 rfl (lv_at hl 2 rfl) ?_
    refine vp_callSi (W.runS (As := [.int p2]) (rest := []) ⟨hx, hb, hml, hown, hts⟩ (c_X3_isWidth l p2) (va_cwS 1 hts gX3_get_X3_isWidth rfl rfl rfl (by decide +kernel) ⟨Nat.le_of_ble_eq_true rfl, Nat.le_of_ble_eq_true rfl⟩) ⟨fun a9 U g9 mk9 q9 => ⟨q9.1, trivial⟩, fun U hU hW => ⟨rfl, trivial⟩⟩ rfl rfl hl.1 rfl (lv_room (Nat.le_of_ble_eq_true rfl)) dX3_get_5 ⟨Nat.zero_le _, Nat.zero_le _⟩) (fun r_5 hw => ?_)
    try dsimp only at hw
    rcases hw with ⟨hc_5, rfl⟩ | ⟨hc_5, rfl⟩
    · obtain ⟨k9, hkw, rfl⟩ := isW_of hc_5
      refine lv_if_ne (tgt := 15) hx hb dX3_get_8 (by decide) (fun c_8 => ?_) (fun c_8 => ?_)
      · have c_8 : ¬ 1 = 0 := fun q => c_8 ((nZ_eq (by omega)).mpr q)
        refine lv_aload_n hx hb dX3_get_15 rfl (lv_at hl 0 rfl) ?_
        refine va_get (D := (dC, dI)) (ci := 3) (v := .ref (b 0)) (C := RX3) (T := TX3) (N := 8) hx hb hts in_X3 hown hK hP 0 rfl rfl 3 (by decide) lk_2 (fun _ h9 => h9) rfl dX3_get_16 ?_
        refine lv_iload_n hx hb dX3_get_19 rfl (lv_at hl 1 rfl) ?_
        refine lv_i2l (v := lN x) hx hb dX3_get_20 (nI_l (by omega)) ?_
        refine lv_iload_n hx hb dX3_get_21 rfl (lv_at hl 2 rfl) ?_
        have hPc := hP.sub (ws' := sw cB cI b sz st us mem pl ln) [5, 6, 7, 8] rfl
        have hKc := hK.sub (tys' := [(cI, .int), (cB, .byte)]) [0, 1] rfl
        refine vp_callSi (W.runV (As := [.long (lN x), .int (nI k9)]) (rest := []) ⟨hx, hb, hml, hown, hts⟩ (c_X2_has l dC dI cB cI b sz st us mem pl ln x k9 (by omega) (by omega) (by omega)) (cwV 2 hts gX3_get_X2_has rfl rfl rfl (by decide +kernel) ⟨Nat.le_of_ble_eq_true rfl, Nat.le_of_ble_eq_true rfl⟩) ⟨fun a9 U g9 mk9 q9 => by obtain ⟨q0, qP, qK⟩ := q9; exact ⟨q0, qP, va_K.moved (u := U) (U := U.calling g9 mk9 a9) (Vm.Alike.refl U.vm) qK⟩, va_recv hKc hPc (ci := 2) (q0 := 0) rfl rfl, fun U hU hW => ⟨rfl, by rw [hU]; exact hPc, va_K.moved hW.alike hKc⟩⟩ rfl rfl hl.1 rfl (lv_room (Nat.le_of_ble_eq_true rfl)) dX3_get_22 ⟨Nat.zero_le _, Nat.zero_le _⟩) (fun r_22 hw => ?_)
        try dsimp only at hw
        rcases hw with ⟨hc_22, rfl⟩ | ⟨hc_22, rfl⟩
        · skip
          refine lv_if_ne (tgt := 32) hx hb dX3_get_25 (by decide) (fun c_25 => ?_) (fun c_25 => ?_)
          · have c_25 : ¬ 1 = 0 := fun q => c_25 ((nZ_eq (by omega)).mpr q)
            refine lv_aload_n hx hb dX3_get_32 rfl (lv_at hl 0 rfl) ?_
            refine va_get (D := (dC, dI)) (ci := 3) (v := .ref (b 0)) (C := RX3) (T := TX3) (N := 8) hx hb hts in_X3 hown hK hP 0 rfl rfl 3 (by decide) lk_2 (fun _ h9 => h9) rfl dX3_get_33 ?_
            refine lv_iload_n hx hb dX3_get_36 rfl (lv_at hl 1 rfl) ?_
            refine lv_iload_n hx hb dX3_get_37 rfl (lv_at hl 2 rfl) ?_
            have hPc := hP.sub (ws' := sw cB cI b sz st us mem pl ln) [5, 6, 7, 8] rfl
            have hKc := hK.sub (tys' := [(cI, .int), (cB, .byte)]) [0, 1] rfl
            refine vp_callSl (W.runV (As := [.int (nI x), .int (nI k9)]) (rest := []) ⟨hx, hb, hml, hown, hts⟩ (c_X2_number l dC dI cB cI b sz st us mem pl ln x k9 (by omega) (by omega) bmem) (cwV 2 hts gX3_get_X2_number rfl rfl rfl (by decide +kernel) ⟨Nat.le_of_ble_eq_true rfl, Nat.le_of_ble_eq_true rfl⟩) ⟨fun a9 U g9 mk9 q9 => by obtain ⟨q0, qP, qK⟩ := q9; exact ⟨q0, qP, va_K.moved (u := U) (U := U.calling g9 mk9 a9) (Vm.Alike.refl U.vm) qK⟩, va_recv hKc hPc (ci := 2) (q0 := 0) rfl rfl, fun U hU hW => ⟨rfl, by rw [hU]; exact hPc, va_K.moved hW.alike hKc⟩⟩ rfl rfl hl.1 rfl (lv_room (Nat.le_of_ble_eq_true rfl)) dX3_get_38 ⟨Nat.zero_le _, Nat.zero_le _⟩) (fun r_38 hw => ?_)
            try dsimp only at hw
            subst hw
            exact W.lret (v := (lN (num mem x k9))) hx hb hr (fun t ht hW => ⟨(lN (num mem x k9)), rfl, (show (lN (num mem x k9)) = gS sz mem (nI x) (nI k9) from by rw [gS_ok n_x hkw, if_pos (by omega)]), ht⟩) (fun _ h9 => absurd h9 List.not_mem_nil) dX3_get_41
          · exact absurd c_25 (by decide)
        · skip
          refine lv_if_ne (tgt := 32) hx hb dX3_get_25 (by decide) (fun c_25 => ?_) (fun c_25 => ?_)
          · exact absurd c_25 (by decide)
          · have c_25 : 0 = 0 := (nZ_eq (by omega)).mp c_25
            refine lv_ldc2 (own := RX3) (v := (-12)) hx hb hown lk_3 dX3_get_28 ?_
            exact W.lret (v := ((-12))) hx hb hr (fun t ht hW => ⟨((-12)), rfl, (show ((-12)) = gS sz mem (nI x) (nI k9) from by rw [gS_ok n_x hkw, if_neg (by omega)]), ht⟩) (fun _ h9 => absurd h9 List.not_mem_nil) dX3_get_31
      · exact absurd c_8 (by decide)
    · refine lv_if_ne (tgt := 15) hx hb dX3_get_8 (by decide) (fun c_8 => ?_) (fun c_8 => ?_)
      · exact absurd c_8 (by decide)
      · have c_8 : 0 = 0 := (nZ_eq (by omega)).mp c_8
        refine lv_ldc2 (own := RX3) (v := (-11)) hx hb hown lk_1 dX3_get_11 ?_
        exact W.lret (v := ((-11))) hx hb hr (fun t ht hW => ⟨((-11)), rfl, (show ((-11)) = gS sz mem (nI x) p2 from (gS_w (by first | exact Or.inl hc_5 | exact Or.inr c_1)).symm), ht⟩) (fun _ h9 => absurd h9 List.not_mem_nil) dX3_get_14
set_option maxHeartbeats 4000000 in
set_option maxRecDepth 100000 in
theorem c_X3_set (l : Launch) (dC : Nat → ClassId) (dI : Nat → Nat → Nat) (cB cI : ClassId) (h kq : Nat) (sp : Option Nat) (k o b : Nat → Nat) (kp : Nat) (ga : Nat) (gl : Nat) (kl : Nat) (kb : Nat → Nat) (oz : Nat) (cs : Nat) (cd : Nat → Nat) (sz : Nat) (st : Nat) (us : Nat) (mem : Nat → Nat) (pl : Nat → Nat) (ln : Nat → Nat) (zz : Nat) (p1 p2 p3 : Int32) (g3 : sz ≤ 8192) : Met l yX3_set wsX3_set ({ frames := 2, cells := 0, slots := 0, locals := 45 }) (va_Pc [.ref h, .int p1, .int p2, .int p3] (fun U => U.heap.size = zz ∧ va_P (dC, dI) vwCl (gw h kq sp k o b kp ga gl ++ kw cB k kl kb ++ ow cB o oz cs cd ++ sw cB cI b sz st us mem pl ln) U.heap ∧ va_K (dC, dI) vwCl [(cI, .int), (cB, .byte)] U ∧ va_D (fun _ => True) (gw h kq sp k o b kp ga gl ++ kw cB k kl kb ++ ow cB o oz cs cd ++ sw cB cI b sz st us mem pl ln))) (va_Qi (fun r _ => r = stR sz p1 p2) (fun (_ : Unit) t => va_P (dC, dI) vwCl (gw h kq sp k o b kp ga gl ++ kw cB k kl kb ++ ow cB o oz cs cd ++ sw cB cI b sz st us (stM sz mem p1 p2 p3) pl ln) t.heap ∧ va_K (dC, dI) vwCl [(cI, .int), (cB, .byte)] t ∧ va_D (va_A (gw h kq sp k o b kp ga gl ++ kw cB k kl kb ++ ow cB o oz cs cd ++ sw cB cI b sz st us mem pl ln) zz) (gw h kq sp k o b kp ga gl ++ kw cB k kl kb ++ ow cB o oz cs cd ++ sw cB cI b sz st us (stM sz mem p1 p2 p3) pl ln)) (va_A (gw h kq sp k o b kp ga gl ++ kw cB k kl kb ++ ow cB o oz cs cd ++ sw cB cI b sz st us mem pl ln) zz)) 0 0 (va_A (gw h kq sp k o b kp ga gl ++ kw cB k kl kb ++ ow cB o oz cs cd ++ sw cB cI b sz st us mem pl ln) zz) := by
  refine Met.ofW (cc := cX3_set) (maxL := 5) (ret := (some .int)) (by decide) rfl ?_
  intro p e s m args below meth c s₁ B hml hv
  obtain ⟨rfl, hsz, hP, hK, hD0⟩ := hv
  have hx := B.exec
  have hb := B.bytes
  have hr := B.returns
  have hts := atoms_spec (ws := wsX3_set) B.pre
  have hown : s.vm.findClass RX3 = some m.cls := findClass_of_methodNamed B.named
  have hlocks := B.notSynchronized
  subst hsz
  have hD := hD0.self (sz := s.heap.size)
  generalize hAe : va_A (gw h kq sp k o b kp ga gl ++ kw cB k kl kb ++ ow cB o oz cs cd ++ sw cB cI b sz st us mem pl ln) s.heap.size = A at hD ⊢
  have hA : ∀ q : Nat, s.heap.size ≤ q → A q := fun q h => by rw [← hAe]; exact Or.inr h
  have hS : va_S A s.heap s.heap [] := va_S.rf
  have hP : va_P (dC, dI) vwCl (gw h kq sp k o b kp ga gl ++ kw cB k kl kb ++ ow cB o oz cs cd ++ sw cB cI b sz st us mem pl ln) s.heap := hP
  have in_X3 : ∀ w ∈ wsX30, w ∈ wsX3_set := fun _ h => List.mem_cons_of_mem _ (List.mem_append_left _ (List.mem_append_right _ (h)))
  have lk_1 := hts (.fieldLink RX3 30 "GlulxHeap" "now" "LGlulxHeap$State;") (List.mem_of_getElem? (i := 1) rfl)
  have hl := lv_entry ([.ref h, .int p1, .int p2, .int p3]) (n := 5) (Nat.le_of_ble_eq_true rfl)
  rw [lg_entry_eq]
  generalize (lg_sl ([.ref h, .int p1, .int p2, .int p3]) ++ List.replicate (5 - (lg_sl ([.ref h, .int p1, .int p2, .int p3])).length) Slot.unset).toArray = ls at hl ⊢
  have hl : lv_has ls 5 [(0, .ref h), (1, .int p1), (2, .int p2), (3, .int p3)] := hl
  refine lv_iload_n hx hb dX3_set_0 rfl (lv_at hl 1 rfl) ?_
  refine lv_if_lt (tgt := 11) hx hb dX3_set_1 (by decide) (fun c_1 => ?_) (fun c_1 => ?_)
  · refine lv_bipush (v := ((-11))) hx hb dX3_set_11 (by decide) ?_
    have e_mem : mem = stM sz mem p1 p2 p3 := stM_no (stR_w (by first | exact Or.inl hc_5 | exact Or.inr c_1)) (by decide)
    have hP : va_P (dC, dI) vwCl (gw h kq sp k o b kp ga gl ++ kw cB k kl kb ++ ow cB o oz cs cd ++ sw cB cI b sz st us (stM sz mem p1 p2 p3) pl ln) s.heap := by rw [← e_mem]; exact hP
    have hD : va_D A (gw h kq sp k o b kp ga gl ++ kw cB k kl kb ++ ow cB o oz cs cd ++ sw cB cI b sz st us (stM sz mem p1 p2 p3) pl ln) := by rw [← e_mem]; exact hD
    exact W.iret (v := ((-11))) hx hb hr (fun t ht hW => ⟨⟨((-11)), (), rfl, (show ((-11)) = stR sz p1 p2 from (stR_w (by first | exact Or.inl hc_5 | exact Or.inr c_1)).symm), by rw [ht]; exact hP, va_K.moved hW.alike hK, hD⟩, hS.F ht⟩) hS.2.2 dX3_set_13
  · obtain ⟨x, n_x, rfl⟩ := nI_of c_1
    refine lv_iload_n hx hb dX3_set_4 rfl (lv_at hl 2 rfl) ?_
    refine vp_callSi (W.runS (As := [.int p2]) (rest := []) ⟨hx, hb, hml, hown, hts⟩ (c_X3_isWidth l p2) (va_cwS 1 hts gX3_set_X3_isWidth rfl rfl rfl (by decide +kernel) ⟨Nat.le_of_ble_eq_true rfl, Nat.le_of_ble_eq_true rfl⟩) ⟨fun a9 U g9 mk9 q9 => ⟨q9.1, trivial⟩, fun U hU hW => ⟨rfl, trivial⟩⟩ rfl rfl hl.1 rfl (lv_room (Nat.le_of_ble_eq_true rfl)) dX3_set_5 ⟨Nat.zero_le _, Nat.zero_le _⟩) (fun r_5 hw => ?_)
    try dsimp only at hw
    rcases hw with ⟨hc_5, rfl⟩ | ⟨hc_5, rfl⟩
    · obtain ⟨k9, hkw, rfl⟩ := isW_of hc_5
      refine lv_if_ne (tgt := 14) hx hb dX3_set_8 (by decide) (fun c_8 => ?_) (fun c_8 => ?_)
      · have c_8 : ¬ 1 = 0 := fun q => c_8 ((nZ_eq (by omega)).mpr q)
        refine lv_aload_n hx hb dX3_set_14 rfl (lv_at hl 0 rfl) ?_
        refine lv_iload_n hx hb dX3_set_15 rfl (lv_at hl 1 rfl) ?_
        refine lv_iload_n hx hb dX3_set_16 rfl (lv_at hl 2 rfl) ?_
        refine vp_callSi (W.runV (As := [.int (nI x), .int (nI k9)]) (rest := []) ⟨hx, hb, hml, hown, hts⟩ (c_X3_writeRefusal l dC dI cB cI h kq sp k o b kp ga gl kl kb oz cs cd sz st us mem pl ln x k9 (by omega) (by omega) (by omega)) (cwV 2 hts gX3_set_X3_writeRefusal rfl rfl rfl (by decide +kernel) ⟨Nat.le_of_ble_eq_true rfl, Nat.le_of_ble_eq_true rfl⟩) ⟨fun a9 U g9 mk9 q9 => by obtain ⟨q0, qP, qK⟩ := q9; exact ⟨q0, qP, va_K.moved (u := U) (U := U.calling g9 mk9 a9) (Vm.Alike.refl U.vm) qK⟩, va_recv hK hP (ci := 3) (q0 := 0) rfl rfl, fun U hU hW => ⟨rfl, by rw [hU]; exact hP, va_K.moved hW.alike hK⟩⟩ rfl rfl hl.1 rfl (lv_room (Nat.le_of_ble_eq_true rfl)) dX3_set_17 ⟨Nat.zero_le _, Nat.zero_le _⟩) (fun r_17 hw => ?_)
        try dsimp only at hw
        rcases hw with ⟨hq1, rfl⟩ | ⟨hq1, hq2, rfl⟩ | ⟨hq1, hq2, rfl⟩
        · skip
          refine lv_istore (lv' := [(4, .int ((-12))), (0, .ref h), (1, .int (nI x)), (2, .int (nI k9)), (3, .int p3)]) hx hb dX3_set_20 hl (by decide) rfl (fun ls hl => ?_)
          refine lv_iload hx hb dX3_set_22 (lv_at hl 0 rfl) ?_
          refine lv_if_eq (tgt := 30) hx hb dX3_set_24 (by decide) (fun c_24 => ?_) (fun c_24 => ?_)
          · exact absurd c_24 (by decide)
          · refine lv_iload hx hb dX3_set_27 (lv_at hl 0 rfl) ?_
            have e_mem : mem = stM sz mem (nI x) (nI k9) p3 := stM_no (show _ = (-12) by rw [stR_ok n_x hkw, if_pos hq1]) (by decide)
            have hP : va_P (dC, dI) vwCl (gw h kq sp k o b kp ga gl ++ kw cB k kl kb ++ ow cB o oz cs cd ++ sw cB cI b sz st us (stM sz mem (nI x) (nI k9) p3) pl ln) s.heap := by rw [← e_mem]; exact hP
            have hD : va_D A (gw h kq sp k o b kp ga gl ++ kw cB k kl kb ++ ow cB o oz cs cd ++ sw cB cI b sz st us (stM sz mem (nI x) (nI k9) p3) pl ln) := by rw [← e_mem]; exact hD
            exact W.iret (v := ((-12))) hx hb hr (fun t ht hW => ⟨⟨((-12)), (), rfl, (show ((-12)) = stR sz (nI x) (nI k9) from by rw [stR_ok n_x hkw, if_pos hq1]), by rw [ht]; exact hP, va_K.moved hW.alike hK, hD⟩, hS.F ht⟩) hS.2.2 dX3_set_29
        · skip
          refine lv_istore (lv' := [(4, .int ((-13))), (0, .ref h), (1, .int (nI x)), (2, .int (nI k9)), (3, .int p3)]) hx hb dX3_set_20 hl (by decide) rfl (fun ls hl => ?_)
          refine lv_iload hx hb dX3_set_22 (lv_at hl 0 rfl) ?_
          refine lv_if_eq (tgt := 30) hx hb dX3_set_24 (by decide) (fun c_24 => ?_) (fun c_24 => ?_)
          · exact absurd c_24 (by decide)
          · refine lv_iload hx hb dX3_set_27 (lv_at hl 0 rfl) ?_
            have e_mem : mem = stM sz mem (nI x) (nI k9) p3 := stM_no (show _ = (-13) by rw [stR_ok n_x hkw, if_neg (by omega), if_pos hq2]) (by decide)
            have hP : va_P (dC, dI) vwCl (gw h kq sp k o b kp ga gl ++ kw cB k kl kb ++ ow cB o oz cs cd ++ sw cB cI b sz st us (stM sz mem (nI x) (nI k9) p3) pl ln) s.heap := by rw [← e_mem]; exact hP
            have hD : va_D A (gw h kq sp k o b kp ga gl ++ kw cB k kl kb ++ ow cB o oz cs cd ++ sw cB cI b sz st us (stM sz mem (nI x) (nI k9) p3) pl ln) := by rw [← e_mem]; exact hD
            exact W.iret (v := ((-13))) hx hb hr (fun t ht hW => ⟨⟨((-13)), (), rfl, (show ((-13)) = stR sz (nI x) (nI k9) from by rw [stR_ok n_x hkw, if_neg (by omega), if_pos hq2]), by rw [ht]; exact hP, va_K.moved hW.alike hK, hD⟩, hS.F ht⟩) hS.2.2 dX3_set_29
        · skip
          refine lv_istore (lv' := [(4, .int (nI 0)), (0, .ref h), (1, .int (nI x)), (2, .int (nI k9)), (3, .int p3)]) hx hb dX3_set_20 hl (by decide) rfl (fun ls hl => ?_)
          refine lv_iload hx hb dX3_set_22 (lv_at hl 0 rfl) ?_
          refine lv_if_eq (tgt := 30) hx hb dX3_set_24 (by decide) (fun c_24 => ?_) (fun c_24 => ?_)
          · have c_24 : 0 = 0 := (nZ_eq (by omega)).mp c_24
            refine lv_aload_n hx hb dX3_set_30 rfl (lv_at hl 1 rfl) ?_
            refine va_get (D := (dC, dI)) (ci := 3) (v := .ref (b 0)) (C := RX3) (T := TX3) (N := 8) hx hb hts in_X3 hown hK hP 0 rfl rfl 3 (by decide) lk_1 (fun _ h9 => h9) rfl dX3_set_31 ?_
            refine lv_iload_n hx hb dX3_set_34 rfl (lv_at hl 2 rfl) ?_
            refine lv_iload_n hx hb dX3_set_35 rfl (lv_at hl 3 rfl) ?_
            refine lv_iload_n hx hb dX3_set_36 rfl (lv_at hl 4 rfl) ?_
            have hPc := hP.sub (ws' := sw cB cI b sz st us mem pl ln) [5, 6, 7, 8] rfl
            have hKc := hK.sub (tys' := [(cI, .int), (cB, .byte)]) [0, 1] rfl
            have hDc := hD.sub (ws' := sw cB cI b sz st us mem pl ln) [5, 6, 7, 8] (by decide) rfl
            have hFc := va_free (wc := sw cB cI b sz st us mem pl ln) hD hS hA [5, 6, 7, 8] rfl
            refine va_callv (va_runV (As := [.int (nI x), .int (nI k9), .int p3]) (rest := []) ⟨hx, hb, hml, hown, hts⟩ (c_X2_store l dC dI cB cI b sz st us mem pl ln s.heap.size x k9 p3 (by omega) (by omega)) (cwV 3 hts gX3_set_X2_store rfl rfl rfl (by decide +kernel) ⟨Nat.le_of_ble_eq_true rfl, Nat.le_of_ble_eq_true rfl⟩) ⟨fun a9 U g9 mk9 q9 => by obtain ⟨q0, q1, qP, qK, qD⟩ := q9; exact ⟨q0, q1, qP, va_K.moved (u := U) (U := U.calling g9 mk9 a9) (Vm.Alike.refl U.vm) qK, qD⟩, va_recv hKc hPc (ci := 2) (q0 := 0) rfl rfl, fun U hU hW => ⟨rfl, by rw [hU], by rw [hU]; exact hPc, va_K.moved hW.alike hKc, hDc.weaken (fun _ _ _ _ => trivial)⟩⟩ rfl rfl hl.1 rfl (lv_room (Nat.le_of_ble_eq_true rfl)) dX3_set_37 ⟨Nat.zero_le _, Nat.zero_le _⟩) hS (fun q _ h => hFc q h) hFc (fun u t H1 locs ht9 hvm9 hw hB hz9 hk9 hS => ?_)
            obtain ⟨hP1, hK1, hD1⟩ := hB
            rw [ht9] at hP1
            obtain ⟨hP, hD⟩ := va_join (wr := gw h kq sp k o b kp ga gl ++ kw cB k kl kb ++ ow cB o oz cs cd) (w1 := sw cB cI b sz st us (wr mem x k9 p3 k9) pl ln) hP hD [5, 6, 7, 8] [0, 1, 2, 3, 4] rfl rfl (by decide) (by decide) hk9 hFc hP1 hD1
            generalize H1 = H at hP hS ⊢
            have hP := hP.sub (ws' := gw h kq sp k o b kp ga gl ++ kw cB k kl kb ++ ow cB o oz cs cd ++ sw cB cI b sz st us (wr mem x k9 p3 k9) pl ln) [0, 1, 2, 3, 4, 5, 6, 7, 8] rfl
            have hD := hD.sub (ws' := gw h kq sp k o b kp ga gl ++ kw cB k kl kb ++ ow cB o oz cs cd ++ sw cB cI b sz st us (wr mem x k9 p3 k9) pl ln) [0, 1, 2, 3, 4, 5, 6, 7, 8] (by decide) rfl
            have hP : va_P (dC, dI) vwCl (gw h kq sp k o b kp ga gl ++ kw cB k kl kb ++ ow cB o oz cs cd ++ sw cB cI b sz st us (wr mem x k9 p3 k9) pl ln) H := hP
            have hD : va_D A (gw h kq sp k o b kp ga gl ++ kw cB k kl kb ++ ow cB o oz cs cd ++ sw cB cI b sz st us (wr mem x k9 p3 k9) pl ln) := hD
            refine lv_iconst (v := (nI 1)) hx hb dX3_set_40 (by decide) ?_
            have e_mem : wr mem x k9 p3 k9 = stM sz mem (nI x) (nI k9) p3 := by rw [stM_ok (by rw [stR_ok n_x hkw, if_neg (by omega), if_neg (by omega)]) n_x (by omega)]
            have hP : va_P (dC, dI) vwCl (gw h kq sp k o b kp ga gl ++ kw cB k kl kb ++ ow cB o oz cs cd ++ sw cB cI b sz st us (stM sz mem (nI x) (nI k9) p3) pl ln) H := by rw [← e_mem]; exact hP
            have hD : va_D A (gw h kq sp k o b kp ga gl ++ kw cB k kl kb ++ ow cB o oz cs cd ++ sw cB cI b sz st us (stM sz mem (nI x) (nI k9) p3) pl ln) := by rw [← e_mem]; exact hD
            exact W.iret (v := (nI 1)) hx hb hr (fun t ht hW => ⟨⟨(nI 1), (), rfl, (show (nI 1) = stR sz (nI x) (nI k9) from by rw [stR_ok n_x hkw, if_neg (by omega), if_neg (by omega)]), by rw [ht]; exact hP, va_K.moved hW.alike hK, hD⟩, hS.F ht⟩) hS.2.2 dX3_set_41
          · exact absurd c_24 (by decide)
      · exact absurd c_8 (by decide)
    · refine lv_if_ne (tgt := 14) hx hb dX3_set_8 (by decide) (fun c_8 => ?_) (fun c_8 => ?_)
      · exact absurd c_8 (by decide)
      · have c_8 : 0 = 0 := (nZ_eq (by omega)).mp c_8
        refine lv_bipush (v := ((-11))) hx hb dX3_set_11 (by decide) ?_
        have e_mem : mem = stM sz mem (nI x) p2 p3 := stM_no (stR_w (by first | exact Or.inl hc_5 | exact Or.inr c_1)) (by decide)
        have hP : va_P (dC, dI) vwCl (gw h kq sp k o b kp ga gl ++ kw cB k kl kb ++ ow cB o oz cs cd ++ sw cB cI b sz st us (stM sz mem (nI x) p2 p3) pl ln) s.heap := by rw [← e_mem]; exact hP
        have hD : va_D A (gw h kq sp k o b kp ga gl ++ kw cB k kl kb ++ ow cB o oz cs cd ++ sw cB cI b sz st us (stM sz mem (nI x) p2 p3) pl ln) := by rw [← e_mem]; exact hD
        exact W.iret (v := ((-11))) hx hb hr (fun t ht hW => ⟨⟨((-11)), (), rfl, (show ((-11)) = stR sz (nI x) p2 from (stR_w (by first | exact Or.inl hc_5 | exact Or.inr c_1)).symm), by rw [ht]; exact hP, va_K.moved hW.alike hK, hD⟩, hS.F ht⟩) hS.2.2 dX3_set_13
set_option maxHeartbeats 4000000 in
set_option maxRecDepth 100000 in
theorem c_X3_zero (l : Launch) (dC : Nat → ClassId) (dI : Nat → Nat → Nat) (cB cI : ClassId) (h kq : Nat) (sp : Option Nat) (k o b : Nat → Nat) (kp : Nat) (ga : Nat) (gl : Nat) (kl : Nat) (kb : Nat → Nat) (oz : Nat) (cs : Nat) (cd : Nat → Nat) (sz : Nat) (st : Nat) (us : Nat) (mem : Nat → Nat) (pl : Nat → Nat) (ln : Nat → Nat) (zz : Nat) (p1 p2 : Int32) (g3 : sz ≤ 8192) : Met l yX3_zero wsX3_zero ({ frames := 2, cells := 0, slots := 0, locals := 46 }) (va_Pc [.ref h, .int p1, .int p2] (fun U => U.heap.size = zz ∧ va_P (dC, dI) vwCl (gw h kq sp k o b kp ga gl ++ kw cB k kl kb ++ ow cB o oz cs cd ++ sw cB cI b sz st us mem pl ln) U.heap ∧ va_K (dC, dI) vwCl [(cI, .int), (cB, .byte)] U ∧ va_D (fun _ => True) (gw h kq sp k o b kp ga gl ++ kw cB k kl kb ++ ow cB o oz cs cd ++ sw cB cI b sz st us mem pl ln))) (va_Qi (fun r _ => r = zrR sz p1 p2) (fun (_ : Unit) t => va_P (dC, dI) vwCl (gw h kq sp k o b kp ga gl ++ kw cB k kl kb ++ ow cB o oz cs cd ++ sw cB cI b sz st us (zrM sz mem p1 p2) pl ln) t.heap ∧ va_K (dC, dI) vwCl [(cI, .int), (cB, .byte)] t ∧ va_D (va_A (gw h kq sp k o b kp ga gl ++ kw cB k kl kb ++ ow cB o oz cs cd ++ sw cB cI b sz st us mem pl ln) zz) (gw h kq sp k o b kp ga gl ++ kw cB k kl kb ++ ow cB o oz cs cd ++ sw cB cI b sz st us (zrM sz mem p1 p2) pl ln)) (va_A (gw h kq sp k o b kp ga gl ++ kw cB k kl kb ++ ow cB o oz cs cd ++ sw cB cI b sz st us mem pl ln) zz)) 0 0 (va_A (gw h kq sp k o b kp ga gl ++ kw cB k kl kb ++ ow cB o oz cs cd ++ sw cB cI b sz st us mem pl ln) zz) := by
  refine Met.ofW (cc := cX3_zero) (maxL := 4) (ret := (some .int)) (by decide) rfl ?_
  intro p e s m args below meth c s₁ B hml hv
  obtain ⟨rfl, hsz, hP, hK, hD0⟩ := hv
  have hx := B.exec
  have hb := B.bytes
  have hr := B.returns
  have hts := atoms_spec (ws := wsX3_zero) B.pre
  have hown : s.vm.findClass RX3 = some m.cls := findClass_of_methodNamed B.named
  have hlocks := B.notSynchronized
  subst hsz
  have hD := hD0.self (sz := s.heap.size)
  generalize hAe : va_A (gw h kq sp k o b kp ga gl ++ kw cB k kl kb ++ ow cB o oz cs cd ++ sw cB cI b sz st us mem pl ln) s.heap.size = A at hD ⊢
  have hA : ∀ q : Nat, s.heap.size ≤ q → A q := fun q h => by rw [← hAe]; exact Or.inr h
  have hS : va_S A s.heap s.heap [] := va_S.rf
  have hP : va_P (dC, dI) vwCl (gw h kq sp k o b kp ga gl ++ kw cB k kl kb ++ ow cB o oz cs cd ++ sw cB cI b sz st us mem pl ln) s.heap := hP
  have in_X2 : ∀ w ∈ wsX20, w ∈ wsX3_zero := fun _ h => List.mem_cons_of_mem _ (List.mem_append_right _ (h))
  have in_X3 : ∀ w ∈ wsX30, w ∈ wsX3_zero := fun _ h => List.mem_cons_of_mem _ (List.mem_append_left _ (List.mem_append_right _ (h)))
  have lk_1 := hts (.fieldLink RX3 30 "GlulxHeap" "now" "LGlulxHeap$State;") (List.mem_of_getElem? (i := 1) rfl)
  have lk_2 := hts (.fieldLink RX3 61 "GlulxHeap$State" "bytes" "[B") (List.mem_of_getElem? (i := 2) rfl)
  have hl := lv_entry ([.ref h, .int p1, .int p2]) (n := 4) (Nat.le_of_ble_eq_true rfl)
  rw [lg_entry_eq]
  generalize (lg_sl ([.ref h, .int p1, .int p2]) ++ List.replicate (4 - (lg_sl ([.ref h, .int p1, .int p2])).length) Slot.unset).toArray = ls at hl ⊢
  have hl : lv_has ls 4 [(0, .ref h), (1, .int p1), (2, .int p2)] := hl
  refine lv_iload_n hx hb dX3_zero_0 rfl (lv_at hl 1 rfl) ?_
  refine lv_if_lt (tgt := 8) hx hb dX3_zero_1 (by decide) (fun c_1 => ?_) (fun c_1 => ?_)
  · refine lv_bipush (v := ((-11))) hx hb dX3_zero_8 (by decide) ?_
    have e_mem : mem = zrM sz mem p1 p2 := zrM_no (zrR_w (by first | exact Or.inl c_1 | exact Or.inr c_5)) (by decide)
    have hP : va_P (dC, dI) vwCl (gw h kq sp k o b kp ga gl ++ kw cB k kl kb ++ ow cB o oz cs cd ++ sw cB cI b sz st us (zrM sz mem p1 p2) pl ln) s.heap := by rw [← e_mem]; exact hP
    have hD : va_D A (gw h kq sp k o b kp ga gl ++ kw cB k kl kb ++ ow cB o oz cs cd ++ sw cB cI b sz st us (zrM sz mem p1 p2) pl ln) := by rw [← e_mem]; exact hD
    exact W.iret (v := ((-11))) hx hb hr (fun t ht hW => ⟨⟨((-11)), (), rfl, (show ((-11)) = zrR sz p1 p2 from (zrR_w (by first | exact Or.inl c_1 | exact Or.inr c_5)).symm), by rw [ht]; exact hP, va_K.moved hW.alike hK, hD⟩, hS.F ht⟩) hS.2.2 dX3_zero_10
  · obtain ⟨x, n_x, rfl⟩ := nI_of c_1
    refine lv_iload_n hx hb dX3_zero_4 rfl (lv_at hl 2 rfl) ?_
    refine lv_if_ge (tgt := 11) hx hb dX3_zero_5 (by decide) (fun c_5 => ?_) (fun c_5 => ?_)
    · have c_5 : ¬ p2 < 0 := i0_ge.mp c_5
      obtain ⟨n, n_n, rfl⟩ := nI_of c_5
      refine lv_iload_n hx hb dX3_zero_11 rfl (lv_at hl 2 rfl) ?_
      refine lv_if_ne (tgt := 17) hx hb dX3_zero_12 (by decide) (fun c_12 => ?_) (fun c_12 => ?_)
      · have c_12 : ¬ n = 0 := fun q => c_12 ((nZ_eq (by omega)).mpr q)
        refine lv_aload_n hx hb dX3_zero_17 rfl (lv_at hl 0 rfl) ?_
        refine lv_iload_n hx hb dX3_zero_18 rfl (lv_at hl 1 rfl) ?_
        refine lv_iload_n hx hb dX3_zero_19 rfl (lv_at hl 2 rfl) ?_
        refine vp_callSi (W.runV (As := [.int (nI x), .int (nI n)]) (rest := []) ⟨hx, hb, hml, hown, hts⟩ (c_X3_writeRefusal l dC dI cB cI h kq sp k o b kp ga gl kl kb oz cs cd sz st us mem pl ln x n (by omega) (by omega) (by omega)) (cwV 2 hts gX3_zero_X3_writeRefusal rfl rfl rfl (by decide +kernel) ⟨Nat.le_of_ble_eq_true rfl, Nat.le_of_ble_eq_true rfl⟩) ⟨fun a9 U g9 mk9 q9 => by obtain ⟨q0, qP, qK⟩ := q9; exact ⟨q0, qP, va_K.moved (u := U) (U := U.calling g9 mk9 a9) (Vm.Alike.refl U.vm) qK⟩, va_recv hK hP (ci := 3) (q0 := 0) rfl rfl, fun U hU hW => ⟨rfl, by rw [hU]; exact hP, va_K.moved hW.alike hK⟩⟩ rfl rfl hl.1 rfl (lv_room (Nat.le_of_ble_eq_true rfl)) dX3_zero_20 ⟨Nat.zero_le _, Nat.zero_le _⟩) (fun r_20 hw => ?_)
        try dsimp only at hw
        rcases hw with ⟨hq1, rfl⟩ | ⟨hq1, hq2, rfl⟩ | ⟨hq1, hq2, rfl⟩
        · skip
          refine lv_istore_n (lv' := [(3, .int ((-12))), (0, .ref h), (1, .int (nI x)), (2, .int (nI n))]) hx hb dX3_zero_23 rfl hl (by decide) rfl (fun ls hl => ?_)
          refine lv_iload_n hx hb dX3_zero_24 rfl (lv_at hl 0 rfl) ?_
          refine lv_if_eq (tgt := 30) hx hb dX3_zero_25 (by decide) (fun c_25 => ?_) (fun c_25 => ?_)
          · exact absurd c_25 (by decide)
          · refine lv_iload_n hx hb dX3_zero_28 rfl (lv_at hl 0 rfl) ?_
            have e_mem : mem = zrM sz mem (nI x) (nI n) := zrM_no (show _ = (-12) by rw [zrR_ok n_x n_n, if_pos (by omega)]) (by decide)
            have hP : va_P (dC, dI) vwCl (gw h kq sp k o b kp ga gl ++ kw cB k kl kb ++ ow cB o oz cs cd ++ sw cB cI b sz st us (zrM sz mem (nI x) (nI n)) pl ln) s.heap := by rw [← e_mem]; exact hP
            have hD : va_D A (gw h kq sp k o b kp ga gl ++ kw cB k kl kb ++ ow cB o oz cs cd ++ sw cB cI b sz st us (zrM sz mem (nI x) (nI n)) pl ln) := by rw [← e_mem]; exact hD
            exact W.iret (v := ((-12))) hx hb hr (fun t ht hW => ⟨⟨((-12)), (), rfl, (show ((-12)) = zrR sz (nI x) (nI n) from by rw [zrR_ok n_x n_n, if_pos (by omega)]), by rw [ht]; exact hP, va_K.moved hW.alike hK, hD⟩, hS.F ht⟩) hS.2.2 dX3_zero_29
        · skip
          refine lv_istore_n (lv' := [(3, .int ((-13))), (0, .ref h), (1, .int (nI x)), (2, .int (nI n))]) hx hb dX3_zero_23 rfl hl (by decide) rfl (fun ls hl => ?_)
          refine lv_iload_n hx hb dX3_zero_24 rfl (lv_at hl 0 rfl) ?_
          refine lv_if_eq (tgt := 30) hx hb dX3_zero_25 (by decide) (fun c_25 => ?_) (fun c_25 => ?_)
          · exact absurd c_25 (by decide)
          · refine lv_iload_n hx hb dX3_zero_28 rfl (lv_at hl 0 rfl) ?_
            have e_mem : mem = zrM sz mem (nI x) (nI n) := zrM_no (show _ = (-13) by rw [zrR_ok n_x n_n, if_neg (by omega), if_pos (by omega)]) (by decide)
            have hP : va_P (dC, dI) vwCl (gw h kq sp k o b kp ga gl ++ kw cB k kl kb ++ ow cB o oz cs cd ++ sw cB cI b sz st us (zrM sz mem (nI x) (nI n)) pl ln) s.heap := by rw [← e_mem]; exact hP
            have hD : va_D A (gw h kq sp k o b kp ga gl ++ kw cB k kl kb ++ ow cB o oz cs cd ++ sw cB cI b sz st us (zrM sz mem (nI x) (nI n)) pl ln) := by rw [← e_mem]; exact hD
            exact W.iret (v := ((-13))) hx hb hr (fun t ht hW => ⟨⟨((-13)), (), rfl, (show ((-13)) = zrR sz (nI x) (nI n) from by rw [zrR_ok n_x n_n, if_neg (by omega), if_pos (by omega)]), by rw [ht]; exact hP, va_K.moved hW.alike hK, hD⟩, hS.F ht⟩) hS.2.2 dX3_zero_29
        · skip
          refine lv_istore_n (lv' := [(3, .int (nI 0)), (0, .ref h), (1, .int (nI x)), (2, .int (nI n))]) hx hb dX3_zero_23 rfl hl (by decide) rfl (fun ls hl => ?_)
          refine lv_iload_n hx hb dX3_zero_24 rfl (lv_at hl 0 rfl) ?_
          refine lv_if_eq (tgt := 30) hx hb dX3_zero_25 (by decide) (fun c_25 => ?_) (fun c_25 => ?_)
          · have c_25 : 0 = 0 := (nZ_eq (by omega)).mp c_25
            refine lv_aload_n hx hb dX3_zero_30 rfl (lv_at hl 1 rfl) ?_
            refine va_get (D := (dC, dI)) (ci := 3) (v := .ref (b 0)) (C := RX3) (T := TX3) (N := 8) hx hb hts in_X3 hown hK hP 0 rfl rfl 3 (by decide) lk_1 (fun _ h9 => h9) rfl dX3_zero_31 ?_
            refine va_get (D := (dC, dI)) (ci := 2) (v := .ref (b 1)) (C := RX2) (T := TX2) (N := 6) hx hb hts in_X2 hown hK hP 5 rfl rfl 0 (by decide) lk_2 (fun _ h9 => h9) rfl dX3_zero_34 ?_
            refine lv_iload_n hx hb dX3_zero_37 rfl (lv_at hl 2 rfl) ?_
            refine lv_iload_n hx hb dX3_zero_38 rfl (lv_at hl 2 rfl) ?_
            refine lv_iload_n hx hb dX3_zero_39 rfl (lv_at hl 3 rfl) ?_
            refine lv_iadd hx hb dX3_zero_40 ?_
            refine tpi (nI_add _ _) ?_
            refine lv_iconst (v := (nI 0)) hx hb dX3_zero_41 (by decide) ?_
            have hPc := hP.sub (ws' := [(b 1, .inl (cB, 8192, .inl (bf mem)))]) [6] rfl
            have hDc := hD.sub (ws' := [(b 1, .inl (cB, 8192, .inl (bf mem)))]) [6] (by decide) rfl
            have hKc := hK.sub (tys' := [(cB, .byte)]) [1] rfl
            have hFc := va_free (wc := [(b 1, .inl (cB, 8192, .inl (bf mem)))]) hD hS hA [6] rfl
            refine va_callv (va_runS (As := [.ref (b 1), .int (nI x), .int (nI (x + n)), .int (nI 0)]) (rest := []) ⟨hx, hb, hml, hown, hts⟩ (c_J7_fill_eb02e l dC dI cB (b 1) 8192 mem s.heap.size x (x + n) (by omega) (by omega) (by omega)) (va_cwS 4 hts gX3_zero_J7_fill_eb02e rfl rfl rfl (by decide +kernel) ⟨Nat.le_of_ble_eq_true rfl, Nat.le_of_ble_eq_true rfl⟩) ⟨fun a9 U g9 mk9 q9 => by obtain ⟨q0, q1, qP, qK, qD⟩ := q9; exact ⟨q0, q1, qP, va_K.moved (u := U) (U := U.calling g9 mk9 a9) (Vm.Alike.refl U.vm) qK, qD⟩, fun U hU hW => ⟨rfl, by rw [hU], by rw [hU]; exact hPc, va_K.moved hW.alike hKc, hDc.weaken (fun _ _ _ _ => trivial)⟩⟩ rfl rfl hl.1 rfl (lv_room (Nat.le_of_ble_eq_true rfl)) dX3_zero_42 ⟨Nat.zero_le _, Nat.zero_le _⟩) hS (fun q _ h => hFc q h) hFc (fun u t H1 locs ht9 hvm9 hw hB hz9 hk9 hS => ?_)
            obtain ⟨hP1, hK1, hD1⟩ := hB
            rw [ht9] at hP1
            obtain ⟨hP, hD⟩ := va_join (wr := [(h, .inr (3, [.ref kq, .ref (k 0), .ref (o 0), .ref (b 0), va_rf sp, .int (nI kp), .int (nI ga), .int (nI gl)])), (k 0, .inr (1, [.ref (k 1), .int (nI kl)])), (k 1, .inl (cB, 64, .inl (bf kb))), (o 0, .inr (0, [.ref (o 1), .int (nI cs)])), (o 1, .inl (cB, oz, .inl (bf cd))), (b 0, .inr (2, [.ref (b 1), .ref (b 2), .ref (b 3), .int (nI sz), .int (nI st), .int (nI us)])), (b 2, .inl (cI, 64, .inl (nf pl))), (b 3, .inl (cI, 64, .inl (nf ln)))]) (w1 := [(b 1, .inl (cB, 8192, .inl (bf (zr mem x (x + n - x)))))]) hP hD [6] [0, 1, 2, 3, 4, 5, 7, 8] rfl rfl (by decide) (by decide) hk9 hFc hP1 hD1
            generalize H1 = H at hP hS ⊢
            have hP := hP.sub (ws' := gw h kq sp k o b kp ga gl ++ kw cB k kl kb ++ ow cB o oz cs cd ++ sw cB cI b sz st us (zr mem x (x + n - x)) pl ln) [0, 1, 2, 3, 4, 5, 8, 6, 7] rfl
            have hD := hD.sub (ws' := gw h kq sp k o b kp ga gl ++ kw cB k kl kb ++ ow cB o oz cs cd ++ sw cB cI b sz st us (zr mem x (x + n - x)) pl ln) [0, 1, 2, 3, 4, 5, 8, 6, 7] (by decide) rfl
            have hP : va_P (dC, dI) vwCl (gw h kq sp k o b kp ga gl ++ kw cB k kl kb ++ ow cB o oz cs cd ++ sw cB cI b sz st us (zr mem x (x + n - x)) pl ln) H := hP
            have hD : va_D A (gw h kq sp k o b kp ga gl ++ kw cB k kl kb ++ ow cB o oz cs cd ++ sw cB cI b sz st us (zr mem x (x + n - x)) pl ln) := hD
            refine lv_iconst (v := (nI 1)) hx hb dX3_zero_45 (by decide) ?_
            have e_mem : zr mem x (x + n - x) = zrM sz mem (nI x) (nI n) := by rw [zrM_ok (by rw [zrR_ok n_x n_n, if_neg (by omega), if_neg (by omega)]) n_x n_n, show x + n - x = n by omega]
            have hP : va_P (dC, dI) vwCl (gw h kq sp k o b kp ga gl ++ kw cB k kl kb ++ ow cB o oz cs cd ++ sw cB cI b sz st us (zrM sz mem (nI x) (nI n)) pl ln) H := by rw [← e_mem]; exact hP
            have hD : va_D A (gw h kq sp k o b kp ga gl ++ kw cB k kl kb ++ ow cB o oz cs cd ++ sw cB cI b sz st us (zrM sz mem (nI x) (nI n)) pl ln) := by rw [← e_mem]; exact hD
            exact W.iret (v := (nI 1)) hx hb hr (fun t ht hW => ⟨⟨(nI 1), (), rfl, (show (nI 1) = zrR sz (nI x) (nI n) from by rw [zrR_ok n_x n_n, if_neg (by omega), if_neg (by omega)]), by rw [ht]; exact hP, va_K.moved hW.alike hK, hD⟩, hS.F ht⟩) hS.2.2 dX3_zero_46
          · exact absurd c_25 (by decide)
      · have c_12 : n = 0 := (nZ_eq (by omega)).mp c_12
        refine lv_iconst (v := (nI 1)) hx hb dX3_zero_15 (by decide) ?_
        have e_mem : mem = zrM sz mem (nI x) (nI n) := by rw [zrM_ok (by rw [zrR_ok n_x n_n, if_neg (by omega), if_neg (by omega)]) n_x n_n, show n = 0 by omega, zr_0]
        have hP : va_P (dC, dI) vwCl (gw h kq sp k o b kp ga gl ++ kw cB k kl kb ++ ow cB o oz cs cd ++ sw cB cI b sz st us (zrM sz mem (nI x) (nI n)) pl ln) s.heap := by rw [← e_mem]; exact hP
        have hD : va_D A (gw h kq sp k o b kp ga gl ++ kw cB k kl kb ++ ow cB o oz cs cd ++ sw cB cI b sz st us (zrM sz mem (nI x) (nI n)) pl ln) := by rw [← e_mem]; exact hD
        exact W.iret (v := (nI 1)) hx hb hr (fun t ht hW => ⟨⟨(nI 1), (), rfl, (show (nI 1) = zrR sz (nI x) (nI n) from by rw [zrR_ok n_x n_n, if_neg (by omega), if_neg (by omega)]), by rw [ht]; exact hP, va_K.moved hW.alike hK, hD⟩, hS.F ht⟩) hS.2.2 dX3_zero_16
    · have c_5 : p2 < 0 := i0_nge.mp c_5
      refine lv_bipush (v := ((-11))) hx hb dX3_zero_8 (by decide) ?_
      have e_mem : mem = zrM sz mem (nI x) p2 := zrM_no (zrR_w (by first | exact Or.inl c_1 | exact Or.inr c_5)) (by decide)
      have hP : va_P (dC, dI) vwCl (gw h kq sp k o b kp ga gl ++ kw cB k kl kb ++ ow cB o oz cs cd ++ sw cB cI b sz st us (zrM sz mem (nI x) p2) pl ln) s.heap := by rw [← e_mem]; exact hP
      have hD : va_D A (gw h kq sp k o b kp ga gl ++ kw cB k kl kb ++ ow cB o oz cs cd ++ sw cB cI b sz st us (zrM sz mem (nI x) p2) pl ln) := by rw [← e_mem]; exact hD
      exact W.iret (v := ((-11))) hx hb hr (fun t ht hW => ⟨⟨((-11)), (), rfl, (show ((-11)) = zrR sz (nI x) p2 from (zrR_w (by first | exact Or.inl c_1 | exact Or.inr c_5)).symm), by rw [ht]; exact hP, va_K.moved hW.alike hK, hD⟩, hS.F ht⟩) hS.2.2 dX3_zero_10
set_option maxHeartbeats 4000000 in
set_option maxRecDepth 100000 in
theorem c_X3_copy (l : Launch) (dC : Nat → ClassId) (dI : Nat → Nat → Nat) (cB cI : ClassId) (h kq : Nat) (sp : Option Nat) (k o b : Nat → Nat) (kp : Nat) (ga : Nat) (gl : Nat) (kl : Nat) (kb : Nat → Nat) (oz : Nat) (cs : Nat) (cd : Nat → Nat) (sz : Nat) (st : Nat) (us : Nat) (mem : Nat → Nat) (pl : Nat → Nat) (ln : Nat → Nat) (zz : Nat) (p1 p2 p3 : Int32) (g3 : sz ≤ 8192) : Met l yX3_copy wsX3_copy ({ frames := 2, cells := 0, slots := 0, locals := 45 }) (va_Pc [.ref h, .int p1, .int p2, .int p3] (fun U => U.heap.size = zz ∧ va_P (dC, dI) vwCl (gw h kq sp k o b kp ga gl ++ kw cB k kl kb ++ ow cB o oz cs cd ++ sw cB cI b sz st us mem pl ln) U.heap ∧ va_K (dC, dI) vwCl [(cI, .int), (cB, .byte)] U ∧ va_D (fun _ => True) (gw h kq sp k o b kp ga gl ++ kw cB k kl kb ++ ow cB o oz cs cd ++ sw cB cI b sz st us mem pl ln))) (va_Qi (fun r _ => r = cpR sz p1 p2 p3) (fun (_ : Unit) t => va_P (dC, dI) vwCl (gw h kq sp k o b kp ga gl ++ kw cB k kl kb ++ ow cB o oz cs cd ++ sw cB cI b sz st us (cpM sz mem p1 p2 p3) pl ln) t.heap ∧ va_K (dC, dI) vwCl [(cI, .int), (cB, .byte)] t ∧ va_D (va_A (gw h kq sp k o b kp ga gl ++ kw cB k kl kb ++ ow cB o oz cs cd ++ sw cB cI b sz st us mem pl ln) zz) (gw h kq sp k o b kp ga gl ++ kw cB k kl kb ++ ow cB o oz cs cd ++ sw cB cI b sz st us (cpM sz mem p1 p2 p3) pl ln)) (va_A (gw h kq sp k o b kp ga gl ++ kw cB k kl kb ++ ow cB o oz cs cd ++ sw cB cI b sz st us mem pl ln) zz)) 0 0 (va_A (gw h kq sp k o b kp ga gl ++ kw cB k kl kb ++ ow cB o oz cs cd ++ sw cB cI b sz st us mem pl ln) zz) := by
  refine Met.ofW (cc := cX3_copy) (maxL := 5) (ret := (some .int)) (by decide) rfl ?_
  intro p e s m args below meth c s₁ B hml hv
  obtain ⟨rfl, hsz, hP, hK, hD0⟩ := hv
  have hx := B.exec
  have hb := B.bytes
  have hr := B.returns
  have hts := atoms_spec (ws := wsX3_copy) B.pre
  have hown : s.vm.findClass RX3 = some m.cls := findClass_of_methodNamed B.named
  have hlocks := B.notSynchronized
  subst hsz
  have hD := hD0.self (sz := s.heap.size)
  generalize hAe : va_A (gw h kq sp k o b kp ga gl ++ kw cB k kl kb ++ ow cB o oz cs cd ++ sw cB cI b sz st us mem pl ln) s.heap.size = A at hD ⊢
  have hA : ∀ q : Nat, s.heap.size ≤ q → A q := fun q h => by rw [← hAe]; exact Or.inr h
  have hS : va_S A s.heap s.heap [] := va_S.rf
  have hP : va_P (dC, dI) vwCl (gw h kq sp k o b kp ga gl ++ kw cB k kl kb ++ ow cB o oz cs cd ++ sw cB cI b sz st us mem pl ln) s.heap := hP
  have in_X2 : ∀ w ∈ wsX20, w ∈ wsX3_copy := fun _ h => List.mem_cons_of_mem _ (List.mem_append_right _ (h))
  have in_X3 : ∀ w ∈ wsX30, w ∈ wsX3_copy := fun _ h => List.mem_cons_of_mem _ (List.mem_append_left _ (List.mem_append_right _ (h)))
  have lk_1 := hts (.fieldLink RX3 30 "GlulxHeap" "now" "LGlulxHeap$State;") (List.mem_of_getElem? (i := 1) rfl)
  have lk_2 := hts (.fieldLink RX3 61 "GlulxHeap$State" "bytes" "[B") (List.mem_of_getElem? (i := 2) rfl)
  have lk_3 := hts (.methodLink RX3 71 arraycopyName) (List.mem_of_getElem? (i := 3) rfl)
  have lk_4 := hts (.native arraycopyName) (List.mem_of_getElem? (i := 4) rfl)
  have lk_5 := hts (.static arraycopyName) (List.mem_of_getElem? (i := 5) rfl)
  have lk_6 := hts (.initialized "java/lang/System") (List.mem_of_getElem? (i := 6) rfl)
  have hl := lv_entry ([.ref h, .int p1, .int p2, .int p3]) (n := 5) (Nat.le_of_ble_eq_true rfl)
  rw [lg_entry_eq]
  generalize (lg_sl ([.ref h, .int p1, .int p2, .int p3]) ++ List.replicate (5 - (lg_sl ([.ref h, .int p1, .int p2, .int p3])).length) Slot.unset).toArray = ls at hl ⊢
  have hl : lv_has ls 5 [(0, .ref h), (1, .int p1), (2, .int p2), (3, .int p3)] := hl
  refine lv_iload_n hx hb dX3_copy_0 rfl (lv_at hl 1 rfl) ?_
  refine lv_if_lt (tgt := 12) hx hb dX3_copy_1 (by decide) (fun c_1 => ?_) (fun c_1 => ?_)
  · refine lv_bipush (v := ((-11))) hx hb dX3_copy_12 (by decide) ?_
    have e_mem : mem = cpM sz mem p1 p2 p3 := cpM_no (cpR_w (by first | exact Or.inl c_1 | exact Or.inr (Or.inl c_5) | exact Or.inr (Or.inr c_9))) (by decide)
    have hP : va_P (dC, dI) vwCl (gw h kq sp k o b kp ga gl ++ kw cB k kl kb ++ ow cB o oz cs cd ++ sw cB cI b sz st us (cpM sz mem p1 p2 p3) pl ln) s.heap := by rw [← e_mem]; exact hP
    have hD : va_D A (gw h kq sp k o b kp ga gl ++ kw cB k kl kb ++ ow cB o oz cs cd ++ sw cB cI b sz st us (cpM sz mem p1 p2 p3) pl ln) := by rw [← e_mem]; exact hD
    exact W.iret (v := ((-11))) hx hb hr (fun t ht hW => ⟨⟨((-11)), (), rfl, (show ((-11)) = cpR sz p1 p2 p3 from (cpR_w (by first | exact Or.inl c_1 | exact Or.inr (Or.inl c_5) | exact Or.inr (Or.inr c_9))).symm), by rw [ht]; exact hP, va_K.moved hW.alike hK, hD⟩, hS.F ht⟩) hS.2.2 dX3_copy_14
  · obtain ⟨x, n_x, rfl⟩ := nI_of c_1
    refine lv_iload_n hx hb dX3_copy_4 rfl (lv_at hl 2 rfl) ?_
    refine lv_if_lt (tgt := 12) hx hb dX3_copy_5 (by decide) (fun c_5 => ?_) (fun c_5 => ?_)
    · refine lv_bipush (v := ((-11))) hx hb dX3_copy_12 (by decide) ?_
      have e_mem : mem = cpM sz mem (nI x) p2 p3 := cpM_no (cpR_w (by first | exact Or.inl c_1 | exact Or.inr (Or.inl c_5) | exact Or.inr (Or.inr c_9))) (by decide)
      have hP : va_P (dC, dI) vwCl (gw h kq sp k o b kp ga gl ++ kw cB k kl kb ++ ow cB o oz cs cd ++ sw cB cI b sz st us (cpM sz mem (nI x) p2 p3) pl ln) s.heap := by rw [← e_mem]; exact hP
      have hD : va_D A (gw h kq sp k o b kp ga gl ++ kw cB k kl kb ++ ow cB o oz cs cd ++ sw cB cI b sz st us (cpM sz mem (nI x) p2 p3) pl ln) := by rw [← e_mem]; exact hD
      exact W.iret (v := ((-11))) hx hb hr (fun t ht hW => ⟨⟨((-11)), (), rfl, (show ((-11)) = cpR sz (nI x) p2 p3 from (cpR_w (by first | exact Or.inl c_1 | exact Or.inr (Or.inl c_5) | exact Or.inr (Or.inr c_9))).symm), by rw [ht]; exact hP, va_K.moved hW.alike hK, hD⟩, hS.F ht⟩) hS.2.2 dX3_copy_14
    · obtain ⟨y, n_y, rfl⟩ := nI_of c_5
      refine lv_iload_n hx hb dX3_copy_8 rfl (lv_at hl 3 rfl) ?_
      refine lv_if_ge (tgt := 15) hx hb dX3_copy_9 (by decide) (fun c_9 => ?_) (fun c_9 => ?_)
      · have c_9 : ¬ p3 < 0 := i0_ge.mp c_9
        obtain ⟨n, n_n, rfl⟩ := nI_of c_9
        refine lv_iload_n hx hb dX3_copy_15 rfl (lv_at hl 3 rfl) ?_
        refine lv_if_ne (tgt := 21) hx hb dX3_copy_16 (by decide) (fun c_16 => ?_) (fun c_16 => ?_)
        · have c_16 : ¬ n = 0 := fun q => c_16 ((nZ_eq (by omega)).mpr q)
          refine lv_aload_n hx hb dX3_copy_21 rfl (lv_at hl 0 rfl) ?_
          refine va_get (D := (dC, dI)) (ci := 3) (v := .ref (b 0)) (C := RX3) (T := TX3) (N := 8) hx hb hts in_X3 hown hK hP 0 rfl rfl 3 (by decide) lk_1 (fun _ h9 => h9) rfl dX3_copy_22 ?_
          refine lv_iload_n hx hb dX3_copy_25 rfl (lv_at hl 1 rfl) ?_
          refine lv_i2l (v := lN x) hx hb dX3_copy_26 (nI_l (by omega)) ?_
          refine lv_iload_n hx hb dX3_copy_27 rfl (lv_at hl 3 rfl) ?_
          have hPc := hP.sub (ws' := sw cB cI b sz st us mem pl ln) [5, 6, 7, 8] rfl
          have hKc := hK.sub (tys' := [(cI, .int), (cB, .byte)]) [0, 1] rfl
          refine vp_callSi (W.runV (As := [.long (lN x), .int (nI n)]) (rest := []) ⟨hx, hb, hml, hown, hts⟩ (c_X2_has l dC dI cB cI b sz st us mem pl ln x n (by omega) (by omega) (by omega)) (cwV 2 hts gX3_copy_X2_has rfl rfl rfl (by decide +kernel) ⟨Nat.le_of_ble_eq_true rfl, Nat.le_of_ble_eq_true rfl⟩) ⟨fun a9 U g9 mk9 q9 => by obtain ⟨q0, qP, qK⟩ := q9; exact ⟨q0, qP, va_K.moved (u := U) (U := U.calling g9 mk9 a9) (Vm.Alike.refl U.vm) qK⟩, va_recv hKc hPc (ci := 2) (q0 := 0) rfl rfl, fun U hU hW => ⟨rfl, by rw [hU]; exact hPc, va_K.moved hW.alike hKc⟩⟩ rfl rfl hl.1 rfl (lv_room (Nat.le_of_ble_eq_true rfl)) dX3_copy_28 ⟨Nat.zero_le _, Nat.zero_le _⟩) (fun r_28 hw => ?_)
          try dsimp only at hw
          rcases hw with ⟨hc_28, rfl⟩ | ⟨hc_28, rfl⟩
          · skip
            refine lv_if_ne (tgt := 37) hx hb dX3_copy_31 (by decide) (fun c_31 => ?_) (fun c_31 => ?_)
            · have c_31 : ¬ 1 = 0 := fun q => c_31 ((nZ_eq (by omega)).mpr q)
              refine lv_aload_n hx hb dX3_copy_37 rfl (lv_at hl 0 rfl) ?_
              refine lv_iload_n hx hb dX3_copy_38 rfl (lv_at hl 2 rfl) ?_
              refine lv_iload_n hx hb dX3_copy_39 rfl (lv_at hl 3 rfl) ?_
              refine vp_callSi (W.runV (As := [.int (nI y), .int (nI n)]) (rest := []) ⟨hx, hb, hml, hown, hts⟩ (c_X3_writeRefusal l dC dI cB cI h kq sp k o b kp ga gl kl kb oz cs cd sz st us mem pl ln y n (by omega) (by omega) (by omega)) (cwV 2 hts gX3_copy_X3_writeRefusal rfl rfl rfl (by decide +kernel) ⟨Nat.le_of_ble_eq_true rfl, Nat.le_of_ble_eq_true rfl⟩) ⟨fun a9 U g9 mk9 q9 => by obtain ⟨q0, qP, qK⟩ := q9; exact ⟨q0, qP, va_K.moved (u := U) (U := U.calling g9 mk9 a9) (Vm.Alike.refl U.vm) qK⟩, va_recv hK hP (ci := 3) (q0 := 0) rfl rfl, fun U hU hW => ⟨rfl, by rw [hU]; exact hP, va_K.moved hW.alike hK⟩⟩ rfl rfl hl.1 rfl (lv_room (Nat.le_of_ble_eq_true rfl)) dX3_copy_40 ⟨Nat.zero_le _, Nat.zero_le _⟩) (fun r_40 hw => ?_)
              try dsimp only at hw
              rcases hw with ⟨hq1, rfl⟩ | ⟨hq1, hq2, rfl⟩ | ⟨hq1, hq2, rfl⟩
              · skip
                refine lv_istore (lv' := [(4, .int ((-12))), (0, .ref h), (1, .int (nI x)), (2, .int (nI y)), (3, .int (nI n))]) hx hb dX3_copy_43 hl (by decide) rfl (fun ls hl => ?_)
                refine lv_iload hx hb dX3_copy_45 (lv_at hl 0 rfl) ?_
                refine lv_if_eq (tgt := 53) hx hb dX3_copy_47 (by decide) (fun c_47 => ?_) (fun c_47 => ?_)
                · exact absurd c_47 (by decide)
                · refine lv_iload hx hb dX3_copy_50 (lv_at hl 0 rfl) ?_
                  have e_mem : mem = cpM sz mem (nI x) (nI y) (nI n) := cpM_no (show _ = (-12) by rw [cpR_ok n_x n_y n_n, if_pos (by omega)]) (by decide)
                  have hP : va_P (dC, dI) vwCl (gw h kq sp k o b kp ga gl ++ kw cB k kl kb ++ ow cB o oz cs cd ++ sw cB cI b sz st us (cpM sz mem (nI x) (nI y) (nI n)) pl ln) s.heap := by rw [← e_mem]; exact hP
                  have hD : va_D A (gw h kq sp k o b kp ga gl ++ kw cB k kl kb ++ ow cB o oz cs cd ++ sw cB cI b sz st us (cpM sz mem (nI x) (nI y) (nI n)) pl ln) := by rw [← e_mem]; exact hD
                  exact W.iret (v := ((-12))) hx hb hr (fun t ht hW => ⟨⟨((-12)), (), rfl, (show ((-12)) = cpR sz (nI x) (nI y) (nI n) from by rw [cpR_ok n_x n_y n_n, if_pos (by omega)]), by rw [ht]; exact hP, va_K.moved hW.alike hK, hD⟩, hS.F ht⟩) hS.2.2 dX3_copy_52
              · skip
                refine lv_istore (lv' := [(4, .int ((-13))), (0, .ref h), (1, .int (nI x)), (2, .int (nI y)), (3, .int (nI n))]) hx hb dX3_copy_43 hl (by decide) rfl (fun ls hl => ?_)
                refine lv_iload hx hb dX3_copy_45 (lv_at hl 0 rfl) ?_
                refine lv_if_eq (tgt := 53) hx hb dX3_copy_47 (by decide) (fun c_47 => ?_) (fun c_47 => ?_)
                · exact absurd c_47 (by decide)
                · refine lv_iload hx hb dX3_copy_50 (lv_at hl 0 rfl) ?_
                  have e_mem : mem = cpM sz mem (nI x) (nI y) (nI n) := cpM_no (show _ = (-13) by rw [cpR_ok n_x n_y n_n, if_neg (by omega), if_pos (by omega)]) (by decide)
                  have hP : va_P (dC, dI) vwCl (gw h kq sp k o b kp ga gl ++ kw cB k kl kb ++ ow cB o oz cs cd ++ sw cB cI b sz st us (cpM sz mem (nI x) (nI y) (nI n)) pl ln) s.heap := by rw [← e_mem]; exact hP
                  have hD : va_D A (gw h kq sp k o b kp ga gl ++ kw cB k kl kb ++ ow cB o oz cs cd ++ sw cB cI b sz st us (cpM sz mem (nI x) (nI y) (nI n)) pl ln) := by rw [← e_mem]; exact hD
                  exact W.iret (v := ((-13))) hx hb hr (fun t ht hW => ⟨⟨((-13)), (), rfl, (show ((-13)) = cpR sz (nI x) (nI y) (nI n) from by rw [cpR_ok n_x n_y n_n, if_neg (by omega), if_pos (by omega)]), by rw [ht]; exact hP, va_K.moved hW.alike hK, hD⟩, hS.F ht⟩) hS.2.2 dX3_copy_52
              · skip
                refine lv_istore (lv' := [(4, .int (nI 0)), (0, .ref h), (1, .int (nI x)), (2, .int (nI y)), (3, .int (nI n))]) hx hb dX3_copy_43 hl (by decide) rfl (fun ls hl => ?_)
                refine lv_iload hx hb dX3_copy_45 (lv_at hl 0 rfl) ?_
                refine lv_if_eq (tgt := 53) hx hb dX3_copy_47 (by decide) (fun c_47 => ?_) (fun c_47 => ?_)
                · have c_47 : 0 = 0 := (nZ_eq (by omega)).mp c_47
                  refine lv_aload_n hx hb dX3_copy_53 rfl (lv_at hl 1 rfl) ?_
                  refine va_get (D := (dC, dI)) (ci := 3) (v := .ref (b 0)) (C := RX3) (T := TX3) (N := 8) hx hb hts in_X3 hown hK hP 0 rfl rfl 3 (by decide) lk_1 (fun _ h9 => h9) rfl dX3_copy_54 ?_
                  refine va_get (D := (dC, dI)) (ci := 2) (v := .ref (b 1)) (C := RX2) (T := TX2) (N := 6) hx hb hts in_X2 hown hK hP 5 rfl rfl 0 (by decide) lk_2 (fun _ h9 => h9) rfl dX3_copy_57 ?_
                  refine lv_iload_n hx hb dX3_copy_60 rfl (lv_at hl 2 rfl) ?_
                  refine lv_aload_n hx hb dX3_copy_61 rfl (lv_at hl 1 rfl) ?_
                  refine va_get (D := (dC, dI)) (ci := 3) (v := .ref (b 0)) (C := RX3) (T := TX3) (N := 8) hx hb hts in_X3 hown hK hP 0 rfl rfl 3 (by decide) lk_1 (fun _ h9 => h9) rfl dX3_copy_62 ?_
                  refine va_get (D := (dC, dI)) (ci := 2) (v := .ref (b 1)) (C := RX2) (T := TX2) (N := 6) hx hb hts in_X2 hown hK hP 5 rfl rfl 0 (by decide) lk_2 (fun _ h9 => h9) rfl dX3_copy_65 ?_
                  refine lv_iload_n hx hb dX3_copy_68 rfl (lv_at hl 3 rfl) ?_
                  refine lv_iload_n hx hb dX3_copy_69 rfl (lv_at hl 4 rfl) ?_
                  refine va_copyi hx hb (by rw [hml]; exact hl.1.symm) hown lk_3 lk_4 lk_5 lk_6 hK hP hD hS 6 6 1 1 rfl rfl rfl rfl rfl (nI_pos (by omega)) (nI_pos (by omega)) (nI_pos (by omega)) (by rw [nI_clamp (by omega), nI_clamp (by omega)]; omega) (by rw [nI_clamp (by omega), nI_clamp (by omega)]; omega) (fun _ _ => sb_fitB _) (Nat.le_of_ble_eq_true rfl) (Nat.le_of_ble_eq_true rfl) dX3_copy_70 (fun H locs hP hD hS => ?_)
                  rw [cpy_bf (by omega) (by omega) (by omega)] at hP hD
                  have hP : va_P (dC, dI) vwCl (gw h kq sp k o b kp ga gl ++ kw cB k kl kb ++ ow cB o oz cs cd ++ sw cB cI b sz st us (va_cpy mem mem x y n) pl ln) H := hP
                  have hD : va_D A (gw h kq sp k o b kp ga gl ++ kw cB k kl kb ++ ow cB o oz cs cd ++ sw cB cI b sz st us (va_cpy mem mem x y n) pl ln) := hD
                  refine lv_iconst (v := (nI 1)) hx hb dX3_copy_73 (by decide) ?_
                  have e_mem : va_cpy mem mem x y n = cpM sz mem (nI x) (nI y) (nI n) := by rw [cpM_ok (by rw [cpR_ok n_x n_y n_n, if_neg (by omega), if_neg (by omega)]) n_x n_y n_n]
                  have hP : va_P (dC, dI) vwCl (gw h kq sp k o b kp ga gl ++ kw cB k kl kb ++ ow cB o oz cs cd ++ sw cB cI b sz st us (cpM sz mem (nI x) (nI y) (nI n)) pl ln) H := by rw [← e_mem]; exact hP
                  have hD : va_D A (gw h kq sp k o b kp ga gl ++ kw cB k kl kb ++ ow cB o oz cs cd ++ sw cB cI b sz st us (cpM sz mem (nI x) (nI y) (nI n)) pl ln) := by rw [← e_mem]; exact hD
                  exact W.iret (v := (nI 1)) hx hb hr (fun t ht hW => ⟨⟨(nI 1), (), rfl, (show (nI 1) = cpR sz (nI x) (nI y) (nI n) from by rw [cpR_ok n_x n_y n_n, if_neg (by omega), if_neg (by omega)]), by rw [ht]; exact hP, va_K.moved hW.alike hK, hD⟩, hS.F ht⟩) hS.2.2 dX3_copy_74
                · exact absurd c_47 (by decide)
            · exact absurd c_31 (by decide)
          · skip
            refine lv_if_ne (tgt := 37) hx hb dX3_copy_31 (by decide) (fun c_31 => ?_) (fun c_31 => ?_)
            · exact absurd c_31 (by decide)
            · have c_31 : 0 = 0 := (nZ_eq (by omega)).mp c_31
              refine lv_bipush (v := ((-12))) hx hb dX3_copy_34 (by decide) ?_
              have e_mem : mem = cpM sz mem (nI x) (nI y) (nI n) := cpM_no (show _ = (-12) by rw [cpR_ok n_x n_y n_n, if_pos (by omega)]) (by decide)
              have hP : va_P (dC, dI) vwCl (gw h kq sp k o b kp ga gl ++ kw cB k kl kb ++ ow cB o oz cs cd ++ sw cB cI b sz st us (cpM sz mem (nI x) (nI y) (nI n)) pl ln) s.heap := by rw [← e_mem]; exact hP
              have hD : va_D A (gw h kq sp k o b kp ga gl ++ kw cB k kl kb ++ ow cB o oz cs cd ++ sw cB cI b sz st us (cpM sz mem (nI x) (nI y) (nI n)) pl ln) := by rw [← e_mem]; exact hD
              exact W.iret (v := ((-12))) hx hb hr (fun t ht hW => ⟨⟨((-12)), (), rfl, (show ((-12)) = cpR sz (nI x) (nI y) (nI n) from by rw [cpR_ok n_x n_y n_n, if_pos (by omega)]), by rw [ht]; exact hP, va_K.moved hW.alike hK, hD⟩, hS.F ht⟩) hS.2.2 dX3_copy_36
        · have c_16 : n = 0 := (nZ_eq (by omega)).mp c_16
          refine lv_iconst (v := (nI 1)) hx hb dX3_copy_19 (by decide) ?_
          have e_mem : mem = cpM sz mem (nI x) (nI y) (nI n) := by rw [cpM_ok (by rw [cpR_ok n_x n_y n_n, if_neg (by omega), if_neg (by omega)]) n_x n_y n_n, show n = 0 by omega, cpy_0]
          have hP : va_P (dC, dI) vwCl (gw h kq sp k o b kp ga gl ++ kw cB k kl kb ++ ow cB o oz cs cd ++ sw cB cI b sz st us (cpM sz mem (nI x) (nI y) (nI n)) pl ln) s.heap := by rw [← e_mem]; exact hP
          have hD : va_D A (gw h kq sp k o b kp ga gl ++ kw cB k kl kb ++ ow cB o oz cs cd ++ sw cB cI b sz st us (cpM sz mem (nI x) (nI y) (nI n)) pl ln) := by rw [← e_mem]; exact hD
          exact W.iret (v := (nI 1)) hx hb hr (fun t ht hW => ⟨⟨(nI 1), (), rfl, (show (nI 1) = cpR sz (nI x) (nI y) (nI n) from by rw [cpR_ok n_x n_y n_n, if_neg (by omega), if_neg (by omega)]), by rw [ht]; exact hP, va_K.moved hW.alike hK, hD⟩, hS.F ht⟩) hS.2.2 dX3_copy_20
      · have c_9 : p3 < 0 := i0_nge.mp c_9
        refine lv_bipush (v := ((-11))) hx hb dX3_copy_12 (by decide) ?_
        have e_mem : mem = cpM sz mem (nI x) (nI y) p3 := cpM_no (cpR_w (by first | exact Or.inl c_1 | exact Or.inr (Or.inl c_5) | exact Or.inr (Or.inr c_9))) (by decide)
        have hP : va_P (dC, dI) vwCl (gw h kq sp k o b kp ga gl ++ kw cB k kl kb ++ ow cB o oz cs cd ++ sw cB cI b sz st us (cpM sz mem (nI x) (nI y) p3) pl ln) s.heap := by rw [← e_mem]; exact hP
        have hD : va_D A (gw h kq sp k o b kp ga gl ++ kw cB k kl kb ++ ow cB o oz cs cd ++ sw cB cI b sz st us (cpM sz mem (nI x) (nI y) p3) pl ln) := by rw [← e_mem]; exact hD
        exact W.iret (v := ((-11))) hx hb hr (fun t ht hW => ⟨⟨((-11)), (), rfl, (show ((-11)) = cpR sz (nI x) (nI y) p3 from (cpR_w (by first | exact Or.inl c_1 | exact Or.inr (Or.inl c_5) | exact Or.inr (Or.inr c_9))).symm), by rw [ht]; exact hP, va_K.moved hW.alike hK, hD⟩, hS.F ht⟩) hS.2.2 dX3_copy_14
