set_option maxHeartbeats 4000000 in
set_option maxRecDepth 100000 in
theorem c_X3_make (l : Launch) (dC : Nat → ClassId) (dI : Nat → Nat → Nat) (cB cI : ClassId) (h kq : Nat) (sp : Option Nat) (k o b : Nat → Nat) (kp : Nat) (ga : Nat) (gl : Nat) (kl : Nat) (kb : Nat → Nat) (oz : Nat) (cs : Nat) (cd : Nat → Nat) (sz : Nat) (st : Nat) (us : Nat) (mem : Nat → Nat) (pl : Nat → Nat) (ln : Nat → Nat) (zz : Nat) (p1 : Int32) (gw9 : wfB sz st us pl ln) : Met l yX3_make wsX3_make ({ frames := 4, cells := 0, slots := 0, locals := 90 }) (va_Pc [.ref h, .int p1] (fun U => U.heap.size = zz ∧ va_P (dC, dI) vwCl (gw h kq sp k o b kp ga gl ++ kw cB k kl kb ++ ow cB o oz cs cd ++ sw cB cI b sz st us mem pl ln) U.heap ∧ va_K (dC, dI) vwCl [(cI, .int), (cB, .byte)] U ∧ va_D (fun _ => True) (gw h kq sp k o b kp ga gl ++ kw cB k kl kb ++ ow cB o oz cs cd ++ sw cB cI b sz st us mem pl ln))) (va_Qi (fun r _ => r = mkR sz st us pl ln p1) (fun (_ : Unit) t => va_P (dC, dI) vwCl (gw h kq sp k o b kp ga gl ++ kw cB k kl kb ++ ow cB o oz cs cd ++ sw cB cI b (mkZ sz st us pl ln p1) (mkS sz st us pl ln p1) (mkU sz st us pl ln p1) mem (mkQ sz st us pl ln p1) (mkL sz st us pl ln p1)) t.heap ∧ va_K (dC, dI) vwCl [(cI, .int), (cB, .byte)] t ∧ va_D (va_A (gw h kq sp k o b kp ga gl ++ kw cB k kl kb ++ ow cB o oz cs cd ++ sw cB cI b sz st us mem pl ln) zz) (gw h kq sp k o b kp ga gl ++ kw cB k kl kb ++ ow cB o oz cs cd ++ sw cB cI b (mkZ sz st us pl ln p1) (mkS sz st us pl ln p1) (mkU sz st us pl ln p1) mem (mkQ sz st us pl ln p1) (mkL sz st us pl ln p1))) (va_A (gw h kq sp k o b kp ga gl ++ kw cB k kl kb ++ ow cB o oz cs cd ++ sw cB cI b sz st us mem pl ln) zz)) 0 0 (va_A (gw h kq sp k o b kp ga gl ++ kw cB k kl kb ++ ow cB o oz cs cd ++ sw cB cI b sz st us mem pl ln) zz) := by
  refine Met.ofW (cc := cX3_make) (maxL := 4) (ret := (some .int)) (by decide) rfl ?_
  intro p e s m args below meth c s₁ B hml hv
  obtain ⟨rfl, hsz, hP, hK, hD0⟩ := hv
  have hx := B.exec
  have hb := B.bytes
  have hr := B.returns
  have hts := atoms_spec (ws := wsX3_make) B.pre
  have hown : s.vm.findClass RX3 = some m.cls := findClass_of_methodNamed B.named
  have hlocks := B.notSynchronized
  subst hsz
  have hD := hD0.self (sz := s.heap.size)
  generalize hAe : va_A (gw h kq sp k o b kp ga gl ++ kw cB k kl kb ++ ow cB o oz cs cd ++ sw cB cI b sz st us mem pl ln) s.heap.size = A at hD ⊢
  have hA : ∀ q : Nat, s.heap.size ≤ q → A q := fun q h => by rw [← hAe]; exact Or.inr h
  have hS : va_S A s.heap s.heap [] := va_S.rf
  have hP : va_P (dC, dI) vwCl (gw h kq sp k o b kp ga gl ++ kw cB k kl kb ++ ow cB o oz cs cd ++ sw cB cI b sz st us mem pl ln) s.heap := hP
  have in_X2 : ∀ w ∈ wsX20, w ∈ wsX3_make := fun _ h => List.mem_cons_of_mem _ (List.mem_append_right _ (h))
  have in_X3 : ∀ w ∈ wsX30, w ∈ wsX3_make := fun _ h => List.mem_cons_of_mem _ (List.mem_append_left _ (List.mem_append_right _ (h)))
  have lk_1 := hts (.fieldLink RX3 30 "GlulxHeap" "now" "LGlulxHeap$State;") (List.mem_of_getElem? (i := 1) rfl)
  have lk_2 := hts (.fieldLink RX3 80 "GlulxHeap$State" "used" "I") (List.mem_of_getElem? (i := 2) rfl)
  have hl := lv_entry ([.ref h, .int p1]) (n := 4) (Nat.le_of_ble_eq_true rfl)
  rw [lg_entry_eq]
  generalize (lg_sl ([.ref h, .int p1]) ++ List.replicate (4 - (lg_sl ([.ref h, .int p1])).length) Slot.unset).toArray = ls at hl ⊢
  have hl : lv_has ls 4 [(0, .ref h), (1, .int p1)] := hl
  obtain ⟨gw1, gw2, gw3, gw4, gw5, gw6⟩ := id gw9
  refine lv_iload_n hx hb dX3_make_0 rfl (lv_at hl 1 rfl) ?_
  refine lv_iconst (v := (nI 1)) hx hb dX3_make_1 (by decide) ?_
  refine lv_icmp_ge (tgt := 8) hx hb dX3_make_2 (by decide) (fun c_2 => ?_) (fun c_2 => ?_)
  · obtain ⟨n, n_n, rfl, n_1⟩ := ge1 c_2
    have hcl : cl (nI n) = n := nI_clamp n_n
    refine lv_aload_n hx hb dX3_make_8 rfl (lv_at hl 0 rfl) ?_
    refine va_get (D := (dC, dI)) (ci := 3) (v := .ref (b 0)) (C := RX3) (T := TX3) (N := 8) hx hb hts in_X3 hown hK hP 0 rfl rfl 3 (by decide) lk_1 (fun _ h9 => h9) rfl dX3_make_9 ?_
    refine va_get (D := (dC, dI)) (ci := 2) (v := .int (nI us)) (C := RX2) (T := TX2) (N := 6) hx hb hts in_X2 hown hK hP 5 rfl rfl 5 (by decide) lk_2 (fun _ h9 => h9) rfl dX3_make_12 ?_
    refine lv_bipush (v := (nI 64)) hx hb dX3_make_15 (by decide) ?_
    refine lv_icmp_lt (tgt := 22) hx hb dX3_make_17 (by decide) (fun c_17 => ?_) (fun c_17 => ?_)
    · have c_17 : us < 64 := (nI_ltI (a := us) (b := 64) (by omega) (by omega)).mp c_17
      refine lv_aload_n hx hb dX3_make_22 rfl (lv_at hl 0 rfl) ?_
      refine va_get (D := (dC, dI)) (ci := 3) (v := .ref (b 0)) (C := RX3) (T := TX3) (N := 8) hx hb hts in_X3 hown hK hP 0 rfl rfl 3 (by decide) lk_1 (fun _ h9 => h9) rfl dX3_make_23 ?_
      refine lv_iload_n hx hb dX3_make_26 rfl (lv_at hl 1 rfl) ?_
      have hPc := hP.sub (ws' := sw cB cI b sz st us mem pl ln) [5, 6, 7, 8] rfl
      have hKc := hK.sub (tys' := [(cI, .int), (cB, .byte)]) [0, 1] rfl
      refine vp_callSi (W.runV (As := [.int (nI n)]) (rest := []) ⟨hx, hb, hml, hown, hts⟩ (c_X2_gapFor l dC dI cB cI b sz st us mem pl ln n gw9 (by omega)) (cwV 1 hts gX3_make_X2_gapFor rfl rfl rfl (by decide +kernel) ⟨Nat.le_of_ble_eq_true rfl, Nat.le_of_ble_eq_true rfl⟩) ⟨fun a9 U g9 mk9 q9 => by obtain ⟨q0, qP, qK⟩ := q9; exact ⟨q0, qP, va_K.moved (u := U) (U := U.calling g9 mk9 a9) (Vm.Alike.refl U.vm) qK⟩, va_recv hKc hPc (ci := 2) (q0 := 0) rfl rfl, fun U hU hW => ⟨rfl, by rw [hU]; exact hPc, va_K.moved hW.alike hKc⟩⟩ rfl rfl hl.1 rfl (lv_room (Nat.le_of_ble_eq_true rfl)) dX3_make_27 ⟨Nat.zero_le _, Nat.zero_le _⟩) (fun r_27 hw => ?_)
      try dsimp only at hw
      subst hw
      refine lv_istore_n (lv' := [(2, .int (nI (fit sz st us pl ln n))), (0, .ref h), (1, .int (nI n))]) hx hb dX3_make_30 rfl hl (by decide) rfl (fun ls hl => ?_)
      have hfl := fit_le sz st us pl ln n
      obtain ⟨fi, hfi⟩ : ∃ q : Nat, q = fit sz st us pl ln n := ⟨_, rfl⟩
      rw [← hfi] at hl
      rw [← hfi] at hfl
      refine lv_aload_n hx hb dX3_make_31 rfl (lv_at hl 1 rfl) ?_
      refine va_get (D := (dC, dI)) (ci := 3) (v := .ref (b 0)) (C := RX3) (T := TX3) (N := 8) hx hb hts in_X3 hown hK hP 0 rfl rfl 3 (by decide) lk_1 (fun _ h9 => h9) rfl dX3_make_32 ?_
      refine lv_iload_n hx hb dX3_make_35 rfl (lv_at hl 0 rfl) ?_
      have hPc := hP.sub (ws' := sw cB cI b sz st us mem pl ln) [5, 6, 7, 8] rfl
      have hKc := hK.sub (tys' := [(cI, .int), (cB, .byte)]) [0, 1] rfl
      refine vp_callSi (W.runV (As := [.int (nI fi)]) (rest := []) ⟨hx, hb, hml, hown, hts⟩ (c_X2_gapBegin l dC dI cB cI b sz st us mem pl ln fi (by omega) (by omega)) (cwV 1 hts gX3_make_X2_gapBegin rfl rfl rfl (by decide +kernel) ⟨Nat.le_of_ble_eq_true rfl, Nat.le_of_ble_eq_true rfl⟩) ⟨fun a9 U g9 mk9 q9 => by obtain ⟨q0, qP, qK⟩ := q9; exact ⟨q0, qP, va_K.moved (u := U) (U := U.calling g9 mk9 a9) (Vm.Alike.refl U.vm) qK⟩, va_recv hKc hPc (ci := 2) (q0 := 0) rfl rfl, fun U hU hW => ⟨rfl, by rw [hU]; exact hPc, va_K.moved hW.alike hKc⟩⟩ rfl rfl hl.1 rfl (lv_room (Nat.le_of_ble_eq_true rfl)) dX3_make_36 ⟨Nat.zero_le _, Nat.zero_le _⟩) (fun r_36 hw => ?_)
      try dsimp only at hw
      subst hw
      refine lv_istore_n (lv' := [(3, .int (nI (gB sz st us pl ln fi))), (2, .int (nI fi)), (0, .ref h), (1, .int (nI n))]) hx hb dX3_make_39 rfl hl (by decide) rfl (fun ls hl => ?_)
      obtain ⟨x, hxp⟩ : ∃ q : Nat, q = gB sz st us pl ln fi := ⟨_, rfl⟩
      rw [← hxp] at hl
      have hmk : mkP sz st us pl ln n = x := by rw [mkP_gB, ← hfi, hxp]
      have hxs : x ≤ sz := by rw [hxp]; exact Nat.le_trans (gB_le gw9 hfl) (gEn_le gw9 hfl)
      refine lv_iload_n hx hb dX3_make_40 rfl (lv_at hl 3 rfl) ?_
      refine lv_sipush (v := (nI 8192)) hx hb dX3_make_41 (by decide) ?_
      refine lv_iload_n hx hb dX3_make_44 rfl (lv_at hl 0 rfl) ?_
      refine lv_isub hx hb dX3_make_45 ?_
      refine tpi (pk_sub (by omega)) ?_
      refine lv_icmp_le (tgt := 51) hx hb dX3_make_46 (by decide) (fun c_46 => ?_) (fun c_46 => ?_)
      · have c_46 : n ≤ 8192 - x := (nI_leI (a := n) (b := 8192 - x) (by omega) (by omega)).mp c_46
        have hO : mkO sz st us pl ln (nI n) := ⟨fun q => absurd ((nI_ltI n_n (by omega)).mp q) (by omega), by omega, by rw [hcl, hmk]; omega⟩
        refine lv_aload_n hx hb dX3_make_51 rfl (lv_at hl 2 rfl) ?_
        refine va_get (D := (dC, dI)) (ci := 3) (v := .ref (b 0)) (C := RX3) (T := TX3) (N := 8) hx hb hts in_X3 hown hK hP 0 rfl rfl 3 (by decide) lk_1 (fun _ h9 => h9) rfl dX3_make_52 ?_
        refine lv_iload_n hx hb dX3_make_55 rfl (lv_at hl 1 rfl) ?_
        refine lv_iload_n hx hb dX3_make_56 rfl (lv_at hl 0 rfl) ?_
        refine lv_iload_n hx hb dX3_make_57 rfl (lv_at hl 3 rfl) ?_
        have hPc := hP.sub (ws' := sw cB cI b sz st us mem pl ln) [5, 6, 7, 8] rfl
        have hKc := hK.sub (tys' := [(cI, .int), (cB, .byte)]) [0, 1] rfl
        have hDc := hD.sub (ws' := sw cB cI b sz st us mem pl ln) [5, 6, 7, 8] (by decide) rfl
        have hFc := va_free (wc := sw cB cI b sz st us mem pl ln) hD hS hA [5, 6, 7, 8] rfl
        refine va_callv (va_runV (As := [.int (nI fi), .int (nI x), .int (nI n)]) (rest := []) ⟨hx, hb, hml, hown, hts⟩ (c_X2_addBlock l dC dI cB cI b sz st us mem pl ln s.heap.size fi x n (by omega) (by omega) (by omega) (by omega)) (cwV 3 hts gX3_make_X2_addBlock rfl rfl rfl (by decide +kernel) ⟨Nat.le_of_ble_eq_true rfl, Nat.le_of_ble_eq_true rfl⟩) ⟨fun a9 U g9 mk9 q9 => by obtain ⟨q0, q1, qP, qK, qD⟩ := q9; exact ⟨q0, q1, qP, va_K.moved (u := U) (U := U.calling g9 mk9 a9) (Vm.Alike.refl U.vm) qK, qD⟩, va_recv hKc hPc (ci := 2) (q0 := 0) rfl rfl, fun U hU hW => ⟨rfl, by rw [hU], by rw [hU]; exact hPc, va_K.moved hW.alike hKc, hDc.weaken (fun _ _ _ _ => trivial)⟩⟩ rfl rfl hl.1 rfl (lv_room (Nat.le_of_ble_eq_true rfl)) dX3_make_58 ⟨Nat.zero_le _, Nat.zero_le _⟩) hS (fun q _ h => hFc q h) hFc (fun u t H1 locs ht9 hvm9 hw hB hz9 hk9 hS => ?_)
        obtain ⟨hP1, hK1, hD1⟩ := hB
        rw [ht9] at hP1
        obtain ⟨hP, hD⟩ := va_join (wr := gw h kq sp k o b kp ga gl ++ kw cB k kl kb ++ ow cB o oz cs cd) (w1 := sw cB cI b (mkG sz (x + n)) (if us = 0 then sz else st) (us + 1) mem (ins pl fi us x) (ins ln fi us n)) hP hD [5, 6, 7, 8] [0, 1, 2, 3, 4] rfl rfl (by decide) (by decide) hk9 hFc hP1 hD1
        generalize H1 = H at hP hS ⊢
        have hP := hP.sub (ws' := gw h kq sp k o b kp ga gl ++ kw cB k kl kb ++ ow cB o oz cs cd ++ sw cB cI b (mkG sz (x + n)) (if us = 0 then sz else st) (us + 1) mem (ins pl fi us x) (ins ln fi us n)) [0, 1, 2, 3, 4, 5, 6, 7, 8] rfl
        have hD := hD.sub (ws' := gw h kq sp k o b kp ga gl ++ kw cB k kl kb ++ ow cB o oz cs cd ++ sw cB cI b (mkG sz (x + n)) (if us = 0 then sz else st) (us + 1) mem (ins pl fi us x) (ins ln fi us n)) [0, 1, 2, 3, 4, 5, 6, 7, 8] (by decide) rfl
        have hP : va_P (dC, dI) vwCl (gw h kq sp k o b kp ga gl ++ kw cB k kl kb ++ ow cB o oz cs cd ++ sw cB cI b (mkG sz (x + n)) (if us = 0 then sz else st) (us + 1) mem (ins pl fi us x) (ins ln fi us n)) H := hP
        have hD : va_D A (gw h kq sp k o b kp ga gl ++ kw cB k kl kb ++ ow cB o oz cs cd ++ sw cB cI b (mkG sz (x + n)) (if us = 0 then sz else st) (us + 1) mem (ins pl fi us x) (ins ln fi us n)) := hD
        refine lv_iload_n hx hb dX3_make_61 rfl (lv_at hl 0 rfl) ?_
        have e_sz : mkG sz (x + n) = mkZ sz st us pl ln (nI n) := by unfold mkZ; rw [if_pos hO, hcl, hmk]
        have e_st : (if us = 0 then sz else st) = mkS sz st us pl ln (nI n) := by unfold mkS; exact if q : us = 0 then by rw [if_pos q, if_pos ⟨hO, q⟩] else by rw [if_neg q, if_neg (fun z => q z.2)]
        have e_us : us + 1 = mkU sz st us pl ln (nI n) := by unfold mkU; rw [if_pos hO]
        have e_pl : ins pl fi us x = mkQ sz st us pl ln (nI n) := by unfold mkQ; rw [if_pos hO, hcl, hmk, ← hfi]
        have e_ln : ins ln fi us n = mkL sz st us pl ln (nI n) := by unfold mkL; rw [if_pos hO, hcl, ← hfi]
        have hP : va_P (dC, dI) vwCl (gw h kq sp k o b kp ga gl ++ kw cB k kl kb ++ ow cB o oz cs cd ++ sw cB cI b (mkZ sz st us pl ln (nI n)) (mkS sz st us pl ln (nI n)) (mkU sz st us pl ln (nI n)) mem (mkQ sz st us pl ln (nI n)) (mkL sz st us pl ln (nI n))) H := by rw [← e_sz, ← e_st, ← e_us, ← e_pl, ← e_ln]; exact hP
        have hD : va_D A (gw h kq sp k o b kp ga gl ++ kw cB k kl kb ++ ow cB o oz cs cd ++ sw cB cI b (mkZ sz st us pl ln (nI n)) (mkS sz st us pl ln (nI n)) (mkU sz st us pl ln (nI n)) mem (mkQ sz st us pl ln (nI n)) (mkL sz st us pl ln (nI n))) := by rw [← e_sz, ← e_st, ← e_us, ← e_pl, ← e_ln]; exact hD
        exact W.iret (v := (nI x)) hx hb hr (fun t ht hW => ⟨⟨(nI x), (), rfl, (show (nI x) = mkR sz st us pl ln (nI n) from by unfold mkR; rw [if_neg (fun q => absurd ((nI_ltI n_n (by omega)).mp q) (by omega)), if_neg (by omega), hcl, if_neg (by rw [hmk]; omega), hmk]), by rw [ht]; exact hP, va_K.moved hW.alike hK, hD⟩, hS.F ht⟩) hS.2.2 dX3_make_62
      · have c_46 : ¬ n ≤ 8192 - x := fun q => c_46 ((nI_leI (a := n) (b := 8192 - x) (by omega) (by omega)).mpr q)
        refine lv_iconst (v := (nI 0)) hx hb dX3_make_49 (by decide) ?_
        have e_sz : sz = mkZ sz st us pl ln (nI n) := by unfold mkZ; rw [if_neg (fun q => q.2.2 (by rw [hcl, hmk]; omega))]
        have e_st : st = mkS sz st us pl ln (nI n) := by unfold mkS; rw [if_neg (fun q => (fun q => q.2.2 (by rw [hcl, hmk]; omega)) q.1)]
        have e_us : us = mkU sz st us pl ln (nI n) := by unfold mkU; rw [if_neg (fun q => q.2.2 (by rw [hcl, hmk]; omega))]
        have e_pl : pl = mkQ sz st us pl ln (nI n) := by unfold mkQ; rw [if_neg (fun q => q.2.2 (by rw [hcl, hmk]; omega))]
        have e_ln : ln = mkL sz st us pl ln (nI n) := by unfold mkL; rw [if_neg (fun q => q.2.2 (by rw [hcl, hmk]; omega))]
        have hP : va_P (dC, dI) vwCl (gw h kq sp k o b kp ga gl ++ kw cB k kl kb ++ ow cB o oz cs cd ++ sw cB cI b (mkZ sz st us pl ln (nI n)) (mkS sz st us pl ln (nI n)) (mkU sz st us pl ln (nI n)) mem (mkQ sz st us pl ln (nI n)) (mkL sz st us pl ln (nI n))) s.heap := by rw [← e_sz, ← e_st, ← e_us, ← e_pl, ← e_ln]; exact hP
        have hD : va_D A (gw h kq sp k o b kp ga gl ++ kw cB k kl kb ++ ow cB o oz cs cd ++ sw cB cI b (mkZ sz st us pl ln (nI n)) (mkS sz st us pl ln (nI n)) (mkU sz st us pl ln (nI n)) mem (mkQ sz st us pl ln (nI n)) (mkL sz st us pl ln (nI n))) := by rw [← e_sz, ← e_st, ← e_us, ← e_pl, ← e_ln]; exact hD
        exact W.iret (v := (nI 0)) hx hb hr (fun t ht hW => ⟨⟨(nI 0), (), rfl, (show (nI 0) = mkR sz st us pl ln (nI n) from by unfold mkR; rw [if_neg (fun q => absurd ((nI_ltI n_n (by omega)).mp q) (by omega)), if_neg (by omega), hcl, if_pos (by rw [hmk]; omega)]), by rw [ht]; exact hP, va_K.moved hW.alike hK, hD⟩, hS.F ht⟩) hS.2.2 dX3_make_50
    · have c_17 : ¬ us < 64 := fun q => c_17 ((nI_ltI (a := us) (b := 64) (by omega) (by omega)).mpr q)
      refine lv_iconst (v := (nI 0)) hx hb dX3_make_20 (by decide) ?_
      have e_sz : sz = mkZ sz st us pl ln (nI n) := by unfold mkZ; rw [if_neg (fun q => q.2.1 (by omega))]
      have e_st : st = mkS sz st us pl ln (nI n) := by unfold mkS; rw [if_neg (fun q => (fun q => q.2.1 (by omega)) q.1)]
      have e_us : us = mkU sz st us pl ln (nI n) := by unfold mkU; rw [if_neg (fun q => q.2.1 (by omega))]
      have e_pl : pl = mkQ sz st us pl ln (nI n) := by unfold mkQ; rw [if_neg (fun q => q.2.1 (by omega))]
      have e_ln : ln = mkL sz st us pl ln (nI n) := by unfold mkL; rw [if_neg (fun q => q.2.1 (by omega))]
      have hP : va_P (dC, dI) vwCl (gw h kq sp k o b kp ga gl ++ kw cB k kl kb ++ ow cB o oz cs cd ++ sw cB cI b (mkZ sz st us pl ln (nI n)) (mkS sz st us pl ln (nI n)) (mkU sz st us pl ln (nI n)) mem (mkQ sz st us pl ln (nI n)) (mkL sz st us pl ln (nI n))) s.heap := by rw [← e_sz, ← e_st, ← e_us, ← e_pl, ← e_ln]; exact hP
      have hD : va_D A (gw h kq sp k o b kp ga gl ++ kw cB k kl kb ++ ow cB o oz cs cd ++ sw cB cI b (mkZ sz st us pl ln (nI n)) (mkS sz st us pl ln (nI n)) (mkU sz st us pl ln (nI n)) mem (mkQ sz st us pl ln (nI n)) (mkL sz st us pl ln (nI n))) := by rw [← e_sz, ← e_st, ← e_us, ← e_pl, ← e_ln]; exact hD
      exact W.iret (v := (nI 0)) hx hb hr (fun t ht hW => ⟨⟨(nI 0), (), rfl, (show (nI 0) = mkR sz st us pl ln (nI n) from by unfold mkR; rw [if_neg (fun q => absurd ((nI_ltI n_n (by omega)).mp q) (by omega)), if_pos (by omega)]), by rw [ht]; exact hP, va_K.moved hW.alike hK, hD⟩, hS.F ht⟩) hS.2.2 dX3_make_21
  · refine lv_bipush (v := ((-11))) hx hb dX3_make_5 (by decide) ?_
    have e_sz : sz = mkZ sz st us pl ln p1 := by unfold mkZ; rw [if_neg (fun q => q.1 (Int32.not_le.mp c_2))]
    have e_st : st = mkS sz st us pl ln p1 := by unfold mkS; rw [if_neg (fun q => (fun q => q.1 (Int32.not_le.mp c_2)) q.1)]
    have e_us : us = mkU sz st us pl ln p1 := by unfold mkU; rw [if_neg (fun q => q.1 (Int32.not_le.mp c_2))]
    have e_pl : pl = mkQ sz st us pl ln p1 := by unfold mkQ; rw [if_neg (fun q => q.1 (Int32.not_le.mp c_2))]
    have e_ln : ln = mkL sz st us pl ln p1 := by unfold mkL; rw [if_neg (fun q => q.1 (Int32.not_le.mp c_2))]
    have hP : va_P (dC, dI) vwCl (gw h kq sp k o b kp ga gl ++ kw cB k kl kb ++ ow cB o oz cs cd ++ sw cB cI b (mkZ sz st us pl ln p1) (mkS sz st us pl ln p1) (mkU sz st us pl ln p1) mem (mkQ sz st us pl ln p1) (mkL sz st us pl ln p1)) s.heap := by rw [← e_sz, ← e_st, ← e_us, ← e_pl, ← e_ln]; exact hP
    have hD : va_D A (gw h kq sp k o b kp ga gl ++ kw cB k kl kb ++ ow cB o oz cs cd ++ sw cB cI b (mkZ sz st us pl ln p1) (mkS sz st us pl ln p1) (mkU sz st us pl ln p1) mem (mkQ sz st us pl ln p1) (mkL sz st us pl ln p1)) := by rw [← e_sz, ← e_st, ← e_us, ← e_pl, ← e_ln]; exact hD
    exact W.iret (v := ((-11))) hx hb hr (fun t ht hW => ⟨⟨((-11)), (), rfl, (show ((-11)) = mkR sz st us pl ln p1 from by unfold mkR; rw [if_pos (Int32.not_le.mp c_2)]), by rw [ht]; exact hP, va_K.moved hW.alike hK, hD⟩, hS.F ht⟩) hS.2.2 dX3_make_7
set_option maxHeartbeats 4000000 in
set_option maxRecDepth 100000 in
theorem c_X3_free (l : Launch) (dC : Nat → ClassId) (dI : Nat → Nat → Nat) (cB cI : ClassId) (h kq : Nat) (sp : Option Nat) (k o b : Nat → Nat) (kp : Nat) (ga : Nat) (gl : Nat) (kl : Nat) (kb : Nat → Nat) (oz : Nat) (cs : Nat) (cd : Nat → Nat) (sz : Nat) (st : Nat) (us : Nat) (mem : Nat → Nat) (pl : Nat → Nat) (ln : Nat → Nat) (zz : Nat) (p1 : Int32) (gw9 : wfB sz st us pl ln) : Met l yX3_free wsX3_free ({ frames := 4, cells := 0, slots := 0, locals := 88 }) (va_Pc [.ref h, .int p1] (fun U => U.heap.size = zz ∧ va_P (dC, dI) vwCl (gw h kq sp k o b kp ga gl ++ kw cB k kl kb ++ ow cB o oz cs cd ++ sw cB cI b sz st us mem pl ln) U.heap ∧ va_K (dC, dI) vwCl [(cI, .int), (cB, .byte)] U ∧ va_D (fun _ => True) (gw h kq sp k o b kp ga gl ++ kw cB k kl kb ++ ow cB o oz cs cd ++ sw cB cI b sz st us mem pl ln))) (va_Qi (fun r _ => r = frR us pl ln p1) (fun (_ : Unit) t => va_P (dC, dI) vwCl (gw h kq sp k o b kp ga gl ++ kw cB k kl kb ++ ow cB o oz cs cd ++ sw cB cI b (frZ sz st us pl p1) (frS st us pl p1) (frU us pl p1) (frM sz st us pl mem p1) (frA us pl pl p1) (frA us pl ln p1)) t.heap ∧ va_K (dC, dI) vwCl [(cI, .int), (cB, .byte)] t ∧ va_D (va_A (gw h kq sp k o b kp ga gl ++ kw cB k kl kb ++ ow cB o oz cs cd ++ sw cB cI b sz st us mem pl ln) zz) (gw h kq sp k o b kp ga gl ++ kw cB k kl kb ++ ow cB o oz cs cd ++ sw cB cI b (frZ sz st us pl p1) (frS st us pl p1) (frU us pl p1) (frM sz st us pl mem p1) (frA us pl pl p1) (frA us pl ln p1))) (va_A (gw h kq sp k o b kp ga gl ++ kw cB k kl kb ++ ow cB o oz cs cd ++ sw cB cI b sz st us mem pl ln) zz)) 0 0 (va_A (gw h kq sp k o b kp ga gl ++ kw cB k kl kb ++ ow cB o oz cs cd ++ sw cB cI b sz st us mem pl ln) zz) := by
  refine Met.ofW (cc := cX3_free) (maxL := 4) (ret := (some .int)) (by decide) rfl ?_
  intro p e s m args below meth c s₁ B hml hv
  obtain ⟨rfl, hsz, hP, hK, hD0⟩ := hv
  have hx := B.exec
  have hb := B.bytes
  have hr := B.returns
  have hts := atoms_spec (ws := wsX3_free) B.pre
  have hown : s.vm.findClass RX3 = some m.cls := findClass_of_methodNamed B.named
  have hlocks := B.notSynchronized
  subst hsz
  have hD := hD0.self (sz := s.heap.size)
  generalize hAe : va_A (gw h kq sp k o b kp ga gl ++ kw cB k kl kb ++ ow cB o oz cs cd ++ sw cB cI b sz st us mem pl ln) s.heap.size = A at hD ⊢
  have hA : ∀ q : Nat, s.heap.size ≤ q → A q := fun q h => by rw [← hAe]; exact Or.inr h
  have hS : va_S A s.heap s.heap [] := va_S.rf
  have hP : va_P (dC, dI) vwCl (gw h kq sp k o b kp ga gl ++ kw cB k kl kb ++ ow cB o oz cs cd ++ sw cB cI b sz st us mem pl ln) s.heap := hP
  have in_X2 : ∀ w ∈ wsX20, w ∈ wsX3_free := fun _ h => List.mem_cons_of_mem _ (List.mem_append_right _ (h))
  have in_X3 : ∀ w ∈ wsX30, w ∈ wsX3_free := fun _ h => List.mem_cons_of_mem _ (List.mem_append_left _ (List.mem_append_right _ (h)))
  have lk_1 := hts (.fieldLink RX3 30 "GlulxHeap" "now" "LGlulxHeap$State;") (List.mem_of_getElem? (i := 1) rfl)
  have lk_2 := hts (.fieldLink RX3 104 "GlulxHeap$State" "lengths" "[I") (List.mem_of_getElem? (i := 2) rfl)
  have hl := lv_entry ([.ref h, .int p1]) (n := 4) (Nat.le_of_ble_eq_true rfl)
  rw [lg_entry_eq]
  generalize (lg_sl ([.ref h, .int p1]) ++ List.replicate (4 - (lg_sl ([.ref h, .int p1])).length) Slot.unset).toArray = ls at hl ⊢
  have hl : lv_has ls 4 [(0, .ref h), (1, .int p1)] := hl
  obtain ⟨gw1, gw2, gw3, gw4, gw5, gw6⟩ := id gw9
  have hst8 : st ≤ 8192 := (Nat.eq_zero_or_pos us).elim (fun q => by have := gw3.mp q; omega) (fun q => by have := gw4 q; omega)
  refine lv_aload_n hx hb dX3_free_0 rfl (lv_at hl 0 rfl) ?_
  refine va_get (D := (dC, dI)) (ci := 3) (v := .ref (b 0)) (C := RX3) (T := TX3) (N := 8) hx hb hts in_X3 hown hK hP 0 rfl rfl 3 (by decide) lk_1 (fun _ h9 => h9) rfl dX3_free_1 ?_
  refine lv_iload_n hx hb dX3_free_4 rfl (lv_at hl 1 rfl) ?_
  have hPc := hP.sub (ws' := sw cB cI b sz st us mem pl ln) [5, 6, 7, 8] rfl
  have hKc := hK.sub (tys' := [(cI, .int), (cB, .byte)]) [0, 1] rfl
  refine vp_callSi (W.runV (As := [.int p1]) (rest := []) ⟨hx, hb, hml, hown, hts⟩ (c_X2_blockAt l dC dI cB cI b sz st us mem pl ln p1 (by omega)) (cwV 1 hts gX3_free_X2_blockAt rfl rfl rfl (by decide +kernel) ⟨Nat.le_of_ble_eq_true rfl, Nat.le_of_ble_eq_true rfl⟩) ⟨fun a9 U g9 mk9 q9 => by obtain ⟨q0, qP, qK⟩ := q9; exact ⟨q0, qP, va_K.moved (u := U) (U := U.calling g9 mk9 a9) (Vm.Alike.refl U.vm) qK⟩, va_recv hKc hPc (ci := 2) (q0 := 0) rfl rfl, fun U hU hW => ⟨rfl, by rw [hU]; exact hPc, va_K.moved hW.alike hKc⟩⟩ rfl rfl hl.1 rfl (lv_room (Nat.le_of_ble_eq_true rfl)) dX3_free_5 ⟨Nat.zero_le _, Nat.zero_le _⟩) (fun r_5 hw => ?_)
  try dsimp only at hw
  rcases hw with ⟨hf9, rfl⟩ | ⟨hf9, rfl⟩
  · skip
    refine lv_istore_n (lv' := [(2, .int ((-1))), (0, .ref h), (1, .int p1)]) hx hb dX3_free_8 rfl hl (by decide) rfl (fun ls hl => ?_)
    refine lv_iload_n hx hb dX3_free_9 rfl (lv_at hl 0 rfl) ?_
    refine lv_iconst (v := ((-1))) hx hb dX3_free_10 (by decide) ?_
    refine lv_icmp_ne (tgt := 17) hx hb dX3_free_11 (by decide) (fun c_11 => ?_) (fun c_11 => ?_)
    · exact absurd c_11 (by decide)
    · refine lv_bipush (v := ((-11))) hx hb dX3_free_14 (by decide) ?_
      have e_sz : sz = frZ sz st us pl p1 := by unfold frZ; rw [if_pos hf9]
      have e_mem : mem = frM sz st us pl mem p1 := by unfold frM; rw [if_pos hf9]
      have e_st : st = frS st us pl p1 := by unfold frS; rw [if_pos hf9]
      have e_us : us = frU us pl p1 := by unfold frU; rw [if_pos hf9]
      have e_pl : pl = frA us pl pl p1 := by unfold frA; rw [if_pos hf9]
      have e_ln : ln = frA us pl ln p1 := by unfold frA; rw [if_pos hf9]
      have hP : va_P (dC, dI) vwCl (gw h kq sp k o b kp ga gl ++ kw cB k kl kb ++ ow cB o oz cs cd ++ sw cB cI b (frZ sz st us pl p1) (frS st us pl p1) (frU us pl p1) (frM sz st us pl mem p1) (frA us pl pl p1) (frA us pl ln p1)) s.heap := by rw [← e_sz, ← e_mem, ← e_st, ← e_us, ← e_pl, ← e_ln]; exact hP
      have hD : va_D A (gw h kq sp k o b kp ga gl ++ kw cB k kl kb ++ ow cB o oz cs cd ++ sw cB cI b (frZ sz st us pl p1) (frS st us pl p1) (frU us pl p1) (frM sz st us pl mem p1) (frA us pl pl p1) (frA us pl ln p1)) := by rw [← e_sz, ← e_mem, ← e_st, ← e_us, ← e_pl, ← e_ln]; exact hD
      exact W.iret (v := ((-11))) hx hb hr (fun t ht hW => ⟨⟨((-11)), (), rfl, (show ((-11)) = frR us pl ln p1 from by unfold frR; rw [if_pos hf9]), by rw [ht]; exact hP, va_K.moved hW.alike hK, hD⟩, hS.F ht⟩) hS.2.2 dX3_free_16
  · skip
    refine lv_istore_n (lv' := [(2, .int (nI (fnd us pl p1))), (0, .ref h), (1, .int p1)]) hx hb dX3_free_8 rfl hl (by decide) rfl (fun ls hl => ?_)
    refine lv_iload_n hx hb dX3_free_9 rfl (lv_at hl 0 rfl) ?_
    refine lv_iconst (v := ((-1))) hx hb dX3_free_10 (by decide) ?_
    refine lv_icmp_ne (tgt := 17) hx hb dX3_free_11 (by decide) (fun c_11 => ?_) (fun c_11 => ?_)
    · refine lv_aload_n hx hb dX3_free_17 rfl (lv_at hl 1 rfl) ?_
      refine va_get (D := (dC, dI)) (ci := 3) (v := .ref (b 0)) (C := RX3) (T := TX3) (N := 8) hx hb hts in_X3 hown hK hP 0 rfl rfl 3 (by decide) lk_1 (fun _ h9 => h9) rfl dX3_free_18 ?_
      refine va_get (D := (dC, dI)) (ci := 2) (v := .ref (b 3)) (C := RX2) (T := TX2) (N := 6) hx hb hts in_X2 hown hK hP 5 rfl rfl 2 (by decide) lk_2 (fun _ h9 => h9) rfl dX3_free_21 ?_
      refine lv_iload_n hx hb dX3_free_24 rfl (lv_at hl 0 rfl) ?_
      refine va_iald hx hb hK hP 8 0 rfl rfl (vp_in_nI (by omega) (by omega)) dX3_free_25 ?_
      refine tpi (nf_at (by omega)) ?_
      refine lv_istore_n (lv' := [(3, .int (nI (ln (fnd us pl p1)))), (2, .int (nI (fnd us pl p1))), (0, .ref h), (1, .int p1)]) hx hb dX3_free_26 rfl hl (by decide) rfl (fun ls hl => ?_)
      refine lv_aload_n hx hb dX3_free_27 rfl (lv_at hl 2 rfl) ?_
      refine va_get (D := (dC, dI)) (ci := 3) (v := .ref (b 0)) (C := RX3) (T := TX3) (N := 8) hx hb hts in_X3 hown hK hP 0 rfl rfl 3 (by decide) lk_1 (fun _ h9 => h9) rfl dX3_free_28 ?_
      refine lv_iload_n hx hb dX3_free_31 rfl (lv_at hl 1 rfl) ?_
      have hPc := hP.sub (ws' := sw cB cI b sz st us mem pl ln) [5, 6, 7, 8] rfl
      have hKc := hK.sub (tys' := [(cI, .int), (cB, .byte)]) [0, 1] rfl
      have hDc := hD.sub (ws' := sw cB cI b sz st us mem pl ln) [5, 6, 7, 8] (by decide) rfl
      have hFc := va_free (wc := sw cB cI b sz st us mem pl ln) hD hS hA [5, 6, 7, 8] rfl
      refine va_callv (va_runV (As := [.int (nI (fnd us pl p1))]) (rest := []) ⟨hx, hb, hml, hown, hts⟩ (c_X2_removeBlock l dC dI cB cI b sz st us mem pl ln s.heap.size (fnd us pl p1) (by omega) (by omega) (by omega) (by omega)) (cwV 1 hts gX3_free_X2_removeBlock rfl rfl rfl (by decide +kernel) ⟨Nat.le_of_ble_eq_true rfl, Nat.le_of_ble_eq_true rfl⟩) ⟨fun a9 U g9 mk9 q9 => by obtain ⟨q0, q1, qP, qK, qD⟩ := q9; exact ⟨q0, q1, qP, va_K.moved (u := U) (U := U.calling g9 mk9 a9) (Vm.Alike.refl U.vm) qK, qD⟩, va_recv hKc hPc (ci := 2) (q0 := 0) rfl rfl, fun U hU hW => ⟨rfl, by rw [hU], by rw [hU]; exact hPc, va_K.moved hW.alike hKc, hDc.weaken (fun _ _ _ _ => trivial)⟩⟩ rfl rfl hl.1 rfl (lv_room (Nat.le_of_ble_eq_true rfl)) dX3_free_32 ⟨Nat.zero_le _, Nat.zero_le _⟩) hS (fun q _ h => hFc q h) hFc (fun u t H1 locs ht9 hvm9 hw hB hz9 hk9 hS => ?_)
      obtain ⟨hP1, hK1, hD1⟩ := hB
      rw [ht9] at hP1
      obtain ⟨hP, hD⟩ := va_join (wr := gw h kq sp k o b kp ga gl ++ kw cB k kl kb ++ ow cB o oz cs cd) (w1 := sw cB cI b (if us - 1 = 0 then st else sz) (if us - 1 = 0 then 0 else st) (us - 1) (if us - 1 = 0 then csM mem sz st else mem) (dlf pl (fnd us pl p1) (us - 1)) (dlf ln (fnd us pl p1) (us - 1))) hP hD [5, 6, 7, 8] [0, 1, 2, 3, 4] rfl rfl (by decide) (by decide) hk9 hFc hP1 hD1
      generalize H1 = H at hP hS ⊢
      have hP := hP.sub (ws' := gw h kq sp k o b kp ga gl ++ kw cB k kl kb ++ ow cB o oz cs cd ++ sw cB cI b (if us - 1 = 0 then st else sz) (if us - 1 = 0 then 0 else st) (us - 1) (if us - 1 = 0 then csM mem sz st else mem) (dlf pl (fnd us pl p1) (us - 1)) (dlf ln (fnd us pl p1) (us - 1))) [0, 1, 2, 3, 4, 5, 6, 7, 8] rfl
      have hD := hD.sub (ws' := gw h kq sp k o b kp ga gl ++ kw cB k kl kb ++ ow cB o oz cs cd ++ sw cB cI b (if us - 1 = 0 then st else sz) (if us - 1 = 0 then 0 else st) (us - 1) (if us - 1 = 0 then csM mem sz st else mem) (dlf pl (fnd us pl p1) (us - 1)) (dlf ln (fnd us pl p1) (us - 1))) [0, 1, 2, 3, 4, 5, 6, 7, 8] (by decide) rfl
      have hP : va_P (dC, dI) vwCl (gw h kq sp k o b kp ga gl ++ kw cB k kl kb ++ ow cB o oz cs cd ++ sw cB cI b (if us - 1 = 0 then st else sz) (if us - 1 = 0 then 0 else st) (us - 1) (if us - 1 = 0 then csM mem sz st else mem) (dlf pl (fnd us pl p1) (us - 1)) (dlf ln (fnd us pl p1) (us - 1))) H := hP
      have hD : va_D A (gw h kq sp k o b kp ga gl ++ kw cB k kl kb ++ ow cB o oz cs cd ++ sw cB cI b (if us - 1 = 0 then st else sz) (if us - 1 = 0 then 0 else st) (us - 1) (if us - 1 = 0 then csM mem sz st else mem) (dlf pl (fnd us pl p1) (us - 1)) (dlf ln (fnd us pl p1) (us - 1))) := hD
      refine lv_iload_n hx hb dX3_free_35 rfl (lv_at hl 0 rfl) ?_
      have e_sz : (if us - 1 = 0 then st else sz) = frZ sz st us pl p1 := by unfold frZ; rw [if_neg (show ¬ fnd us pl p1 = us by omega)]
      have e_mem : (if us - 1 = 0 then csM mem sz st else mem) = frM sz st us pl mem p1 := by unfold frM; rw [if_neg (show ¬ fnd us pl p1 = us by omega)]
      have e_st : (if us - 1 = 0 then 0 else st) = frS st us pl p1 := by unfold frS; rw [if_neg (show ¬ fnd us pl p1 = us by omega)]
      have e_us : us - 1 = frU us pl p1 := by unfold frU; rw [if_neg (show ¬ fnd us pl p1 = us by omega)]
      have e_pl : dlf pl (fnd us pl p1) (us - 1) = frA us pl pl p1 := by unfold frA; rw [if_neg (show ¬ fnd us pl p1 = us by omega)]
      have e_ln : dlf ln (fnd us pl p1) (us - 1) = frA us pl ln p1 := by unfold frA; rw [if_neg (show ¬ fnd us pl p1 = us by omega)]
      have hP : va_P (dC, dI) vwCl (gw h kq sp k o b kp ga gl ++ kw cB k kl kb ++ ow cB o oz cs cd ++ sw cB cI b (frZ sz st us pl p1) (frS st us pl p1) (frU us pl p1) (frM sz st us pl mem p1) (frA us pl pl p1) (frA us pl ln p1)) H := by rw [← e_sz, ← e_mem, ← e_st, ← e_us, ← e_pl, ← e_ln]; exact hP
      have hD : va_D A (gw h kq sp k o b kp ga gl ++ kw cB k kl kb ++ ow cB o oz cs cd ++ sw cB cI b (frZ sz st us pl p1) (frS st us pl p1) (frU us pl p1) (frM sz st us pl mem p1) (frA us pl pl p1) (frA us pl ln p1)) := by rw [← e_sz, ← e_mem, ← e_st, ← e_us, ← e_pl, ← e_ln]; exact hD
      exact W.iret (v := (nI (ln (fnd us pl p1)))) hx hb hr (fun t ht hW => ⟨⟨(nI (ln (fnd us pl p1))), (), rfl, (show (nI (ln (fnd us pl p1))) = frR us pl ln p1 from by unfold frR; rw [if_neg (by omega)]), by rw [ht]; exact hP, va_K.moved hW.alike hK, hD⟩, hS.F ht⟩) hS.2.2 dX3_free_36
    · skip
      exact absurd c_11 (nI_m1 (by omega))
set_option maxHeartbeats 4000000 in
set_option maxRecDepth 100000 in
theorem c_X3_foundAnswer (l : Launch) (i z o9 : Nat) (g1 : o9 ≤ 7) : Met l yX3_foundAnswer wsX3_foundAnswer ({ frames := 0, cells := 0, slots := 0, locals := 0 }) (va_Pc [.int (nI i), .long (lN z), .int (nI o9)] (fun _ => True)) (vp_Si (fun r => r = if 4 ≤ o9 then nI i else nI z)) 0 0 (fun _ => False) := by
  refine Met.ofW (cc := cX3_foundAnswer) (maxL := 4) (ret := (some .int)) (by decide) rfl ?_
  intro p e s m args below meth c s₁ B hml hv
  obtain ⟨rfl, -⟩ := hv
  have hx := B.exec
  have hb := B.bytes
  have hr := B.returns
  have hts := atoms_spec (ws := wsX3_foundAnswer) B.pre
  have hown : s.vm.findClass RX3 = some m.cls := findClass_of_methodNamed B.named
  have hlocks := B.notSynchronized
  have hl := lv_entry ([.int (nI i), .long (lN z), .int (nI o9)]) (n := 4) (Nat.le_of_ble_eq_true rfl)
  rw [lg_entry_eq]
  generalize (lg_sl ([.int (nI i), .long (lN z), .int (nI o9)]) ++ List.replicate (4 - (lg_sl ([.int (nI i), .long (lN z), .int (nI o9)])).length) Slot.unset).toArray = ls at hl ⊢
  have hl : lv_has ls 4 [(0, .int (nI i)), (1, .long (lN z)), (3, .int (nI o9))] := hl
  refine lv_iload_n hx hb dX3_foundAnswer_0 rfl (lv_at hl 2 rfl) ?_
  refine lv_iconst (v := (nI 4)) hx hb dX3_foundAnswer_1 (by decide) ?_
  refine lv_iand hx hb dX3_foundAnswer_2 ?_
  refine tpi (and4 (by omega)) ?_
  refine lv_if_eq (tgt := 10) hx hb dX3_foundAnswer_3 (by decide) (fun c_3 => ?_) (fun c_3 => ?_)
  · have c_3 : o9 / 4 * 4 = 0 := (nZ_eq (by omega)).mp c_3
    refine lv_lload_n hx hb dX3_foundAnswer_10 rfl (lv_at hl 1 rfl) ?_
    refine lv_l2i (v := nI z) hx hb dX3_foundAnswer_11 (lN_i _) ?_
    exact W.iret (v := (nI z)) hx hb hr (fun t ht hW => ⟨(nI z), rfl, (show (nI z) = if 4 ≤ o9 then nI i else nI z from by rw [if_neg (by omega)]), ht⟩) (fun _ h9 => absurd h9 List.not_mem_nil) dX3_foundAnswer_12
  · have c_3 : ¬ o9 / 4 * 4 = 0 := fun q => c_3 ((nZ_eq (by omega)).mpr q)
    refine lv_iload_n hx hb dX3_foundAnswer_6 rfl (lv_at hl 0 rfl) ?_
    refine lv_goto (tgt := 12) hx hb dX3_foundAnswer_7 (by decide) ?_
    exact W.iret (v := (nI i)) hx hb hr (fun t ht hW => ⟨(nI i), rfl, (show (nI i) = if 4 ≤ o9 then nI i else nI z from by rw [if_pos (by omega)]), ht⟩) (fun _ h9 => absurd h9 List.not_mem_nil) dX3_foundAnswer_12
set_option maxHeartbeats 4000000 in
set_option maxRecDepth 100000 in
theorem c_X3_noneAnswer (l : Launch) (o9 : Nat) (g1 : o9 ≤ 7) : Met l yX3_noneAnswer wsX3_noneAnswer ({ frames := 0, cells := 0, slots := 0, locals := 0 }) (va_Pc [.int (nI o9)] (fun _ => True)) (vp_Si (fun r => r = noA o9)) 0 0 (fun _ => False) := by
  refine Met.ofW (cc := cX3_noneAnswer) (maxL := 1) (ret := (some .int)) (by decide) rfl ?_
  intro p e s m args below meth c s₁ B hml hv
  obtain ⟨rfl, -⟩ := hv
  have hx := B.exec
  have hb := B.bytes
  have hr := B.returns
  have hts := atoms_spec (ws := wsX3_noneAnswer) B.pre
  have hown : s.vm.findClass RX3 = some m.cls := findClass_of_methodNamed B.named
  have hlocks := B.notSynchronized
  have hl := lv_entry ([.int (nI o9)]) (n := 1) (Nat.le_of_ble_eq_true rfl)
  rw [lg_entry_eq]
  generalize (lg_sl ([.int (nI o9)]) ++ List.replicate (1 - (lg_sl ([.int (nI o9)])).length) Slot.unset).toArray = ls at hl ⊢
  have hl : lv_has ls 1 [(0, .int (nI o9))] := hl
  refine lv_iload_n hx hb dX3_noneAnswer_0 rfl (lv_at hl 0 rfl) ?_
  refine lv_iconst (v := (nI 4)) hx hb dX3_noneAnswer_1 (by decide) ?_
  refine lv_iand hx hb dX3_noneAnswer_2 ?_
  refine tpi (and4 (by omega)) ?_
  refine lv_if_eq (tgt := 10) hx hb dX3_noneAnswer_3 (by decide) (fun c_3 => ?_) (fun c_3 => ?_)
  · have c_3 : o9 / 4 * 4 = 0 := (nZ_eq (by omega)).mp c_3
    refine lv_iconst (v := (nI 0)) hx hb dX3_noneAnswer_10 (by decide) ?_
    exact W.iret (v := (nI 0)) hx hb hr (fun t ht hW => ⟨(nI 0), rfl, (show (nI 0) = noA o9 from by unfold noA; rw [if_neg (by omega)]), ht⟩) (fun _ h9 => absurd h9 List.not_mem_nil) dX3_noneAnswer_11
  · have c_3 : ¬ o9 / 4 * 4 = 0 := fun q => c_3 ((nZ_eq (by omega)).mpr q)
    refine lv_iconst (v := ((-1))) hx hb dX3_noneAnswer_6 (by decide) ?_
    refine lv_goto (tgt := 11) hx hb dX3_noneAnswer_7 (by decide) ?_
    exact W.iret (v := ((-1))) hx hb hr (fun t ht hW => ⟨((-1)), rfl, (show ((-1)) = noA o9 from by unfold noA; rw [if_pos (by omega)]), ht⟩) (fun _ h9 => absurd h9 List.not_mem_nil) dX3_noneAnswer_11
set_option maxHeartbeats 4000000 in
set_option maxRecDepth 100000 in
theorem c_X3_isSearch (l : Launch) (p2 p3 p6 p7 : Int32)  : Met l yX3_isSearch wsX3_isSearch ({ frames := 1, cells := 0, slots := 0, locals := 20 }) (va_Pc [.int p2, .int p3, .int p6, .int p7] (fun _ => True)) (vp_Si (fun r => ((isSr p2 p3 p6 p7) ∧ r = nI 1) ∨ (¬ (isSr p2 p3 p6 p7) ∧ r = nI 0))) 0 0 (fun _ => False) := by
  refine Met.ofW (cc := cX3_isSearch) (maxL := 4) (ret := (some .boolean)) (by decide) rfl ?_
  intro p e s m args below meth c s₁ B hml hv
  obtain ⟨rfl, -⟩ := hv
  have hx := B.exec
  have hb := B.bytes
  have hr := B.returns
  have hts := atoms_spec (ws := wsX3_isSearch) B.pre
  have hown : s.vm.findClass RX3 = some m.cls := findClass_of_methodNamed B.named
  have hlocks := B.notSynchronized
  have hl := lv_entry ([.int p2, .int p3, .int p6, .int p7]) (n := 4) (Nat.le_of_ble_eq_true rfl)
  rw [lg_entry_eq]
  generalize (lg_sl ([.int p2, .int p3, .int p6, .int p7]) ++ List.replicate (4 - (lg_sl ([.int p2, .int p3, .int p6, .int p7])).length) Slot.unset).toArray = ls at hl ⊢
  have hl : lv_has ls 4 [(0, .int p2), (1, .int p3), (2, .int p6), (3, .int p7)] := hl
  refine lv_iload_n hx hb dX3_isSearch_0 rfl (lv_at hl 1 rfl) ?_
  refine lv_if_lt (tgt := 18) hx hb dX3_isSearch_1 (by decide) (fun c_1 => ?_) (fun c_1 => ?_)
  · refine lv_iconst (v := (nI 0)) hx hb dX3_isSearch_18 (by decide) ?_
    exact W.zret (v := (nI 0)) (ty := .boolean) hx hb hr (by decide) (fun t ht hW => ⟨(nI 0), rfl, Or.inr ⟨fun q => q.1 c_1, rfl⟩, ht⟩) (fun _ h9 => absurd h9 List.not_mem_nil) dX3_isSearch_19
  · refine lv_iload_n hx hb dX3_isSearch_4 rfl (lv_at hl 2 rfl) ?_
    refine lv_if_lt (tgt := 18) hx hb dX3_isSearch_5 (by decide) (fun c_5 => ?_) (fun c_5 => ?_)
    · refine lv_iconst (v := (nI 0)) hx hb dX3_isSearch_18 (by decide) ?_
      exact W.zret (v := (nI 0)) (ty := .boolean) hx hb hr (by decide) (fun t ht hW => ⟨(nI 0), rfl, Or.inr ⟨fun q => q.2.1 c_5, rfl⟩, ht⟩) (fun _ h9 => absurd h9 List.not_mem_nil) dX3_isSearch_19
    · refine lv_iload_n hx hb dX3_isSearch_8 rfl (lv_at hl 3 rfl) ?_
      refine lv_if_lt (tgt := 18) hx hb dX3_isSearch_9 (by decide) (fun c_9 => ?_) (fun c_9 => ?_)
      · refine lv_iconst (v := (nI 0)) hx hb dX3_isSearch_18 (by decide) ?_
        exact W.zret (v := (nI 0)) (ty := .boolean) hx hb hr (by decide) (fun t ht hW => ⟨(nI 0), rfl, Or.inr ⟨fun q => q.2.2.1 c_9, rfl⟩, ht⟩) (fun _ h9 => absurd h9 List.not_mem_nil) dX3_isSearch_19
      · obtain ⟨o, n_o, rfl⟩ := nI_of c_9
        refine lv_iload_n hx hb dX3_isSearch_12 rfl (lv_at hl 3 rfl) ?_
        refine lv_bipush (v := (nI 7)) hx hb dX3_isSearch_13 (by decide) ?_
        refine lv_icmp_le (tgt := 20) hx hb dX3_isSearch_15 (by decide) (fun c_15 => ?_) (fun c_15 => ?_)
        · have c_15 : o ≤ 7 := (nI_leI (a := o) (b := 7) (by omega) (by omega)).mp c_15
          refine lv_iload_n hx hb dX3_isSearch_20 rfl (lv_at hl 3 rfl) ?_
          refine lv_iconst (v := (nI 1)) hx hb dX3_isSearch_21 (by decide) ?_
          refine lv_iand hx hb dX3_isSearch_22 ?_
          refine tpi (and1 (by omega)) ?_
          refine lv_if_eq (tgt := 45) hx hb dX3_isSearch_23 (by decide) (fun c_23 => ?_) (fun c_23 => ?_)
          · have c_23 : o % 2 = 0 := (nZ_eq (by omega)).mp c_23
            refine lv_iload_n hx hb dX3_isSearch_45 rfl (lv_at hl 0 rfl) ?_
            refine vp_callSi (W.runS (As := [.int p2]) (rest := []) ⟨hx, hb, hml, hown, hts⟩ (c_X3_isWidth l p2) (va_cwS 1 hts gX3_isSearch_X3_isWidth rfl rfl rfl (by decide +kernel) ⟨Nat.le_of_ble_eq_true rfl, Nat.le_of_ble_eq_true rfl⟩) ⟨fun a9 U g9 mk9 q9 => ⟨q9.1, trivial⟩, fun U hU hW => ⟨rfl, trivial⟩⟩ rfl rfl hl.1 rfl (lv_room (Nat.le_of_ble_eq_true rfl)) dX3_isSearch_46 ⟨Nat.zero_le _, Nat.zero_le _⟩) (fun r_46 hw => ?_)
            try dsimp only at hw
            rcases hw with ⟨hc_46, rfl⟩ | ⟨hc_46, rfl⟩
            · skip
              exact W.zret (v := (nI 1)) (ty := .boolean) hx hb hr (by decide) (fun t ht hW => ⟨(nI 1), rfl, Or.inl ⟨⟨c_1, c_5, c_9, fun q => absurd ((nI_ltI (by omega) (by omega)).mp q) (by omega), by rw [show cl (nI o) = o from nI_clamp n_o]; unfold isK; rw [if_neg (by omega)]; exact hc_46⟩, rfl⟩, ht⟩) (fun _ h9 => absurd h9 List.not_mem_nil) dX3_isSearch_49
            · skip
              exact W.zret (v := (nI 0)) (ty := .boolean) hx hb hr (by decide) (fun t ht hW => ⟨(nI 0), rfl, Or.inr ⟨fun q => by have z := q.2.2.2.2; rw [show cl (nI o) = o from nI_clamp n_o] at z; unfold isK at z; rw [if_neg (by omega)] at z; exact (hc_46) z, rfl⟩, ht⟩) (fun _ h9 => absurd h9 List.not_mem_nil) dX3_isSearch_49
          · have c_23 : ¬ o % 2 = 0 := fun q => c_23 ((nZ_eq (by omega)).mpr q)
            refine lv_iload_n hx hb dX3_isSearch_26 rfl (lv_at hl 0 rfl) ?_
            refine lv_iconst (v := (nI 1)) hx hb dX3_isSearch_27 (by decide) ?_
            refine lv_icmp_lt (tgt := 41) hx hb dX3_isSearch_28 (by decide) (fun c_28 => ?_) (fun c_28 => ?_)
            · refine lv_iconst (v := (nI 0)) hx hb dX3_isSearch_41 (by decide) ?_
              refine lv_goto (tgt := 49) hx hb dX3_isSearch_42 (by decide) ?_
              exact W.zret (v := (nI 0)) (ty := .boolean) hx hb hr (by decide) (fun t ht hW => ⟨(nI 0), rfl, Or.inr ⟨fun q => by have z := q.2.2.2.2; rw [show cl (nI o) = o from nI_clamp n_o] at z; unfold isK at z; rw [if_pos (by omega)] at z; exact (fun q => q.1 c_28) z, rfl⟩, ht⟩) (fun _ h9 => absurd h9 List.not_mem_nil) dX3_isSearch_49
            · refine lv_iload_n hx hb dX3_isSearch_31 rfl (lv_at hl 0 rfl) ?_
              refine lv_bipush (v := (nI 64)) hx hb dX3_isSearch_32 (by decide) ?_
              refine lv_icmp_gt (tgt := 41) hx hb dX3_isSearch_34 (by decide) (fun c_34 => ?_) (fun c_34 => ?_)
              · refine lv_iconst (v := (nI 0)) hx hb dX3_isSearch_41 (by decide) ?_
                refine lv_goto (tgt := 49) hx hb dX3_isSearch_42 (by decide) ?_
                exact W.zret (v := (nI 0)) (ty := .boolean) hx hb hr (by decide) (fun t ht hW => ⟨(nI 0), rfl, Or.inr ⟨fun q => by have z := q.2.2.2.2; rw [show cl (nI o) = o from nI_clamp n_o] at z; unfold isK at z; rw [if_pos (by omega)] at z; exact (fun q => q.2 c_34) z, rfl⟩, ht⟩) (fun _ h9 => absurd h9 List.not_mem_nil) dX3_isSearch_49
              · refine lv_iconst (v := (nI 1)) hx hb dX3_isSearch_37 (by decide) ?_
                refine lv_goto (tgt := 49) hx hb dX3_isSearch_38 (by decide) ?_
                exact W.zret (v := (nI 1)) (ty := .boolean) hx hb hr (by decide) (fun t ht hW => ⟨(nI 1), rfl, Or.inl ⟨⟨c_1, c_5, c_9, fun q => absurd ((nI_ltI (by omega) (by omega)).mp q) (by omega), by rw [show cl (nI o) = o from nI_clamp n_o]; unfold isK; rw [if_pos (by omega)]; exact ⟨c_28, c_34⟩⟩, rfl⟩, ht⟩) (fun _ h9 => absurd h9 List.not_mem_nil) dX3_isSearch_49
        · have c_15 : ¬ o ≤ 7 := fun q => c_15 ((nI_leI (a := o) (b := 7) (by omega) (by omega)).mpr q)
          refine lv_iconst (v := (nI 0)) hx hb dX3_isSearch_18 (by decide) ?_
          exact W.zret (v := (nI 0)) (ty := .boolean) hx hb hr (by decide) (fun t ht hW => ⟨(nI 0), rfl, Or.inr ⟨fun q => q.2.2.2.1 ((nI_ltI (by omega) (by omega)).mpr (by omega)), rfl⟩, ht⟩) (fun _ h9 => absurd h9 List.not_mem_nil) dX3_isSearch_19
