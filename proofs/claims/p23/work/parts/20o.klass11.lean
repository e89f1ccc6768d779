set_option maxHeartbeats 4000000 in
set_option maxRecDepth 100000 in
theorem c_X3_resize (l : Launch) (dC : Nat → ClassId) (dI : Nat → Nat → Nat) (cB cI : ClassId) (h kq : Nat) (sp : Option Nat) (k o b : Nat → Nat) (kp : Nat) (ga : Nat) (gl : Nat) (kl : Nat) (kb : Nat → Nat) (oz : Nat) (cs : Nat) (cd : Nat → Nat) (sz : Nat) (st : Nat) (us : Nat) (mem : Nat → Nat) (pl : Nat → Nat) (ln : Nat → Nat) (zz : Nat) (p1 : Int32) (g3 : sz ≤ 8192) (g4 : us ≤ 64) : Met l yX3_resize wsX3_resize ({ frames := 3, cells := 0, slots := 0, locals := 67 }) (va_Pc [.ref h, .int p1] (fun U => U.heap.size = zz ∧ va_P (dC, dI) vwCl (gw h kq sp k o b kp ga gl ++ kw cB k kl kb ++ ow cB o oz cs cd ++ sw cB cI b sz st us mem pl ln) U.heap ∧ va_K (dC, dI) vwCl [(cI, .int), (cB, .byte)] U ∧ va_D (fun _ => True) (gw h kq sp k o b kp ga gl ++ kw cB k kl kb ++ ow cB o oz cs cd ++ sw cB cI b sz st us mem pl ln))) (va_Qi (fun r _ => r = rzR sz us p1) (fun (_ : Unit) t => va_P (dC, dI) vwCl (gw h kq sp k o b kp ga gl ++ kw cB k kl kb ++ ow cB o oz cs cd ++ sw cB cI b (rzZ sz us p1) st us (rzC sz us mem p1) pl ln) t.heap ∧ va_K (dC, dI) vwCl [(cI, .int), (cB, .byte)] t ∧ va_D (va_A (gw h kq sp k o b kp ga gl ++ kw cB k kl kb ++ ow cB o oz cs cd ++ sw cB cI b sz st us mem pl ln) zz) (gw h kq sp k o b kp ga gl ++ kw cB k kl kb ++ ow cB o oz cs cd ++ sw cB cI b (rzZ sz us p1) st us (rzC sz us mem p1) pl ln)) (va_A (gw h kq sp k o b kp ga gl ++ kw cB k kl kb ++ ow cB o oz cs cd ++ sw cB cI b sz st us mem pl ln) zz)) 0 0 (va_A (gw h kq sp k o b kp ga gl ++ kw cB k kl kb ++ ow cB o oz cs cd ++ sw cB cI b sz st us mem pl ln) zz) := by
  refine Met.ofW (cc := cX3_resize) (maxL := 3) (ret := (some .int)) (by decide) rfl ?_
  intro p e s m args below meth c s₁ B hml hv
  obtain ⟨rfl, hsz, hP, hK, hD0⟩ := hv
  have hx := B.exec
  have hb := B.bytes
  have hr := B.returns
  have hts := atoms_spec (ws := wsX3_resize) B.pre
  have hown : s.vm.findClass RX3 = some m.cls := findClass_of_methodNamed B.named
  have hlocks := B.notSynchronized
  subst hsz
  have hD := hD0.self (sz := s.heap.size)
  generalize hAe : va_A (gw h kq sp k o b kp ga gl ++ kw cB k kl kb ++ ow cB o oz cs cd ++ sw cB cI b sz st us mem pl ln) s.heap.size = A at hD ⊢
  have hA : ∀ q : Nat, s.heap.size ≤ q → A q := fun q h => by rw [← hAe]; exact Or.inr h
  have hS : va_S A s.heap s.heap [] := va_S.rf
  have hP : va_P (dC, dI) vwCl (gw h kq sp k o b kp ga gl ++ kw cB k kl kb ++ ow cB o oz cs cd ++ sw cB cI b sz st us mem pl ln) s.heap := hP
  have in_X2 : ∀ w ∈ wsX20, w ∈ wsX3_resize := fun _ h => List.mem_cons_of_mem _ (List.mem_append_right _ (h))
  have in_X3 : ∀ w ∈ wsX30, w ∈ wsX3_resize := fun _ h => List.mem_cons_of_mem _ (List.mem_append_left _ (List.mem_append_right _ (h)))
  have lk_1 := hts (.fieldLink RX3 30 "GlulxHeap" "now" "LGlulxHeap$State;") (List.mem_of_getElem? (i := 1) rfl)
  have lk_2 := hts (.fieldLink RX3 80 "GlulxHeap$State" "used" "I") (List.mem_of_getElem? (i := 2) rfl)
  have lk_3 := hts (.fieldLink RX3 84 "GlulxHeap$State" "size" "I") (List.mem_of_getElem? (i := 3) rfl)
  have hl := lv_entry ([.ref h, .int p1]) (n := 3) (Nat.le_of_ble_eq_true rfl)
  rw [lg_entry_eq]
  generalize (lg_sl ([.ref h, .int p1]) ++ List.replicate (3 - (lg_sl ([.ref h, .int p1])).length) Slot.unset).toArray = ls at hl ⊢
  have hl : lv_has ls 3 [(0, .ref h), (1, .int p1)] := hl
  rcases Classical.em (p1 < 0) with h0 | h0
  · refine lv_iload_n hx hb dX3_resize_0 rfl (lv_at hl 1 rfl) ?_
    refine vp_callSi (W.runS (As := [.int p1]) (rest := []) ⟨hx, hb, hml, hown, hts⟩ (c_X3_isSizeN l p1 h0) (va_cwS 1 hts gX3_resize_X3_isSize rfl rfl rfl (by decide +kernel) ⟨Nat.le_of_ble_eq_true rfl, Nat.le_of_ble_eq_true rfl⟩) ⟨fun a9 U g9 mk9 q9 => ⟨q9.1, trivial⟩, fun U hU hW => ⟨rfl, trivial⟩⟩ rfl rfl hl.1 rfl (lv_room (Nat.le_of_ble_eq_true rfl)) dX3_resize_1 ⟨Nat.zero_le _, Nat.zero_le _⟩) (fun r_1 hw => ?_)
    try dsimp only at hw
    subst hw
    refine lv_if_ne (tgt := 10) hx hb dX3_resize_4 (by decide) (fun c_4 => ?_) (fun c_4 => ?_)
    · exact absurd c_4 (by decide)
    · have c_4 : 0 = 0 := (nZ_eq (by omega)).mp c_4
      refine lv_bipush (v := ((-11))) hx hb dX3_resize_7 (by decide) ?_
      have e_sz : sz = rzZ sz us p1 := by unfold rzZ; rw [if_neg (fun q => q.1 (Or.inl h0))]
      have e_mem : mem = rzC sz us mem p1 := by unfold rzC; rw [if_neg (fun q => q.1 (Or.inl h0))]
      have hP : va_P (dC, dI) vwCl (gw h kq sp k o b kp ga gl ++ kw cB k kl kb ++ ow cB o oz cs cd ++ sw cB cI b (rzZ sz us p1) st us (rzC sz us mem p1) pl ln) s.heap := by rw [← e_sz, ← e_mem]; exact hP
      have hD : va_D A (gw h kq sp k o b kp ga gl ++ kw cB k kl kb ++ ow cB o oz cs cd ++ sw cB cI b (rzZ sz us p1) st us (rzC sz us mem p1) pl ln) := by rw [← e_sz, ← e_mem]; exact hD
      exact W.iret (v := ((-11))) hx hb hr (fun t ht hW => ⟨⟨((-11)), (), rfl, (show ((-11)) = rzR sz us p1 from (rzR_w (Or.inl h0)).symm), by rw [ht]; exact hP, va_K.moved hW.alike hK, hD⟩, hS.F ht⟩) hS.2.2 dX3_resize_9
  · obtain ⟨x, n_x, rfl⟩ := nI_of h0
    refine lv_iload_n hx hb dX3_resize_0 rfl (lv_at hl 1 rfl) ?_
    refine vp_callSi (W.runS (As := [.int (nI x)]) (rest := []) ⟨hx, hb, hml, hown, hts⟩ (c_X3_isSize l x (by omega)) (va_cwS 1 hts gX3_resize_X3_isSize rfl rfl rfl (by decide +kernel) ⟨Nat.le_of_ble_eq_true rfl, Nat.le_of_ble_eq_true rfl⟩) ⟨fun a9 U g9 mk9 q9 => ⟨q9.1, trivial⟩, fun U hU hW => ⟨rfl, trivial⟩⟩ rfl rfl hl.1 rfl (lv_room (Nat.le_of_ble_eq_true rfl)) dX3_resize_1 ⟨Nat.zero_le _, Nat.zero_le _⟩) (fun r_1 hw => ?_)
    try dsimp only at hw
    rcases hw with ⟨hc_1, rfl⟩ | ⟨hc_1, rfl⟩
    · skip
      refine lv_if_ne (tgt := 10) hx hb dX3_resize_4 (by decide) (fun c_4 => ?_) (fun c_4 => ?_)
      · have c_4 : ¬ 1 = 0 := fun q => c_4 ((nZ_eq (by omega)).mpr q)
        refine lv_aload_n hx hb dX3_resize_10 rfl (lv_at hl 0 rfl) ?_
        refine va_get (D := (dC, dI)) (ci := 3) (v := .ref (b 0)) (C := RX3) (T := TX3) (N := 8) hx hb hts in_X3 hown hK hP 0 rfl rfl 3 (by decide) lk_1 (fun _ h9 => h9) rfl dX3_resize_11 ?_
        refine va_get (D := (dC, dI)) (ci := 2) (v := .int (nI us)) (C := RX2) (T := TX2) (N := 6) hx hb hts in_X2 hown hK hP 5 rfl rfl 5 (by decide) lk_2 (fun _ h9 => h9) rfl dX3_resize_14 ?_
        refine lv_if_le (tgt := 23) hx hb dX3_resize_17 (by decide) (fun c_17 => ?_) (fun c_17 => ?_)
        · have c_17 : us ≤ 0 := (nZ_le (by omega)).mp c_17
          refine lv_aload_n hx hb dX3_resize_23 rfl (lv_at hl 0 rfl) ?_
          refine va_get (D := (dC, dI)) (ci := 3) (v := .ref (b 0)) (C := RX3) (T := TX3) (N := 8) hx hb hts in_X3 hown hK hP 0 rfl rfl 3 (by decide) lk_1 (fun _ h9 => h9) rfl dX3_resize_24 ?_
          refine va_get (D := (dC, dI)) (ci := 2) (v := .int (nI sz)) (C := RX2) (T := TX2) (N := 6) hx hb hts in_X2 hown hK hP 5 rfl rfl 3 (by decide) lk_3 (fun _ h9 => h9) rfl dX3_resize_27 ?_
          refine lv_istore_n (lv' := [(2, .int (nI sz)), (0, .ref h), (1, .int (nI x))]) hx hb dX3_resize_30 rfl hl (by decide) rfl (fun ls hl => ?_)
          refine lv_aload_n hx hb dX3_resize_31 rfl (lv_at hl 1 rfl) ?_
          refine va_get (D := (dC, dI)) (ci := 3) (v := .ref (b 0)) (C := RX3) (T := TX3) (N := 8) hx hb hts in_X3 hown hK hP 0 rfl rfl 3 (by decide) lk_1 (fun _ h9 => h9) rfl dX3_resize_32 ?_
          refine lv_iload_n hx hb dX3_resize_35 rfl (lv_at hl 2 rfl) ?_
          have hPc := hP.sub (ws' := sw cB cI b sz st us mem pl ln) [5, 6, 7, 8] rfl
          have hKc := hK.sub (tys' := [(cI, .int), (cB, .byte)]) [0, 1] rfl
          have hDc := hD.sub (ws' := sw cB cI b sz st us mem pl ln) [5, 6, 7, 8] (by decide) rfl
          have hFc := va_free (wc := sw cB cI b sz st us mem pl ln) hD hS hA [5, 6, 7, 8] rfl
          refine va_callv (va_runV (As := [.int (nI x)]) (rest := []) ⟨hx, hb, hml, hown, hts⟩ (c_X2_changeSize l dC dI cB cI b sz st us mem pl ln s.heap.size x (by omega) (by omega)) (cwV 1 hts gX3_resize_X2_changeSize rfl rfl rfl (by decide +kernel) ⟨Nat.le_of_ble_eq_true rfl, Nat.le_of_ble_eq_true rfl⟩) ⟨fun a9 U g9 mk9 q9 => by obtain ⟨q0, q1, qP, qK, qD⟩ := q9; exact ⟨q0, q1, qP, va_K.moved (u := U) (U := U.calling g9 mk9 a9) (Vm.Alike.refl U.vm) qK, qD⟩, va_recv hKc hPc (ci := 2) (q0 := 0) rfl rfl, fun U hU hW => ⟨rfl, by rw [hU], by rw [hU]; exact hPc, va_K.moved hW.alike hKc, hDc.weaken (fun _ _ _ _ => trivial)⟩⟩ rfl rfl hl.1 rfl (lv_room (Nat.le_of_ble_eq_true rfl)) dX3_resize_36 ⟨Nat.zero_le _, Nat.zero_le _⟩) hS (fun q _ h => hFc q h) hFc (fun u t H1 locs ht9 hvm9 hw hB hz9 hk9 hS => ?_)
          obtain ⟨hP1, hK1, hD1⟩ := hB
          rw [ht9] at hP1
          obtain ⟨hP, hD⟩ := va_join (wr := gw h kq sp k o b kp ga gl ++ kw cB k kl kb ++ ow cB o oz cs cd) (w1 := sw cB cI b x st us (csM mem sz x) pl ln) hP hD [5, 6, 7, 8] [0, 1, 2, 3, 4] rfl rfl (by decide) (by decide) hk9 hFc hP1 hD1
          generalize H1 = H at hP hS ⊢
          have hP := hP.sub (ws' := gw h kq sp k o b kp ga gl ++ kw cB k kl kb ++ ow cB o oz cs cd ++ sw cB cI b x st us (csM mem sz x) pl ln) [0, 1, 2, 3, 4, 5, 6, 7, 8] rfl
          have hD := hD.sub (ws' := gw h kq sp k o b kp ga gl ++ kw cB k kl kb ++ ow cB o oz cs cd ++ sw cB cI b x st us (csM mem sz x) pl ln) [0, 1, 2, 3, 4, 5, 6, 7, 8] (by decide) rfl
          have hP : va_P (dC, dI) vwCl (gw h kq sp k o b kp ga gl ++ kw cB k kl kb ++ ow cB o oz cs cd ++ sw cB cI b x st us (csM mem sz x) pl ln) H := hP
          have hD : va_D A (gw h kq sp k o b kp ga gl ++ kw cB k kl kb ++ ow cB o oz cs cd ++ sw cB cI b x st us (csM mem sz x) pl ln) := hD
          refine lv_iload_n hx hb dX3_resize_39 rfl (lv_at hl 0 rfl) ?_
          have e_sz : x = rzZ sz us (nI x) := by unfold rzZ; rw [if_pos (rzO_ok n_x hc_1 (by omega)), show cl (nI x) = x from nI_clamp n_x]
          have e_mem : csM mem sz x = rzC sz us mem (nI x) := by unfold rzC; rw [if_pos (rzO_ok n_x hc_1 (by omega)), show cl (nI x) = x from nI_clamp n_x]
          have hP : va_P (dC, dI) vwCl (gw h kq sp k o b kp ga gl ++ kw cB k kl kb ++ ow cB o oz cs cd ++ sw cB cI b (rzZ sz us (nI x)) st us (rzC sz us mem (nI x)) pl ln) H := by rw [← e_sz, ← e_mem]; exact hP
          have hD : va_D A (gw h kq sp k o b kp ga gl ++ kw cB k kl kb ++ ow cB o oz cs cd ++ sw cB cI b (rzZ sz us (nI x)) st us (rzC sz us mem (nI x)) pl ln) := by rw [← e_sz, ← e_mem]; exact hD
          exact W.iret (v := (nI sz)) hx hb hr (fun t ht hW => ⟨⟨(nI sz), (), rfl, (show (nI sz) = rzR sz us (nI x) from by unfold rzR; rw [if_neg (fun q => q.elim h0 (fun q => q (by rw [show cl (nI x) = x from nI_clamp n_x]; exact hc_1))), if_neg (by omega)]), by rw [ht]; exact hP, va_K.moved hW.alike hK, hD⟩, hS.F ht⟩) hS.2.2 dX3_resize_40
        · have c_17 : ¬ us ≤ 0 := fun q => c_17 ((nZ_le (by omega)).mpr q)
          refine lv_bipush (v := ((-14))) hx hb dX3_resize_20 (by decide) ?_
          have e_sz : sz = rzZ sz us (nI x) := by unfold rzZ; rw [if_neg (fun q => q.2 (by omega))]
          have e_mem : mem = rzC sz us mem (nI x) := by unfold rzC; rw [if_neg (fun q => q.2 (by omega))]
          have hP : va_P (dC, dI) vwCl (gw h kq sp k o b kp ga gl ++ kw cB k kl kb ++ ow cB o oz cs cd ++ sw cB cI b (rzZ sz us (nI x)) st us (rzC sz us mem (nI x)) pl ln) s.heap := by rw [← e_sz, ← e_mem]; exact hP
          have hD : va_D A (gw h kq sp k o b kp ga gl ++ kw cB k kl kb ++ ow cB o oz cs cd ++ sw cB cI b (rzZ sz us (nI x)) st us (rzC sz us mem (nI x)) pl ln) := by rw [← e_sz, ← e_mem]; exact hD
          exact W.iret (v := ((-14))) hx hb hr (fun t ht hW => ⟨⟨((-14)), (), rfl, (show ((-14)) = rzR sz us (nI x) from by unfold rzR; rw [if_neg (fun q => q.elim h0 (fun q => q (by rw [show cl (nI x) = x from nI_clamp n_x]; exact hc_1))), if_pos (by omega)]), by rw [ht]; exact hP, va_K.moved hW.alike hK, hD⟩, hS.F ht⟩) hS.2.2 dX3_resize_22
      · exact absurd c_4 (by decide)
    · skip
      refine lv_if_ne (tgt := 10) hx hb dX3_resize_4 (by decide) (fun c_4 => ?_) (fun c_4 => ?_)
      · exact absurd c_4 (by decide)
      · have c_4 : 0 = 0 := (nZ_eq (by omega)).mp c_4
        refine lv_bipush (v := ((-11))) hx hb dX3_resize_7 (by decide) ?_
        have e_sz : sz = rzZ sz us (nI x) := by unfold rzZ; rw [if_neg (fun q => q.1 (Or.inr (by rw [show cl (nI x) = x from nI_clamp n_x]; exact hc_1)))]
        have e_mem : mem = rzC sz us mem (nI x) := by unfold rzC; rw [if_neg (fun q => q.1 (Or.inr (by rw [show cl (nI x) = x from nI_clamp n_x]; exact hc_1)))]
        have hP : va_P (dC, dI) vwCl (gw h kq sp k o b kp ga gl ++ kw cB k kl kb ++ ow cB o oz cs cd ++ sw cB cI b (rzZ sz us (nI x)) st us (rzC sz us mem (nI x)) pl ln) s.heap := by rw [← e_sz, ← e_mem]; exact hP
        have hD : va_D A (gw h kq sp k o b kp ga gl ++ kw cB k kl kb ++ ow cB o oz cs cd ++ sw cB cI b (rzZ sz us (nI x)) st us (rzC sz us mem (nI x)) pl ln) := by rw [← e_sz, ← e_mem]; exact hD
        exact W.iret (v := ((-11))) hx hb hr (fun t ht hW => ⟨⟨((-11)), (), rfl, (show ((-11)) = rzR sz us (nI x) from (rzR_w (Or.inr (by rw [show cl (nI x) = x from nI_clamp n_x]; exact hc_1))).symm), by rw [ht]; exact hP, va_K.moved hW.alike hK, hD⟩, hS.F ht⟩) hS.2.2 dX3_resize_9
set_option maxHeartbeats 4000000 in
set_option maxRecDepth 100000 in
theorem c_X3_protect (l : Launch) (dC : Nat → ClassId) (dI : Nat → Nat → Nat) (cB cI : ClassId) (h kq : Nat) (sp : Option Nat) (k o b : Nat → Nat) (kp : Nat) (ga : Nat) (gl : Nat) (kl : Nat) (kb : Nat → Nat) (oz : Nat) (cs : Nat) (cd : Nat → Nat) (sz : Nat) (st : Nat) (us : Nat) (mem : Nat → Nat) (pl : Nat → Nat) (ln : Nat → Nat) (zz : Nat) (p1 p2 : Int32)  : Met l yX3_protect wsX3_protect ({ frames := 0, cells := 0, slots := 0, locals := 0 }) (va_Pc [.ref h, .int p1, .int p2] (fun U => U.heap.size = zz ∧ va_P (dC, dI) vwCl (gw h kq sp k o b kp ga gl ++ kw cB k kl kb ++ ow cB o oz cs cd ++ sw cB cI b sz st us mem pl ln) U.heap ∧ va_K (dC, dI) vwCl [(cI, .int), (cB, .byte)] U ∧ va_D (fun _ => True) (gw h kq sp k o b kp ga gl ++ kw cB k kl kb ++ ow cB o oz cs cd ++ sw cB cI b sz st us mem pl ln))) (va_Qi (fun r _ => r = pcR p1 p2) (fun (_ : Unit) t => va_P (dC, dI) vwCl (gw h kq sp k o b kp (pcA ga p1 p2) (pcL gl p1 p2) ++ kw cB k kl kb ++ ow cB o oz cs cd ++ sw cB cI b sz st us mem pl ln) t.heap ∧ va_K (dC, dI) vwCl [(cI, .int), (cB, .byte)] t ∧ va_D (va_A (gw h kq sp k o b kp ga gl ++ kw cB k kl kb ++ ow cB o oz cs cd ++ sw cB cI b sz st us mem pl ln) zz) (gw h kq sp k o b kp (pcA ga p1 p2) (pcL gl p1 p2) ++ kw cB k kl kb ++ ow cB o oz cs cd ++ sw cB cI b sz st us mem pl ln)) (va_A (gw h kq sp k o b kp ga gl ++ kw cB k kl kb ++ ow cB o oz cs cd ++ sw cB cI b sz st us mem pl ln) zz)) 0 0 (va_A (gw h kq sp k o b kp ga gl ++ kw cB k kl kb ++ ow cB o oz cs cd ++ sw cB cI b sz st us mem pl ln) zz) := by
  refine Met.ofW (cc := cX3_protect) (maxL := 3) (ret := (some .int)) (by decide) rfl ?_
  intro p e s m args below meth c s₁ B hml hv
  obtain ⟨rfl, hsz, hP, hK, hD0⟩ := hv
  have hx := B.exec
  have hb := B.bytes
  have hr := B.returns
  have hts := atoms_spec (ws := wsX3_protect) B.pre
  have hown : s.vm.findClass RX3 = some m.cls := findClass_of_methodNamed B.named
  have hlocks := B.notSynchronized
  subst hsz
  have hD := hD0.self (sz := s.heap.size)
  generalize hAe : va_A (gw h kq sp k o b kp ga gl ++ kw cB k kl kb ++ ow cB o oz cs cd ++ sw cB cI b sz st us mem pl ln) s.heap.size = A at hD ⊢
  have hA : ∀ q : Nat, s.heap.size ≤ q → A q := fun q h => by rw [← hAe]; exact Or.inr h
  have hS : va_S A s.heap s.heap [] := va_S.rf
  have hP : va_P (dC, dI) vwCl (gw h kq sp k o b kp ga gl ++ kw cB k kl kb ++ ow cB o oz cs cd ++ sw cB cI b sz st us mem pl ln) s.heap := hP
  have in_X3 : ∀ w ∈ wsX30, w ∈ wsX3_protect := fun _ h => List.mem_cons_of_mem _ (List.mem_append_right _ (h))
  have lk_1 := hts (.fieldLink RX3 154 "GlulxHeap" "protectedAt" "I") (List.mem_of_getElem? (i := 1) rfl)
  have lk_2 := hts (.fieldLink RX3 157 "GlulxHeap" "protectedLength" "I") (List.mem_of_getElem? (i := 2) rfl)
  have hl := lv_entry ([.ref h, .int p1, .int p2]) (n := 3) (Nat.le_of_ble_eq_true rfl)
  rw [lg_entry_eq]
  generalize (lg_sl ([.ref h, .int p1, .int p2]) ++ List.replicate (3 - (lg_sl ([.ref h, .int p1, .int p2])).length) Slot.unset).toArray = ls at hl ⊢
  have hl : lv_has ls 3 [(0, .ref h), (1, .int p1), (2, .int p2)] := hl
  refine lv_iload_n hx hb dX3_protect_0 rfl (lv_at hl 1 rfl) ?_
  refine lv_if_lt (tgt := 22) hx hb dX3_protect_1 (by decide) (fun c_1 => ?_) (fun c_1 => ?_)
  · refine lv_bipush (v := ((-11))) hx hb dX3_protect_22 (by decide) ?_
    have e_ga : ga = pcA ga p1 p2 := by unfold pcA; rw [if_pos (by first | exact Or.inl c_1 | exact Or.inr (Or.inl c_12) | exact Or.inr (Or.inr (Or.inl ((nI_ltI (by omega) (by omega)).mpr c_8))) | exact Or.inr (Or.inr (Or.inr ((nI_ltI (by omega) (by omega)).mpr (by omega)))))]
    have e_gl : gl = pcL gl p1 p2 := by unfold pcL; rw [if_pos (by first | exact Or.inl c_1 | exact Or.inr (Or.inl c_12) | exact Or.inr (Or.inr (Or.inl ((nI_ltI (by omega) (by omega)).mpr c_8))) | exact Or.inr (Or.inr (Or.inr ((nI_ltI (by omega) (by omega)).mpr (by omega)))))]
    have hP : va_P (dC, dI) vwCl (gw h kq sp k o b kp (pcA ga p1 p2) (pcL gl p1 p2) ++ kw cB k kl kb ++ ow cB o oz cs cd ++ sw cB cI b sz st us mem pl ln) s.heap := by rw [← e_ga, ← e_gl]; exact hP
    have hD : va_D A (gw h kq sp k o b kp (pcA ga p1 p2) (pcL gl p1 p2) ++ kw cB k kl kb ++ ow cB o oz cs cd ++ sw cB cI b sz st us mem pl ln) := by rw [← e_ga, ← e_gl]; exact hD
    exact W.iret (v := ((-11))) hx hb hr (fun t ht hW => ⟨⟨((-11)), (), rfl, (show ((-11)) = pcR p1 p2 from by unfold pcR; rw [if_pos (by first | exact Or.inl c_1 | exact Or.inr (Or.inl c_12) | exact Or.inr (Or.inr (Or.inl ((nI_ltI (by omega) (by omega)).mpr c_8))) | exact Or.inr (Or.inr (Or.inr ((nI_ltI (by omega) (by omega)).mpr (by omega)))))]), by rw [ht]; exact hP, va_K.moved hW.alike hK, hD⟩, hS.F ht⟩) hS.2.2 dX3_protect_24
  · obtain ⟨x, n_x, rfl⟩ := nI_of c_1
    refine lv_iload_n hx hb dX3_protect_4 rfl (lv_at hl 1 rfl) ?_
    refine lv_sipush (v := (nI 8192)) hx hb dX3_protect_5 (by decide) ?_
    refine lv_icmp_gt (tgt := 22) hx hb dX3_protect_8 (by decide) (fun c_8 => ?_) (fun c_8 => ?_)
    · have c_8 : 8192 < x := (nI_ltI (a := 8192) (b := x) (by omega) (by omega)).mp c_8
      refine lv_bipush (v := ((-11))) hx hb dX3_protect_22 (by decide) ?_
      have e_ga : ga = pcA ga (nI x) p2 := by unfold pcA; rw [if_pos (by first | exact Or.inl c_1 | exact Or.inr (Or.inl c_12) | exact Or.inr (Or.inr (Or.inl ((nI_ltI (by omega) (by omega)).mpr c_8))) | exact Or.inr (Or.inr (Or.inr ((nI_ltI (by omega) (by omega)).mpr (by omega)))))]
      have e_gl : gl = pcL gl (nI x) p2 := by unfold pcL; rw [if_pos (by first | exact Or.inl c_1 | exact Or.inr (Or.inl c_12) | exact Or.inr (Or.inr (Or.inl ((nI_ltI (by omega) (by omega)).mpr c_8))) | exact Or.inr (Or.inr (Or.inr ((nI_ltI (by omega) (by omega)).mpr (by omega)))))]
      have hP : va_P (dC, dI) vwCl (gw h kq sp k o b kp (pcA ga (nI x) p2) (pcL gl (nI x) p2) ++ kw cB k kl kb ++ ow cB o oz cs cd ++ sw cB cI b sz st us mem pl ln) s.heap := by rw [← e_ga, ← e_gl]; exact hP
      have hD : va_D A (gw h kq sp k o b kp (pcA ga (nI x) p2) (pcL gl (nI x) p2) ++ kw cB k kl kb ++ ow cB o oz cs cd ++ sw cB cI b sz st us mem pl ln) := by rw [← e_ga, ← e_gl]; exact hD
      exact W.iret (v := ((-11))) hx hb hr (fun t ht hW => ⟨⟨((-11)), (), rfl, (show ((-11)) = pcR (nI x) p2 from by unfold pcR; rw [if_pos (by first | exact Or.inl c_1 | exact Or.inr (Or.inl c_12) | exact Or.inr (Or.inr (Or.inl ((nI_ltI (by omega) (by omega)).mpr c_8))) | exact Or.inr (Or.inr (Or.inr ((nI_ltI (by omega) (by omega)).mpr (by omega)))))]), by rw [ht]; exact hP, va_K.moved hW.alike hK, hD⟩, hS.F ht⟩) hS.2.2 dX3_protect_24
    · have c_8 : ¬ 8192 < x := fun q => c_8 ((nI_ltI (a := 8192) (b := x) (by omega) (by omega)).mpr q)
      refine lv_iload_n hx hb dX3_protect_11 rfl (lv_at hl 2 rfl) ?_
      refine lv_if_lt (tgt := 22) hx hb dX3_protect_12 (by decide) (fun c_12 => ?_) (fun c_12 => ?_)
      · refine lv_bipush (v := ((-11))) hx hb dX3_protect_22 (by decide) ?_
        have e_ga : ga = pcA ga (nI x) p2 := by unfold pcA; rw [if_pos (by first | exact Or.inl c_1 | exact Or.inr (Or.inl c_12) | exact Or.inr (Or.inr (Or.inl ((nI_ltI (by omega) (by omega)).mpr c_8))) | exact Or.inr (Or.inr (Or.inr ((nI_ltI (by omega) (by omega)).mpr (by omega)))))]
        have e_gl : gl = pcL gl (nI x) p2 := by unfold pcL; rw [if_pos (by first | exact Or.inl c_1 | exact Or.inr (Or.inl c_12) | exact Or.inr (Or.inr (Or.inl ((nI_ltI (by omega) (by omega)).mpr c_8))) | exact Or.inr (Or.inr (Or.inr ((nI_ltI (by omega) (by omega)).mpr (by omega)))))]
        have hP : va_P (dC, dI) vwCl (gw h kq sp k o b kp (pcA ga (nI x) p2) (pcL gl (nI x) p2) ++ kw cB k kl kb ++ ow cB o oz cs cd ++ sw cB cI b sz st us mem pl ln) s.heap := by rw [← e_ga, ← e_gl]; exact hP
        have hD : va_D A (gw h kq sp k o b kp (pcA ga (nI x) p2) (pcL gl (nI x) p2) ++ kw cB k kl kb ++ ow cB o oz cs cd ++ sw cB cI b sz st us mem pl ln) := by rw [← e_ga, ← e_gl]; exact hD
        exact W.iret (v := ((-11))) hx hb hr (fun t ht hW => ⟨⟨((-11)), (), rfl, (show ((-11)) = pcR (nI x) p2 from by unfold pcR; rw [if_pos (by first | exact Or.inl c_1 | exact Or.inr (Or.inl c_12) | exact Or.inr (Or.inr (Or.inl ((nI_ltI (by omega) (by omega)).mpr c_8))) | exact Or.inr (Or.inr (Or.inr ((nI_ltI (by omega) (by omega)).mpr (by omega)))))]), by rw [ht]; exact hP, va_K.moved hW.alike hK, hD⟩, hS.F ht⟩) hS.2.2 dX3_protect_24
      · obtain ⟨y, n_y, rfl⟩ := nI_of c_12
        refine lv_iload_n hx hb dX3_protect_15 rfl (lv_at hl 2 rfl) ?_
        refine lv_sipush (v := (nI 8192)) hx hb dX3_protect_16 (by decide) ?_
        refine lv_icmp_le (tgt := 25) hx hb dX3_protect_19 (by decide) (fun c_19 => ?_) (fun c_19 => ?_)
        · have c_19 : y ≤ 8192 := (nI_leI (a := y) (b := 8192) (by omega) (by omega)).mp c_19
          have hnb := pbad_no (x := x) (y := y) (by omega) (by omega)
          refine lv_aload_n hx hb dX3_protect_25 rfl (lv_at hl 0 rfl) ?_
          refine lv_iload_n hx hb dX3_protect_26 rfl (lv_at hl 2 rfl) ?_
          refine lv_if_ne (tgt := 34) hx hb dX3_protect_27 (by decide) (fun c_27 => ?_) (fun c_27 => ?_)
          · have c_27 : ¬ y = 0 := fun q => c_27 ((nZ_eq (by omega)).mpr q)
            refine lv_iload_n hx hb dX3_protect_34 rfl (lv_at hl 1 rfl) ?_
            refine va_put (D := (dC, dI)) (ci := 3) (v := .int (nI x)) (ty := .int) (C := RX3) (T := TX3) (N := 8) hx hb hts in_X3 tyX3 tyX3_ok nmX3 hown hK hP hD hS 0 rfl rfl 6 (by decide) lk_1 (fun _ h9 => h9) rfl (by decide +kernel) rfl rfl (Nat.le_of_ble_eq_true rfl) dX3_protect_35 (fun H locs hP hD hS => ?_)
            have hP : va_P (dC, dI) vwCl (gw h kq sp k o b kp x gl ++ kw cB k kl kb ++ ow cB o oz cs cd ++ sw cB cI b sz st us mem pl ln) H := hP
            have hD : va_D A (gw h kq sp k o b kp x gl ++ kw cB k kl kb ++ ow cB o oz cs cd ++ sw cB cI b sz st us mem pl ln) := hD
            refine lv_aload_n hx hb dX3_protect_38 rfl (lv_at hl 0 rfl) ?_
            refine lv_iload_n hx hb dX3_protect_39 rfl (lv_at hl 2 rfl) ?_
            refine va_put (D := (dC, dI)) (ci := 3) (v := .int (nI y)) (ty := .int) (C := RX3) (T := TX3) (N := 8) hx hb hts in_X3 tyX3 tyX3_ok nmX3 hown hK hP hD hS 0 rfl rfl 7 (by decide) lk_2 (fun _ h9 => h9) rfl (by decide +kernel) rfl rfl (Nat.le_of_ble_eq_true rfl) dX3_protect_40 (fun H locs hP hD hS => ?_)
            have hP : va_P (dC, dI) vwCl (gw h kq sp k o b kp x y ++ kw cB k kl kb ++ ow cB o oz cs cd ++ sw cB cI b sz st us mem pl ln) H := hP
            have hD : va_D A (gw h kq sp k o b kp x y ++ kw cB k kl kb ++ ow cB o oz cs cd ++ sw cB cI b sz st us mem pl ln) := hD
            refine lv_iconst (v := (nI 1)) hx hb dX3_protect_43 (by decide) ?_
            have e_ga : x = pcA ga (nI x) (nI y) := by unfold pcA; rw [if_neg hnb, show cl (nI y) = y from nI_clamp n_y, if_neg (by omega), show cl (nI x) = x from nI_clamp n_x]
            have e_gl : y = pcL gl (nI x) (nI y) := by unfold pcL; rw [if_neg hnb, show cl (nI y) = y from nI_clamp n_y]
            have hP : va_P (dC, dI) vwCl (gw h kq sp k o b kp (pcA ga (nI x) (nI y)) (pcL gl (nI x) (nI y)) ++ kw cB k kl kb ++ ow cB o oz cs cd ++ sw cB cI b sz st us mem pl ln) H := by rw [← e_ga, ← e_gl]; exact hP
            have hD : va_D A (gw h kq sp k o b kp (pcA ga (nI x) (nI y)) (pcL gl (nI x) (nI y)) ++ kw cB k kl kb ++ ow cB o oz cs cd ++ sw cB cI b sz st us mem pl ln) := by rw [← e_ga, ← e_gl]; exact hD
            exact W.iret (v := (nI 1)) hx hb hr (fun t ht hW => ⟨⟨(nI 1), (), rfl, (show (nI 1) = pcR (nI x) (nI y) from by unfold pcR; rw [if_neg hnb]), by rw [ht]; exact hP, va_K.moved hW.alike hK, hD⟩, hS.F ht⟩) hS.2.2 dX3_protect_44
          · have c_27 : y = 0 := (nZ_eq (by omega)).mp c_27
            refine lv_iconst (v := (nI 0)) hx hb dX3_protect_30 (by decide) ?_
            refine lv_goto (tgt := 35) hx hb dX3_protect_31 (by decide) ?_
            refine va_put (D := (dC, dI)) (ci := 3) (v := .int (nI 0)) (ty := .int) (C := RX3) (T := TX3) (N := 8) hx hb hts in_X3 tyX3 tyX3_ok nmX3 hown hK hP hD hS 0 rfl rfl 6 (by decide) lk_1 (fun _ h9 => h9) rfl (by decide +kernel) rfl rfl (Nat.le_of_ble_eq_true rfl) dX3_protect_35 (fun H locs hP hD hS => ?_)
            have hP : va_P (dC, dI) vwCl (gw h kq sp k o b kp 0 gl ++ kw cB k kl kb ++ ow cB o oz cs cd ++ sw cB cI b sz st us mem pl ln) H := hP
            have hD : va_D A (gw h kq sp k o b kp 0 gl ++ kw cB k kl kb ++ ow cB o oz cs cd ++ sw cB cI b sz st us mem pl ln) := hD
            refine lv_aload_n hx hb dX3_protect_38 rfl (lv_at hl 0 rfl) ?_
            refine lv_iload_n hx hb dX3_protect_39 rfl (lv_at hl 2 rfl) ?_
            refine va_put (D := (dC, dI)) (ci := 3) (v := .int (nI y)) (ty := .int) (C := RX3) (T := TX3) (N := 8) hx hb hts in_X3 tyX3 tyX3_ok nmX3 hown hK hP hD hS 0 rfl rfl 7 (by decide) lk_2 (fun _ h9 => h9) rfl (by decide +kernel) rfl rfl (Nat.le_of_ble_eq_true rfl) dX3_protect_40 (fun H locs hP hD hS => ?_)
            have hP : va_P (dC, dI) vwCl (gw h kq sp k o b kp 0 y ++ kw cB k kl kb ++ ow cB o oz cs cd ++ sw cB cI b sz st us mem pl ln) H := hP
            have hD : va_D A (gw h kq sp k o b kp 0 y ++ kw cB k kl kb ++ ow cB o oz cs cd ++ sw cB cI b sz st us mem pl ln) := hD
            refine lv_iconst (v := (nI 1)) hx hb dX3_protect_43 (by decide) ?_
            have e_ga : 0 = pcA ga (nI x) (nI y) := by unfold pcA; rw [if_neg hnb, show cl (nI y) = y from nI_clamp n_y, if_pos (by omega)]
            have e_gl : y = pcL gl (nI x) (nI y) := by unfold pcL; rw [if_neg hnb, show cl (nI y) = y from nI_clamp n_y]
            have hP : va_P (dC, dI) vwCl (gw h kq sp k o b kp (pcA ga (nI x) (nI y)) (pcL gl (nI x) (nI y)) ++ kw cB k kl kb ++ ow cB o oz cs cd ++ sw cB cI b sz st us mem pl ln) H := by rw [← e_ga, ← e_gl]; exact hP
            have hD : va_D A (gw h kq sp k o b kp (pcA ga (nI x) (nI y)) (pcL gl (nI x) (nI y)) ++ kw cB k kl kb ++ ow cB o oz cs cd ++ sw cB cI b sz st us mem pl ln) := by rw [← e_ga, ← e_gl]; exact hD
            exact W.iret (v := (nI 1)) hx hb hr (fun t ht hW => ⟨⟨(nI 1), (), rfl, (show (nI 1) = pcR (nI x) (nI y) from by unfold pcR; rw [if_neg hnb]), by rw [ht]; exact hP, va_K.moved hW.alike hK, hD⟩, hS.F ht⟩) hS.2.2 dX3_protect_44
        · have c_19 : ¬ y ≤ 8192 := fun q => c_19 ((nI_leI (a := y) (b := 8192) (by omega) (by omega)).mpr q)
          refine lv_bipush (v := ((-11))) hx hb dX3_protect_22 (by decide) ?_
          have e_ga : ga = pcA ga (nI x) (nI y) := by unfold pcA; rw [if_pos (by first | exact Or.inl c_1 | exact Or.inr (Or.inl c_12) | exact Or.inr (Or.inr (Or.inl ((nI_ltI (by omega) (by omega)).mpr c_8))) | exact Or.inr (Or.inr (Or.inr ((nI_ltI (by omega) (by omega)).mpr (by omega)))))]
          have e_gl : gl = pcL gl (nI x) (nI y) := by unfold pcL; rw [if_pos (by first | exact Or.inl c_1 | exact Or.inr (Or.inl c_12) | exact Or.inr (Or.inr (Or.inl ((nI_ltI (by omega) (by omega)).mpr c_8))) | exact Or.inr (Or.inr (Or.inr ((nI_ltI (by omega) (by omega)).mpr (by omega)))))]
          have hP : va_P (dC, dI) vwCl (gw h kq sp k o b kp (pcA ga (nI x) (nI y)) (pcL gl (nI x) (nI y)) ++ kw cB k kl kb ++ ow cB o oz cs cd ++ sw cB cI b sz st us mem pl ln) s.heap := by rw [← e_ga, ← e_gl]; exact hP
          have hD : va_D A (gw h kq sp k o b kp (pcA ga (nI x) (nI y)) (pcL gl (nI x) (nI y)) ++ kw cB k kl kb ++ ow cB o oz cs cd ++ sw cB cI b sz st us mem pl ln) := by rw [← e_ga, ← e_gl]; exact hD
          exact W.iret (v := ((-11))) hx hb hr (fun t ht hW => ⟨⟨((-11)), (), rfl, (show ((-11)) = pcR (nI x) (nI y) from by unfold pcR; rw [if_pos (by first | exact Or.inl c_1 | exact Or.inr (Or.inl c_12) | exact Or.inr (Or.inr (Or.inl ((nI_ltI (by omega) (by omega)).mpr c_8))) | exact Or.inr (Or.inr (Or.inr ((nI_ltI (by omega) (by omega)).mpr (by omega)))))]), by rw [ht]; exact hP, va_K.moved hW.alike hK, hD⟩, hS.F ht⟩) hS.2.2 dX3_protect_24
set_option maxHeartbeats 4000000 in
set_option maxRecDepth 100000 in
theorem c_X3_code (l : Launch) (dC : Nat → ClassId) (dI : Nat → Nat → Nat) (cB cI : ClassId) (h kq : Nat) (sp : Option Nat) (k o b : Nat → Nat) (kp : Nat) (ga : Nat) (gl : Nat) (kl : Nat) (kb : Nat → Nat) (oz : Nat) (cs : Nat) (cd : Nat → Nat) (sz : Nat) (st : Nat) (us : Nat) (mem : Nat → Nat) (pl : Nat → Nat) (ln : Nat → Nat) (p1 : Int32) (gz : cs ≤ oz) (g0 : oz ≤ 20000) (bcd : ∀ j, cd j < 256) : Met l yX3_code wsX3_code ({ frames := 1, cells := 0, slots := 0, locals := 21 }) (va_Pc [.ref h, .int p1] (fun U => va_P (dC, dI) vwCl (gw h kq sp k o b kp ga gl ++ kw cB k kl kb ++ ow cB o oz cs cd ++ sw cB cI b sz st us mem pl ln) U.heap ∧ va_K (dC, dI) vwCl [(cI, .int), (cB, .byte)] U)) (vp_Si (fun r => r = cdR cs cd p1)) 0 0 (fun _ => False) := by
  refine Met.ofW (cc := cX3_code) (maxL := 2) (ret := (some .int)) (by decide) rfl ?_
  intro p e s m args below meth c s₁ B hml hv
  obtain ⟨rfl, hP, hK⟩ := hv
  have hx := B.exec
  have hb := B.bytes
  have hr := B.returns
  have hts := atoms_spec (ws := wsX3_code) B.pre
  have hown : s.vm.findClass RX3 = some m.cls := findClass_of_methodNamed B.named
  have hlocks := B.notSynchronized
  have in_X3 : ∀ w ∈ wsX30, w ∈ wsX3_code := fun _ h => List.mem_cons_of_mem _ (List.mem_append_left _ (List.mem_append_right _ (h)))
  have lk_1 := hts (.fieldLink RX3 25 "GlulxHeap" "script" "LGlulxHeap$Code;") (List.mem_of_getElem? (i := 1) rfl)
  have hl := lv_entry ([.ref h, .int p1]) (n := 2) (Nat.le_of_ble_eq_true rfl)
  rw [lg_entry_eq]
  generalize (lg_sl ([.ref h, .int p1]) ++ List.replicate (2 - (lg_sl ([.ref h, .int p1])).length) Slot.unset).toArray = ls at hl ⊢
  have hl : lv_has ls 2 [(0, .ref h), (1, .int p1)] := hl
  refine lv_aload_n hx hb dX3_code_0 rfl (lv_at hl 0 rfl) ?_
  refine va_get (D := (dC, dI)) (ci := 3) (v := .ref (o 0)) (C := RX3) (T := TX3) (N := 8) hx hb hts in_X3 hown hK hP 0 rfl rfl 2 (by decide) lk_1 (fun _ h9 => h9) rfl dX3_code_1 ?_
  refine lv_iload_n hx hb dX3_code_4 rfl (lv_at hl 1 rfl) ?_
  have hPc := hP.sub (ws' := ow cB o oz cs cd) [3, 4] rfl
  have hKc := hK.sub (tys' := [(cB, .byte)]) [1] rfl
  refine vp_callSi (W.runV (As := [.int p1]) (rest := []) ⟨hx, hb, hml, hown, hts⟩ (c_X0_has l dC dI cB o oz cs cd p1 (by omega)) (cwV 1 hts gX3_code_X0_has rfl rfl rfl (by decide +kernel) ⟨Nat.le_of_ble_eq_true rfl, Nat.le_of_ble_eq_true rfl⟩) ⟨fun a9 U g9 mk9 q9 => by obtain ⟨q0, qP, qK⟩ := q9; exact ⟨q0, qP, va_K.moved (u := U) (U := U.calling g9 mk9 a9) (Vm.Alike.refl U.vm) qK⟩, va_recv hKc hPc (ci := 0) (q0 := 0) rfl rfl, fun U hU hW => ⟨rfl, by rw [hU]; exact hPc, va_K.moved hW.alike hKc⟩⟩ rfl rfl hl.1 rfl (lv_room (Nat.le_of_ble_eq_true rfl)) dX3_code_5 ⟨Nat.zero_le _, Nat.zero_le _⟩) (fun r_5 hw => ?_)
  try dsimp only at hw
  rcases hw with ⟨hc_5, rfl⟩ | ⟨hc_5, rfl⟩
  · obtain ⟨x, n_x, rfl⟩ := nI_of hc_5.1
    have hxc : x < cs := by have q := hc_5.2; rw [show cl (nI x) = x from nI_clamp n_x] at q; exact q
    refine lv_if_eq (tgt := 22) hx hb dX3_code_8 (by decide) (fun c_8 => ?_) (fun c_8 => ?_)
    · exact absurd c_8 (by decide)
    · have c_8 : ¬ 1 = 0 := fun q => c_8 ((nZ_eq (by omega)).mpr q)
      refine lv_aload_n hx hb dX3_code_11 rfl (lv_at hl 0 rfl) ?_
      refine va_get (D := (dC, dI)) (ci := 3) (v := .ref (o 0)) (C := RX3) (T := TX3) (N := 8) hx hb hts in_X3 hown hK hP 0 rfl rfl 2 (by decide) lk_1 (fun _ h9 => h9) rfl dX3_code_12 ?_
      refine lv_iload_n hx hb dX3_code_15 rfl (lv_at hl 1 rfl) ?_
      have hPc := hP.sub (ws' := ow cB o oz cs cd) [3, 4] rfl
      have hKc := hK.sub (tys' := [(cB, .byte)]) [1] rfl
      refine vp_callSi (W.runV (As := [.int (nI x)]) (rest := []) ⟨hx, hb, hml, hown, hts⟩ (c_X0_byteAt l dC dI cB o oz cs cd x (by omega) (by omega) bcd) (cwV 1 hts gX3_code_X0_byteAt rfl rfl rfl (by decide +kernel) ⟨Nat.le_of_ble_eq_true rfl, Nat.le_of_ble_eq_true rfl⟩) ⟨fun a9 U g9 mk9 q9 => by obtain ⟨q0, qP, qK⟩ := q9; exact ⟨q0, qP, va_K.moved (u := U) (U := U.calling g9 mk9 a9) (Vm.Alike.refl U.vm) qK⟩, va_recv hKc hPc (ci := 0) (q0 := 0) rfl rfl, fun U hU hW => ⟨rfl, by rw [hU]; exact hPc, va_K.moved hW.alike hKc⟩⟩ rfl rfl hl.1 rfl (lv_room (Nat.le_of_ble_eq_true rfl)) dX3_code_16 ⟨Nat.zero_le _, Nat.zero_le _⟩) (fun r_16 hw => ?_)
      try dsimp only at hw
      subst hw
      have wy_16 := bcd x
      refine lv_goto (tgt := 23) hx hb dX3_code_19 (by decide) ?_
      exact W.iret (v := (nI (cd x))) hx hb hr (fun t ht hW => ⟨(nI (cd x)), rfl, (show (nI (cd x)) = cdR cs cd (nI x) from by unfold cdR; rw [if_neg (fun q => q.elim hc_5.1 (fun q => q hc_5.2)), show cl (nI x) = x from nI_clamp n_x]), ht⟩) (fun _ h9 => absurd h9 List.not_mem_nil) dX3_code_23
  · refine lv_if_eq (tgt := 22) hx hb dX3_code_8 (by decide) (fun c_8 => ?_) (fun c_8 => ?_)
    · have c_8 : 0 = 0 := (nZ_eq (by omega)).mp c_8
      refine lv_iconst (v := ((-1))) hx hb dX3_code_22 (by decide) ?_
      exact W.iret (v := ((-1))) hx hb hr (fun t ht hW => ⟨((-1)), rfl, (show ((-1)) = cdR cs cd p1 from by unfold cdR; rw [if_pos (by exact if z : p1 < 0 then Or.inl z else Or.inr (fun q => hc_5 ⟨z, q⟩))]), ht⟩) (fun _ h9 => absurd h9 List.not_mem_nil) dX3_code_23
    · exact absurd c_8 (by decide)
set_option maxHeartbeats 4000000 in
set_option maxRecDepth 100000 in
theorem c_X3_poke (l : Launch) (dC : Nat → ClassId) (dI : Nat → Nat → Nat) (cB cI : ClassId) (h kq : Nat) (sp : Option Nat) (k o b : Nat → Nat) (kp : Nat) (ga : Nat) (gl : Nat) (kl : Nat) (kb : Nat → Nat) (oz : Nat) (cs : Nat) (cd : Nat → Nat) (sz : Nat) (st : Nat) (us : Nat) (mem : Nat → Nat) (pl : Nat → Nat) (ln : Nat → Nat) (zz : Nat) (p1 p2 : Int32) (gz : cs ≤ oz) (g0 : oz ≤ 20000) (bcd : ∀ j, cd j < 256) : Met l yX3_poke wsX3_poke ({ frames := 1, cells := 0, slots := 0, locals := 21 }) (va_Pc [.ref h, .int p1, .int p2] (fun U => U.heap.size = zz ∧ va_P (dC, dI) vwCl (gw h kq sp k o b kp ga gl ++ kw cB k kl kb ++ ow cB o oz cs cd ++ sw cB cI b sz st us mem pl ln) U.heap ∧ va_K (dC, dI) vwCl [(cI, .int), (cB, .byte)] U ∧ va_D (fun _ => True) (gw h kq sp k o b kp ga gl ++ kw cB k kl kb ++ ow cB o oz cs cd ++ sw cB cI b sz st us mem pl ln))) (va_Qi (fun r _ => r = pkR cs cd p1 p2) (fun (_ : Unit) t => va_P (dC, dI) vwCl (gw h kq sp k o b kp ga gl ++ kw cB k kl kb ++ ow cB o oz cs (pkC cs cd p1 p2) ++ sw cB cI b sz st us mem pl ln) t.heap ∧ va_K (dC, dI) vwCl [(cI, .int), (cB, .byte)] t ∧ va_D (va_A (gw h kq sp k o b kp ga gl ++ kw cB k kl kb ++ ow cB o oz cs cd ++ sw cB cI b sz st us mem pl ln) zz) (gw h kq sp k o b kp ga gl ++ kw cB k kl kb ++ ow cB o oz cs (pkC cs cd p1 p2) ++ sw cB cI b sz st us mem pl ln)) (va_A (gw h kq sp k o b kp ga gl ++ kw cB k kl kb ++ ow cB o oz cs cd ++ sw cB cI b sz st us mem pl ln) zz)) 0 0 (va_A (gw h kq sp k o b kp ga gl ++ kw cB k kl kb ++ ow cB o oz cs cd ++ sw cB cI b sz st us mem pl ln) zz) := by
  refine Met.ofW (cc := cX3_poke) (maxL := 4) (ret := (some .int)) (by decide) rfl ?_
  intro p e s m args below meth c s₁ B hml hv
  obtain ⟨rfl, hsz, hP, hK, hD0⟩ := hv
  have hx := B.exec
  have hb := B.bytes
  have hr := B.returns
  have hts := atoms_spec (ws := wsX3_poke) B.pre
  have hown : s.vm.findClass RX3 = some m.cls := findClass_of_methodNamed B.named
  have hlocks := B.notSynchronized
  subst hsz
  have hD := hD0.self (sz := s.heap.size)
  generalize hAe : va_A (gw h kq sp k o b kp ga gl ++ kw cB k kl kb ++ ow cB o oz cs cd ++ sw cB cI b sz st us mem pl ln) s.heap.size = A at hD ⊢
  have hA : ∀ q : Nat, s.heap.size ≤ q → A q := fun q h => by rw [← hAe]; exact Or.inr h
  have hS : va_S A s.heap s.heap [] := va_S.rf
  have hP : va_P (dC, dI) vwCl (gw h kq sp k o b kp ga gl ++ kw cB k kl kb ++ ow cB o oz cs cd ++ sw cB cI b sz st us mem pl ln) s.heap := hP
  have in_X0 : ∀ w ∈ wsX00, w ∈ wsX3_poke := fun _ h => List.mem_cons_of_mem _ (List.mem_append_right _ (h))
  have in_X3 : ∀ w ∈ wsX30, w ∈ wsX3_poke := fun _ h => List.mem_cons_of_mem _ (List.mem_append_left _ (List.mem_append_right _ (h)))
  have lk_1 := hts (.fieldLink RX3 25 "GlulxHeap" "script" "LGlulxHeap$Code;") (List.mem_of_getElem? (i := 1) rfl)
  have lk_2 := hts (.fieldLink RX3 193 "GlulxHeap$Code" "bytes" "[B") (List.mem_of_getElem? (i := 2) rfl)
  have hl := lv_entry ([.ref h, .int p1, .int p2]) (n := 4) (Nat.le_of_ble_eq_true rfl)
  rw [lg_entry_eq]
  generalize (lg_sl ([.ref h, .int p1, .int p2]) ++ List.replicate (4 - (lg_sl ([.ref h, .int p1, .int p2])).length) Slot.unset).toArray = ls at hl ⊢
  have hl : lv_has ls 4 [(0, .ref h), (1, .int p1), (2, .int p2)] := hl
  refine lv_aload_n hx hb dX3_poke_0 rfl (lv_at hl 0 rfl) ?_
  refine va_get (D := (dC, dI)) (ci := 3) (v := .ref (o 0)) (C := RX3) (T := TX3) (N := 8) hx hb hts in_X3 hown hK hP 0 rfl rfl 2 (by decide) lk_1 (fun _ h9 => h9) rfl dX3_poke_1 ?_
  refine lv_iload_n hx hb dX3_poke_4 rfl (lv_at hl 1 rfl) ?_
  have hPc := hP.sub (ws' := ow cB o oz cs cd) [3, 4] rfl
  have hKc := hK.sub (tys' := [(cB, .byte)]) [1] rfl
  refine vp_callSi (W.runV (As := [.int p1]) (rest := []) ⟨hx, hb, hml, hown, hts⟩ (c_X0_has l dC dI cB o oz cs cd p1 (by omega)) (cwV 1 hts gX3_poke_X0_has rfl rfl rfl (by decide +kernel) ⟨Nat.le_of_ble_eq_true rfl, Nat.le_of_ble_eq_true rfl⟩) ⟨fun a9 U g9 mk9 q9 => by obtain ⟨q0, qP, qK⟩ := q9; exact ⟨q0, qP, va_K.moved (u := U) (U := U.calling g9 mk9 a9) (Vm.Alike.refl U.vm) qK⟩, va_recv hKc hPc (ci := 0) (q0 := 0) rfl rfl, fun U hU hW => ⟨rfl, by rw [hU]; exact hPc, va_K.moved hW.alike hKc⟩⟩ rfl rfl hl.1 rfl (lv_room (Nat.le_of_ble_eq_true rfl)) dX3_poke_5 ⟨Nat.zero_le _, Nat.zero_le _⟩) (fun r_5 hw => ?_)
  try dsimp only at hw
  rcases hw with ⟨hc_5, rfl⟩ | ⟨hc_5, rfl⟩
  · obtain ⟨x, n_x, rfl⟩ := nI_of hc_5.1
    have hxc : x < cs := by have q := hc_5.2; rw [show cl (nI x) = x from nI_clamp n_x] at q; exact q
    refine lv_if_eq (tgt := 22) hx hb dX3_poke_8 (by decide) (fun c_8 => ?_) (fun c_8 => ?_)
    · exact absurd c_8 (by decide)
    · have c_8 : ¬ 1 = 0 := fun q => c_8 ((nZ_eq (by omega)).mpr q)
      refine lv_iload_n hx hb dX3_poke_11 rfl (lv_at hl 2 rfl) ?_
      refine lv_if_lt (tgt := 22) hx hb dX3_poke_12 (by decide) (fun c_12 => ?_) (fun c_12 => ?_)
      · refine lv_bipush (v := ((-11))) hx hb dX3_poke_22 (by decide) ?_
        have e_cd : cd = pkC cs cd (nI x) p2 := by unfold pkC; rw [if_pos (by first | exact (if z : p1 < 0 then Or.inl z else Or.inr (Or.inl (fun q => hc_5 ⟨z, q⟩))) | exact Or.inr (Or.inr (Or.inl c_12)) | exact Or.inr (Or.inr (Or.inr ((nI_ltI (by omega) (by omega)).mpr (by omega)))))]
        have hP : va_P (dC, dI) vwCl (gw h kq sp k o b kp ga gl ++ kw cB k kl kb ++ ow cB o oz cs (pkC cs cd (nI x) p2) ++ sw cB cI b sz st us mem pl ln) s.heap := by rw [← e_cd]; exact hP
        have hD : va_D A (gw h kq sp k o b kp ga gl ++ kw cB k kl kb ++ ow cB o oz cs (pkC cs cd (nI x) p2) ++ sw cB cI b sz st us mem pl ln) := by rw [← e_cd]; exact hD
        exact W.iret (v := ((-11))) hx hb hr (fun t ht hW => ⟨⟨((-11)), (), rfl, (show ((-11)) = pkR cs cd (nI x) p2 from by unfold pkR; rw [if_pos (by first | exact (if z : p1 < 0 then Or.inl z else Or.inr (Or.inl (fun q => hc_5 ⟨z, q⟩))) | exact Or.inr (Or.inr (Or.inl c_12)) | exact Or.inr (Or.inr (Or.inr ((nI_ltI (by omega) (by omega)).mpr (by omega)))))]), by rw [ht]; exact hP, va_K.moved hW.alike hK, hD⟩, hS.F ht⟩) hS.2.2 dX3_poke_24
      · obtain ⟨y, n_y, rfl⟩ := nI_of c_12
        refine lv_iload_n hx hb dX3_poke_15 rfl (lv_at hl 2 rfl) ?_
        refine lv_sipush (v := (nI 255)) hx hb dX3_poke_16 (by decide) ?_
        refine lv_icmp_le (tgt := 25) hx hb dX3_poke_19 (by decide) (fun c_19 => ?_) (fun c_19 => ?_)
        · have c_19 : y ≤ 255 := (nI_leI (a := y) (b := 255) (by omega) (by omega)).mp c_19
          have hnb := pkB_no (cs := cs) (y := y) n_x hxc (by omega)
          refine lv_aload_n hx hb dX3_poke_25 rfl (lv_at hl 0 rfl) ?_
          refine va_get (D := (dC, dI)) (ci := 3) (v := .ref (o 0)) (C := RX3) (T := TX3) (N := 8) hx hb hts in_X3 hown hK hP 0 rfl rfl 2 (by decide) lk_1 (fun _ h9 => h9) rfl dX3_poke_26 ?_
          refine lv_iload_n hx hb dX3_poke_29 rfl (lv_at hl 1 rfl) ?_
          have hPc := hP.sub (ws' := ow cB o oz cs cd) [3, 4] rfl
          have hKc := hK.sub (tys' := [(cB, .byte)]) [1] rfl
          refine vp_callSi (W.runV (As := [.int (nI x)]) (rest := []) ⟨hx, hb, hml, hown, hts⟩ (c_X0_byteAt l dC dI cB o oz cs cd x (by omega) (by omega) bcd) (cwV 1 hts gX3_poke_X0_byteAt rfl rfl rfl (by decide +kernel) ⟨Nat.le_of_ble_eq_true rfl, Nat.le_of_ble_eq_true rfl⟩) ⟨fun a9 U g9 mk9 q9 => by obtain ⟨q0, qP, qK⟩ := q9; exact ⟨q0, qP, va_K.moved (u := U) (U := U.calling g9 mk9 a9) (Vm.Alike.refl U.vm) qK⟩, va_recv hKc hPc (ci := 0) (q0 := 0) rfl rfl, fun U hU hW => ⟨rfl, by rw [hU]; exact hPc, va_K.moved hW.alike hKc⟩⟩ rfl rfl hl.1 rfl (lv_room (Nat.le_of_ble_eq_true rfl)) dX3_poke_30 ⟨Nat.zero_le _, Nat.zero_le _⟩) (fun r_30 hw => ?_)
          try dsimp only at hw
          subst hw
          have wy_30 := bcd x
          refine lv_istore_n (lv' := [(3, .int (nI (cd x))), (0, .ref h), (1, .int (nI x)), (2, .int (nI y))]) hx hb dX3_poke_33 rfl hl (by decide) rfl (fun ls hl => ?_)
          refine lv_aload_n hx hb dX3_poke_34 rfl (lv_at hl 1 rfl) ?_
          refine va_get (D := (dC, dI)) (ci := 3) (v := .ref (o 0)) (C := RX3) (T := TX3) (N := 8) hx hb hts in_X3 hown hK hP 0 rfl rfl 2 (by decide) lk_1 (fun _ h9 => h9) rfl dX3_poke_35 ?_
          refine va_get (D := (dC, dI)) (ci := 0) (v := .ref (o 1)) (C := RX0) (T := TX0) (N := 2) hx hb hts in_X0 hown hK hP 3 rfl rfl 0 (by decide) lk_2 (fun _ h9 => h9) rfl dX3_poke_38 ?_
          refine lv_iload_n hx hb dX3_poke_41 rfl (lv_at hl 2 rfl) ?_
          refine lv_iload_n hx hb dX3_poke_42 rfl (lv_at hl 3 rfl) ?_
          refine lv_i2b (v := sb_b y) hx hb dX3_poke_43 rfl ?_
          refine va_bast hx hb hK hP hD hS 4 1 rfl rfl (vp_in_nI (by omega) (by omega)) dX3_poke_44 (fun H locs hP hD hS => ?_)
          rw [bf_up (by omega)] at hP hD
          have hP : va_P (dC, dI) vwCl (gw h kq sp k o b kp ga gl ++ kw cB k kl kb ++ ow cB o oz cs (va_up cd x y) ++ sw cB cI b sz st us mem pl ln) H := hP
          have hD : va_D A (gw h kq sp k o b kp ga gl ++ kw cB k kl kb ++ ow cB o oz cs (va_up cd x y) ++ sw cB cI b sz st us mem pl ln) := hD
          refine lv_iload_n hx hb dX3_poke_45 rfl (lv_at hl 0 rfl) ?_
          have e_cd : va_up cd x y = pkC cs cd (nI x) (nI y) := by unfold pkC; rw [if_neg hnb, show cl (nI x) = x from nI_clamp n_x, show cl (nI y) = y from nI_clamp n_y]
          have hP : va_P (dC, dI) vwCl (gw h kq sp k o b kp ga gl ++ kw cB k kl kb ++ ow cB o oz cs (pkC cs cd (nI x) (nI y)) ++ sw cB cI b sz st us mem pl ln) H := by rw [← e_cd]; exact hP
          have hD : va_D A (gw h kq sp k o b kp ga gl ++ kw cB k kl kb ++ ow cB o oz cs (pkC cs cd (nI x) (nI y)) ++ sw cB cI b sz st us mem pl ln) := by rw [← e_cd]; exact hD
          exact W.iret (v := (nI (cd x))) hx hb hr (fun t ht hW => ⟨⟨(nI (cd x)), (), rfl, (show (nI (cd x)) = pkR cs cd (nI x) (nI y) from by unfold pkR; rw [if_neg hnb, show cl (nI x) = x from nI_clamp n_x]), by rw [ht]; exact hP, va_K.moved hW.alike hK, hD⟩, hS.F ht⟩) hS.2.2 dX3_poke_46
        · have c_19 : ¬ y ≤ 255 := fun q => c_19 ((nI_leI (a := y) (b := 255) (by omega) (by omega)).mpr q)
          refine lv_bipush (v := ((-11))) hx hb dX3_poke_22 (by decide) ?_
          have e_cd : cd = pkC cs cd (nI x) (nI y) := by unfold pkC; rw [if_pos (by first | exact (if z : p1 < 0 then Or.inl z else Or.inr (Or.inl (fun q => hc_5 ⟨z, q⟩))) | exact Or.inr (Or.inr (Or.inl c_12)) | exact Or.inr (Or.inr (Or.inr ((nI_ltI (by omega) (by omega)).mpr (by omega)))))]
          have hP : va_P (dC, dI) vwCl (gw h kq sp k o b kp ga gl ++ kw cB k kl kb ++ ow cB o oz cs (pkC cs cd (nI x) (nI y)) ++ sw cB cI b sz st us mem pl ln) s.heap := by rw [← e_cd]; exact hP
          have hD : va_D A (gw h kq sp k o b kp ga gl ++ kw cB k kl kb ++ ow cB o oz cs (pkC cs cd (nI x) (nI y)) ++ sw cB cI b sz st us mem pl ln) := by rw [← e_cd]; exact hD
          exact W.iret (v := ((-11))) hx hb hr (fun t ht hW => ⟨⟨((-11)), (), rfl, (show ((-11)) = pkR cs cd (nI x) (nI y) from by unfold pkR; rw [if_pos (by first | exact (if z : p1 < 0 then Or.inl z else Or.inr (Or.inl (fun q => hc_5 ⟨z, q⟩))) | exact Or.inr (Or.inr (Or.inl c_12)) | exact Or.inr (Or.inr (Or.inr ((nI_ltI (by omega) (by omega)).mpr (by omega)))))]), by rw [ht]; exact hP, va_K.moved hW.alike hK, hD⟩, hS.F ht⟩) hS.2.2 dX3_poke_24
  · refine lv_if_eq (tgt := 22) hx hb dX3_poke_8 (by decide) (fun c_8 => ?_) (fun c_8 => ?_)
    · have c_8 : 0 = 0 := (nZ_eq (by omega)).mp c_8
      refine lv_bipush (v := ((-11))) hx hb dX3_poke_22 (by decide) ?_
      have e_cd : cd = pkC cs cd p1 p2 := by unfold pkC; rw [if_pos (by first | exact (if z : p1 < 0 then Or.inl z else Or.inr (Or.inl (fun q => hc_5 ⟨z, q⟩))) | exact Or.inr (Or.inr (Or.inl c_12)) | exact Or.inr (Or.inr (Or.inr ((nI_ltI (by omega) (by omega)).mpr (by omega)))))]
      have hP : va_P (dC, dI) vwCl (gw h kq sp k o b kp ga gl ++ kw cB k kl kb ++ ow cB o oz cs (pkC cs cd p1 p2) ++ sw cB cI b sz st us mem pl ln) s.heap := by rw [← e_cd]; exact hP
      have hD : va_D A (gw h kq sp k o b kp ga gl ++ kw cB k kl kb ++ ow cB o oz cs (pkC cs cd p1 p2) ++ sw cB cI b sz st us mem pl ln) := by rw [← e_cd]; exact hD
      exact W.iret (v := ((-11))) hx hb hr (fun t ht hW => ⟨⟨((-11)), (), rfl, (show ((-11)) = pkR cs cd p1 p2 from by unfold pkR; rw [if_pos (by first | exact (if z : p1 < 0 then Or.inl z else Or.inr (Or.inl (fun q => hc_5 ⟨z, q⟩))) | exact Or.inr (Or.inr (Or.inl c_12)) | exact Or.inr (Or.inr (Or.inr ((nI_ltI (by omega) (by omega)).mpr (by omega)))))]), by rw [ht]; exact hP, va_K.moved hW.alike hK, hD⟩, hS.F ht⟩) hS.2.2 dX3_poke_24
    · exact absurd c_8 (by decide)
set_option maxHeartbeats 4000000 in
set_option maxRecDepth 100000 in
theorem c_X3_cut (l : Launch) (dC : Nat → ClassId) (dI : Nat → Nat → Nat) (cB cI : ClassId) (h kq : Nat) (sp : Option Nat) (k o b : Nat → Nat) (kp : Nat) (ga : Nat) (gl : Nat) (kl : Nat) (kb : Nat → Nat) (oz : Nat) (cs : Nat) (cd : Nat → Nat) (sz : Nat) (st : Nat) (us : Nat) (mem : Nat → Nat) (pl : Nat → Nat) (ln : Nat → Nat) (zz : Nat) (p1 : Int32) (gc : cs ≤ 20000) : Met l yX3_cut wsX3_cut ({ frames := 0, cells := 0, slots := 0, locals := 0 }) (va_Pc [.ref h, .int p1] (fun U => U.heap.size = zz ∧ va_P (dC, dI) vwCl (gw h kq sp k o b kp ga gl ++ kw cB k kl kb ++ ow cB o oz cs cd ++ sw cB cI b sz st us mem pl ln) U.heap ∧ va_K (dC, dI) vwCl [(cI, .int), (cB, .byte)] U ∧ va_D (fun _ => True) (gw h kq sp k o b kp ga gl ++ kw cB k kl kb ++ ow cB o oz cs cd ++ sw cB cI b sz st us mem pl ln))) (va_Qi (fun r _ => r = ctR cs p1) (fun (_ : Unit) t => va_P (dC, dI) vwCl (gw h kq sp k o b kp ga gl ++ kw cB k kl kb ++ ow cB o oz (ctS cs p1) cd ++ sw cB cI b sz st us mem pl ln) t.heap ∧ va_K (dC, dI) vwCl [(cI, .int), (cB, .byte)] t ∧ va_D (va_A (gw h kq sp k o b kp ga gl ++ kw cB k kl kb ++ ow cB o oz cs cd ++ sw cB cI b sz st us mem pl ln) zz) (gw h kq sp k o b kp ga gl ++ kw cB k kl kb ++ ow cB o oz (ctS cs p1) cd ++ sw cB cI b sz st us mem pl ln)) (va_A (gw h kq sp k o b kp ga gl ++ kw cB k kl kb ++ ow cB o oz cs cd ++ sw cB cI b sz st us mem pl ln) zz)) 0 0 (va_A (gw h kq sp k o b kp ga gl ++ kw cB k kl kb ++ ow cB o oz cs cd ++ sw cB cI b sz st us mem pl ln) zz) := by
  refine Met.ofW (cc := cX3_cut) (maxL := 3) (ret := (some .int)) (by decide) rfl ?_
  intro p e s m args below meth c s₁ B hml hv
  obtain ⟨rfl, hsz, hP, hK, hD0⟩ := hv
  have hx := B.exec
  have hb := B.bytes
  have hr := B.returns
  have hts := atoms_spec (ws := wsX3_cut) B.pre
  have hown : s.vm.findClass RX3 = some m.cls := findClass_of_methodNamed B.named
  have hlocks := B.notSynchronized
  subst hsz
  have hD := hD0.self (sz := s.heap.size)
  generalize hAe : va_A (gw h kq sp k o b kp ga gl ++ kw cB k kl kb ++ ow cB o oz cs cd ++ sw cB cI b sz st us mem pl ln) s.heap.size = A at hD ⊢
  have hA : ∀ q : Nat, s.heap.size ≤ q → A q := fun q h => by rw [← hAe]; exact Or.inr h
  have hS : va_S A s.heap s.heap [] := va_S.rf
  have hP : va_P (dC, dI) vwCl (gw h kq sp k o b kp ga gl ++ kw cB k kl kb ++ ow cB o oz cs cd ++ sw cB cI b sz st us mem pl ln) s.heap := hP
  have in_X0 : ∀ w ∈ wsX00, w ∈ wsX3_cut := fun _ h => List.mem_cons_of_mem _ (List.mem_append_right _ (h))
  have in_X3 : ∀ w ∈ wsX30, w ∈ wsX3_cut := fun _ h => List.mem_cons_of_mem _ (List.mem_append_left _ (List.mem_append_right _ (h)))
  have lk_1 := hts (.fieldLink RX3 25 "GlulxHeap" "script" "LGlulxHeap$Code;") (List.mem_of_getElem? (i := 1) rfl)
  have lk_2 := hts (.fieldLink RX3 187 "GlulxHeap$Code" "length" "I") (List.mem_of_getElem? (i := 2) rfl)
  have hl := lv_entry ([.ref h, .int p1]) (n := 3) (Nat.le_of_ble_eq_true rfl)
  rw [lg_entry_eq]
  generalize (lg_sl ([.ref h, .int p1]) ++ List.replicate (3 - (lg_sl ([.ref h, .int p1])).length) Slot.unset).toArray = ls at hl ⊢
  have hl : lv_has ls 3 [(0, .ref h), (1, .int p1)] := hl
  refine lv_iload_n hx hb dX3_cut_0 rfl (lv_at hl 1 rfl) ?_
  refine lv_if_lt (tgt := 15) hx hb dX3_cut_1 (by decide) (fun c_1 => ?_) (fun c_1 => ?_)
  · refine lv_bipush (v := ((-11))) hx hb dX3_cut_15 (by decide) ?_
    have e_cs : cs = ctS cs p1 := by unfold ctS; rw [if_pos (Or.inl c_1)]
    have hP : va_P (dC, dI) vwCl (gw h kq sp k o b kp ga gl ++ kw cB k kl kb ++ ow cB o oz (ctS cs p1) cd ++ sw cB cI b sz st us mem pl ln) s.heap := by rw [← e_cs]; exact hP
    have hD : va_D A (gw h kq sp k o b kp ga gl ++ kw cB k kl kb ++ ow cB o oz (ctS cs p1) cd ++ sw cB cI b sz st us mem pl ln) := by rw [← e_cs]; exact hD
    exact W.iret (v := ((-11))) hx hb hr (fun t ht hW => ⟨⟨((-11)), (), rfl, (show ((-11)) = ctR cs p1 from by unfold ctR; rw [if_pos (Or.inl c_1)]), by rw [ht]; exact hP, va_K.moved hW.alike hK, hD⟩, hS.F ht⟩) hS.2.2 dX3_cut_17
  · obtain ⟨x, n_x, rfl⟩ := nI_of c_1
    refine lv_iload_n hx hb dX3_cut_4 rfl (lv_at hl 1 rfl) ?_
    refine lv_aload_n hx hb dX3_cut_5 rfl (lv_at hl 0 rfl) ?_
    refine va_get (D := (dC, dI)) (ci := 3) (v := .ref (o 0)) (C := RX3) (T := TX3) (N := 8) hx hb hts in_X3 hown hK hP 0 rfl rfl 2 (by decide) lk_1 (fun _ h9 => h9) rfl dX3_cut_6 ?_
    refine va_get (D := (dC, dI)) (ci := 0) (v := .int (nI cs)) (C := RX0) (T := TX0) (N := 2) hx hb hts in_X0 hown hK hP 3 rfl rfl 1 (by decide) lk_2 (fun _ h9 => h9) rfl dX3_cut_9 ?_
    refine lv_icmp_le (tgt := 18) hx hb dX3_cut_12 (by decide) (fun c_12 => ?_) (fun c_12 => ?_)
    · have c_12 : x ≤ cs := (nI_leI (a := x) (b := cs) (by omega) (by omega)).mp c_12
      refine lv_aload_n hx hb dX3_cut_18 rfl (lv_at hl 0 rfl) ?_
      refine va_get (D := (dC, dI)) (ci := 3) (v := .ref (o 0)) (C := RX3) (T := TX3) (N := 8) hx hb hts in_X3 hown hK hP 0 rfl rfl 2 (by decide) lk_1 (fun _ h9 => h9) rfl dX3_cut_19 ?_
      refine va_get (D := (dC, dI)) (ci := 0) (v := .int (nI cs)) (C := RX0) (T := TX0) (N := 2) hx hb hts in_X0 hown hK hP 3 rfl rfl 1 (by decide) lk_2 (fun _ h9 => h9) rfl dX3_cut_22 ?_
      refine lv_iload_n hx hb dX3_cut_25 rfl (lv_at hl 1 rfl) ?_
      refine lv_isub hx hb dX3_cut_26 ?_
      refine tpi (pk_sub (by omega)) ?_
      refine lv_istore_n (lv' := [(2, .int (nI (cs - x))), (0, .ref h), (1, .int (nI x))]) hx hb dX3_cut_27 rfl hl (by decide) rfl (fun ls hl => ?_)
      refine lv_aload_n hx hb dX3_cut_28 rfl (lv_at hl 1 rfl) ?_
      refine va_get (D := (dC, dI)) (ci := 3) (v := .ref (o 0)) (C := RX3) (T := TX3) (N := 8) hx hb hts in_X3 hown hK hP 0 rfl rfl 2 (by decide) lk_1 (fun _ h9 => h9) rfl dX3_cut_29 ?_
      refine lv_iload_n hx hb dX3_cut_32 rfl (lv_at hl 2 rfl) ?_
      refine va_put (D := (dC, dI)) (ci := 0) (v := .int (nI x)) (ty := .int) (C := RX0) (T := TX0) (N := 2) hx hb hts in_X0 tyX0 tyX0_ok nmX0 hown hK hP hD hS 3 rfl rfl 1 (by decide) lk_2 (fun _ h9 => h9) rfl (by decide +kernel) rfl rfl (Nat.le_of_ble_eq_true rfl) dX3_cut_33 (fun H locs hP hD hS => ?_)
      have hP : va_P (dC, dI) vwCl (gw h kq sp k o b kp ga gl ++ kw cB k kl kb ++ ow cB o oz x cd ++ sw cB cI b sz st us mem pl ln) H := hP
      have hD : va_D A (gw h kq sp k o b kp ga gl ++ kw cB k kl kb ++ ow cB o oz x cd ++ sw cB cI b sz st us mem pl ln) := hD
      refine lv_iload_n hx hb dX3_cut_36 rfl (lv_at hl 0 rfl) ?_
      have e_cs : x = ctS cs (nI x) := by unfold ctS; rw [if_neg (fun q => q.elim c_1 (fun q => absurd q (by rw [show cl (nI x) = x from nI_clamp n_x]; omega))), show cl (nI x) = x from nI_clamp n_x]
      have hP : va_P (dC, dI) vwCl (gw h kq sp k o b kp ga gl ++ kw cB k kl kb ++ ow cB o oz (ctS cs (nI x)) cd ++ sw cB cI b sz st us mem pl ln) H := by rw [← e_cs]; exact hP
      have hD : va_D A (gw h kq sp k o b kp ga gl ++ kw cB k kl kb ++ ow cB o oz (ctS cs (nI x)) cd ++ sw cB cI b sz st us mem pl ln) := by rw [← e_cs]; exact hD
      exact W.iret (v := (nI (cs - x))) hx hb hr (fun t ht hW => ⟨⟨(nI (cs - x)), (), rfl, (show (nI (cs - x)) = ctR cs (nI x) from by unfold ctR; rw [if_neg (fun q => q.elim c_1 (fun q => absurd q (by rw [show cl (nI x) = x from nI_clamp n_x]; omega))), show cl (nI x) = x from nI_clamp n_x]), by rw [ht]; exact hP, va_K.moved hW.alike hK, hD⟩, hS.F ht⟩) hS.2.2 dX3_cut_37
    · have c_12 : ¬ x ≤ cs := fun q => c_12 ((nI_leI (a := x) (b := cs) (by omega) (by omega)).mpr q)
      refine lv_bipush (v := ((-11))) hx hb dX3_cut_15 (by decide) ?_
      have e_cs : cs = ctS cs (nI x) := by unfold ctS; rw [if_pos (Or.inr (by rw [show cl (nI x) = x from nI_clamp n_x]; omega))]
      have hP : va_P (dC, dI) vwCl (gw h kq sp k o b kp ga gl ++ kw cB k kl kb ++ ow cB o oz (ctS cs (nI x)) cd ++ sw cB cI b sz st us mem pl ln) s.heap := by rw [← e_cs]; exact hP
      have hD : va_D A (gw h kq sp k o b kp ga gl ++ kw cB k kl kb ++ ow cB o oz (ctS cs (nI x)) cd ++ sw cB cI b sz st us mem pl ln) := by rw [← e_cs]; exact hD
      exact W.iret (v := ((-11))) hx hb hr (fun t ht hW => ⟨⟨((-11)), (), rfl, (show ((-11)) = ctR cs (nI x) from by unfold ctR; rw [if_pos (Or.inr (by rw [show cl (nI x) = x from nI_clamp n_x]; omega))]), by rw [ht]; exact hP, va_K.moved hW.alike hK, hD⟩, hS.F ht⟩) hS.2.2 dX3_cut_17
set_option maxHeartbeats 4000000 in
set_option maxRecDepth 100000 in
theorem c_X3_block (l : Launch) (dC : Nat → ClassId) (dI : Nat → Nat → Nat) (cB cI : ClassId) (h kq : Nat) (sp : Option Nat) (k o b : Nat → Nat) (kp : Nat) (ga : Nat) (gl : Nat) (kl : Nat) (kb : Nat → Nat) (oz : Nat) (cs : Nat) (cd : Nat → Nat) (sz : Nat) (st : Nat) (us : Nat) (mem : Nat → Nat) (pl : Nat → Nat) (ln : Nat → Nat) (p1 p2 : Int32) (gw9 : wfB sz st us pl ln) : Met l yX3_block wsX3_block ({ frames := 2, cells := 0, slots := 0, locals := 43 }) (va_Pc [.ref h, .int p1, .int p2] (fun U => va_P (dC, dI) vwCl (gw h kq sp k o b kp ga gl ++ kw cB k kl kb ++ ow cB o oz cs cd ++ sw cB cI b sz st us mem pl ln) U.heap ∧ va_K (dC, dI) vwCl [(cI, .int), (cB, .byte)] U)) (vp_Si (fun r => r = bkR sz st us pl ln p1 p2)) 0 0 (fun _ => False) := by
  refine Met.ofW (cc := cX3_block) (maxL := 3) (ret := (some .int)) (by decide) rfl ?_
  intro p e s m args below meth c s₁ B hml hv
  obtain ⟨rfl, hP, hK⟩ := hv
  have hx := B.exec
  have hb := B.bytes
  have hr := B.returns
  have hts := atoms_spec (ws := wsX3_block) B.pre
  have hown : s.vm.findClass RX3 = some m.cls := findClass_of_methodNamed B.named
  have hlocks := B.notSynchronized
  have in_X2 : ∀ w ∈ wsX20, w ∈ wsX3_block := fun _ h => List.mem_cons_of_mem _ (List.mem_append_right _ (h))
  have in_X3 : ∀ w ∈ wsX30, w ∈ wsX3_block := fun _ h => List.mem_cons_of_mem _ (List.mem_append_left _ (List.mem_append_right _ (h)))
  have lk_1 := hts (.fieldLink RX3 30 "GlulxHeap" "now" "LGlulxHeap$State;") (List.mem_of_getElem? (i := 1) rfl)
  have lk_2 := hts (.fieldLink RX3 80 "GlulxHeap$State" "used" "I") (List.mem_of_getElem? (i := 2) rfl)
  have lk_3 := hts (.fieldLink RX3 111 "GlulxHeap$State" "places" "[I") (List.mem_of_getElem? (i := 3) rfl)
  have lk_4 := hts (.fieldLink RX3 104 "GlulxHeap$State" "lengths" "[I") (List.mem_of_getElem? (i := 4) rfl)
  have hl := lv_entry ([.ref h, .int p1, .int p2]) (n := 3) (Nat.le_of_ble_eq_true rfl)
  rw [lg_entry_eq]
  generalize (lg_sl ([.ref h, .int p1, .int p2]) ++ List.replicate (3 - (lg_sl ([.ref h, .int p1, .int p2])).length) Slot.unset).toArray = ls at hl ⊢
  have hl : lv_has ls 3 [(0, .ref h), (1, .int p1), (2, .int p2)] := hl
  obtain ⟨gw1, gw2, gw3, gw4, gw5, gw6⟩ := id gw9
  refine lv_iload_n hx hb dX3_block_0 rfl (lv_at hl 1 rfl) ?_
  refine lv_if_lt (tgt := 15) hx hb dX3_block_1 (by decide) (fun c_1 => ?_) (fun c_1 => ?_)
  · refine lv_bipush (v := ((-11))) hx hb dX3_block_15 (by decide) ?_
    exact W.iret (v := ((-11))) hx hb hr (fun t ht hW => ⟨((-11)), rfl, (show ((-11)) = bkR sz st us pl ln p1 p2 from (bkR_w (Or.inl c_1)).symm), ht⟩) (fun _ h9 => absurd h9 List.not_mem_nil) dX3_block_17
  · obtain ⟨x, n_x, rfl⟩ := nI_of c_1
    refine lv_iload_n hx hb dX3_block_4 rfl (lv_at hl 1 rfl) ?_
    refine lv_aload_n hx hb dX3_block_5 rfl (lv_at hl 0 rfl) ?_
    refine va_get (D := (dC, dI)) (ci := 3) (v := .ref (b 0)) (C := RX3) (T := TX3) (N := 8) hx hb hts in_X3 hown hK hP 0 rfl rfl 3 (by decide) lk_1 (fun _ h9 => h9) rfl dX3_block_6 ?_
    refine va_get (D := (dC, dI)) (ci := 2) (v := .int (nI us)) (C := RX2) (T := TX2) (N := 6) hx hb hts in_X2 hown hK hP 5 rfl rfl 5 (by decide) lk_2 (fun _ h9 => h9) rfl dX3_block_9 ?_
    refine lv_icmp_lt (tgt := 18) hx hb dX3_block_12 (by decide) (fun c_12 => ?_) (fun c_12 => ?_)
    · have c_12 : x < us := (nI_ltI (a := x) (b := us) (by omega) (by omega)).mp c_12
      refine lv_iload_n hx hb dX3_block_18 rfl (lv_at hl 2 rfl) ?_
      rcases tsw p2 (n := 2) (by decide) with hout | ⟨j9, hj9, rfl⟩
      · refine lv_tableOut (tgt := 75) hx hb dX3_block_19 hout (by decide) ?_
        refine lv_bipush (v := ((-11))) hx hb dX3_block_75 (by decide) ?_
        exact W.iret (v := ((-11))) hx hb hr (fun t ht hW => ⟨((-11)), rfl, (show ((-11)) = bkR sz st us pl ln (nI x) p2 from (bkR_w (Or.inr (Or.inr (tsw_out hout)))).symm), ht⟩) (fun _ h9 => absurd h9 List.not_mem_nil) dX3_block_77
      · rcases (show j9 = 0 ∨ j9 = 1 ∨ j9 = 2 by omega) with rfl | rfl | rfl
        · refine lv_tableIn (off := 25) (tgt := 44) hx hb dX3_block_19 (by decide) (by decide) rfl (by decide) ?_
          refine lv_aload_n hx hb dX3_block_44 rfl (lv_at hl 0 rfl) ?_
          refine va_get (D := (dC, dI)) (ci := 3) (v := .ref (b 0)) (C := RX3) (T := TX3) (N := 8) hx hb hts in_X3 hown hK hP 0 rfl rfl 3 (by decide) lk_1 (fun _ h9 => h9) rfl dX3_block_45 ?_
          refine va_get (D := (dC, dI)) (ci := 2) (v := .ref (b 2)) (C := RX2) (T := TX2) (N := 6) hx hb hts in_X2 hown hK hP 5 rfl rfl 1 (by decide) lk_3 (fun _ h9 => h9) rfl dX3_block_48 ?_
          refine lv_iload_n hx hb dX3_block_51 rfl (lv_at hl 1 rfl) ?_
          refine va_iald hx hb hK hP 7 0 rfl rfl (vp_in_nI (by omega) (by omega)) dX3_block_52 ?_
          refine tpi (nf_at (by omega)) ?_
          exact W.iret (v := (nI (pl x))) hx hb hr (fun t ht hW => ⟨(nI (pl x)), rfl, (show (nI (pl x)) = bkR sz st us pl ln (nI x) (nI 0) from by rw [bkR_ok n_x (by omega) (by omega) (by omega), if_pos rfl]), ht⟩) (fun _ h9 => absurd h9 List.not_mem_nil) dX3_block_53
        · refine lv_tableIn (off := 35) (tgt := 54) hx hb dX3_block_19 (by decide) (by decide) rfl (by decide) ?_
          refine lv_aload_n hx hb dX3_block_54 rfl (lv_at hl 0 rfl) ?_
          refine va_get (D := (dC, dI)) (ci := 3) (v := .ref (b 0)) (C := RX3) (T := TX3) (N := 8) hx hb hts in_X3 hown hK hP 0 rfl rfl 3 (by decide) lk_1 (fun _ h9 => h9) rfl dX3_block_55 ?_
          refine va_get (D := (dC, dI)) (ci := 2) (v := .ref (b 3)) (C := RX2) (T := TX2) (N := 6) hx hb hts in_X2 hown hK hP 5 rfl rfl 2 (by decide) lk_4 (fun _ h9 => h9) rfl dX3_block_58 ?_
          refine lv_iload_n hx hb dX3_block_61 rfl (lv_at hl 1 rfl) ?_
          refine va_iald hx hb hK hP 8 0 rfl rfl (vp_in_nI (by omega) (by omega)) dX3_block_62 ?_
          refine tpi (nf_at (by omega)) ?_
          exact W.iret (v := (nI (ln x))) hx hb hr (fun t ht hW => ⟨(nI (ln x)), rfl, (show (nI (ln x)) = bkR sz st us pl ln (nI x) (nI 1) from by rw [bkR_ok n_x (by omega) (by omega) (by omega), if_neg (by omega), if_pos rfl]), ht⟩) (fun _ h9 => absurd h9 List.not_mem_nil) dX3_block_63
        · refine lv_tableIn (off := 45) (tgt := 64) hx hb dX3_block_19 (by decide) (by decide) rfl (by decide) ?_
          refine lv_aload_n hx hb dX3_block_64 rfl (lv_at hl 0 rfl) ?_
          refine va_get (D := (dC, dI)) (ci := 3) (v := .ref (b 0)) (C := RX3) (T := TX3) (N := 8) hx hb hts in_X3 hown hK hP 0 rfl rfl 3 (by decide) lk_1 (fun _ h9 => h9) rfl dX3_block_65 ?_
          refine lv_iload_n hx hb dX3_block_68 rfl (lv_at hl 1 rfl) ?_
          refine lv_iconst (v := (nI 1)) hx hb dX3_block_69 (by decide) ?_
          refine lv_iadd hx hb dX3_block_70 ?_
          refine tpi (nI_add _ _) ?_
          have hPc := hP.sub (ws' := sw cB cI b sz st us mem pl ln) [5, 6, 7, 8] rfl
          have hKc := hK.sub (tys' := [(cI, .int), (cB, .byte)]) [0, 1] rfl
          refine vp_callSi (W.runV (As := [.int (nI (x + 1))]) (rest := []) ⟨hx, hb, hml, hown, hts⟩ (c_X2_gapLength l dC dI cB cI b sz st us mem pl ln (x + 1) gw9 (by omega)) (cwV 1 hts gX3_block_X2_gapLength rfl rfl rfl (by decide +kernel) ⟨Nat.le_of_ble_eq_true rfl, Nat.le_of_ble_eq_true rfl⟩) ⟨fun a9 U g9 mk9 q9 => by obtain ⟨q0, qP, qK⟩ := q9; exact ⟨q0, qP, va_K.moved (u := U) (U := U.calling g9 mk9 a9) (Vm.Alike.refl U.vm) qK⟩, va_recv hKc hPc (ci := 2) (q0 := 0) rfl rfl, fun U hU hW => ⟨rfl, by rw [hU]; exact hPc, va_K.moved hW.alike hKc⟩⟩ rfl rfl hl.1 rfl (lv_room (Nat.le_of_ble_eq_true rfl)) dX3_block_71 ⟨Nat.zero_le _, Nat.zero_le _⟩) (fun r_71 hw => ?_)
          try dsimp only at hw
          subst hw
          exact W.iret (v := (nI (gEn sz us pl (x + 1) - gB sz st us pl ln (x + 1)))) hx hb hr (fun t ht hW => ⟨(nI (gEn sz us pl (x + 1) - gB sz st us pl ln (x + 1))), rfl, (show (nI (gEn sz us pl (x + 1) - gB sz st us pl ln (x + 1))) = bkR sz st us pl ln (nI x) (nI 2) from by rw [bkR_ok n_x (by omega) (by omega) (by omega), if_neg (by omega), if_neg (by omega), gB_at (by omega)]), ht⟩) (fun _ h9 => absurd h9 List.not_mem_nil) dX3_block_74
    · have c_12 : ¬ x < us := fun q => c_12 ((nI_ltI (a := x) (b := us) (by omega) (by omega)).mpr q)
      refine lv_bipush (v := ((-11))) hx hb dX3_block_15 (by decide) ?_
      exact W.iret (v := ((-11))) hx hb hr (fun t ht hW => ⟨((-11)), rfl, (show ((-11)) = bkR sz st us pl ln (nI x) p2 from (bkR_w (Or.inr (Or.inl (by rw [show cl (nI x) = x from nI_clamp n_x]; omega)))).symm), ht⟩) (fun _ h9 => absurd h9 List.not_mem_nil) dX3_block_17
set_option maxHeartbeats 4000000 in
set_option maxRecDepth 100000 in
theorem c_X3_told (l : Launch) (dC : Nat → ClassId) (dI : Nat → Nat → Nat) (cB cI : ClassId) (h kq : Nat) (sp : Option Nat) (k o b : Nat → Nat) (kp : Nat) (ga : Nat) (gl : Nat) (kl : Nat) (kb : Nat → Nat) (oz : Nat) (cs : Nat) (cd : Nat → Nat) (sz : Nat) (st : Nat) (us : Nat) (mem : Nat → Nat) (pl : Nat → Nat) (ln : Nat → Nat) (p1 : Int32) (gw9 : wfB sz st us pl ln) : Met l yX3_told wsX3_told ({ frames := 3, cells := 0, slots := 0, locals := 65 }) (va_Pc [.ref h, .int p1] (fun U => va_P (dC, dI) vwCl (gw h kq sp k o b kp ga gl ++ kw cB k kl kb ++ ow cB o oz cs cd ++ sw cB cI b sz st us mem pl ln) U.heap ∧ va_K (dC, dI) vwCl [(cI, .int), (cB, .byte)] U)) (vp_Si (fun r => r = tdR sz st us kp ga gl cs pl ln p1)) 0 0 (fun _ => False) := by
  refine Met.ofW (cc := cX3_told) (maxL := 2) (ret := (some .int)) (by decide) rfl ?_
  intro p e s m args below meth c s₁ B hml hv
  obtain ⟨rfl, hP, hK⟩ := hv
  have hx := B.exec
  have hb := B.bytes
  have hr := B.returns
  have hts := atoms_spec (ws := wsX3_told) B.pre
  have hown : s.vm.findClass RX3 = some m.cls := findClass_of_methodNamed B.named
  have hlocks := B.notSynchronized
  have in_X0 : ∀ w ∈ wsX00, w ∈ wsX3_told := fun _ h => List.mem_cons_of_mem _ (List.mem_append_right _ (h))
  have in_X2 : ∀ w ∈ wsX20, w ∈ wsX3_told := fun _ h => List.mem_cons_of_mem _ (List.mem_append_left _ (List.mem_append_right _ (h)))
  have in_X3 : ∀ w ∈ wsX30, w ∈ wsX3_told := fun _ h => List.mem_cons_of_mem _ (List.mem_append_left _ (List.mem_append_left _ (List.mem_append_right _ (h))))
  have lk_1 := hts (.fieldLink RX3 30 "GlulxHeap" "now" "LGlulxHeap$State;") (List.mem_of_getElem? (i := 1) rfl)
  have lk_2 := hts (.fieldLink RX3 84 "GlulxHeap$State" "size" "I") (List.mem_of_getElem? (i := 2) rfl)
  have lk_3 := hts (.fieldLink RX3 198 "GlulxHeap$State" "start" "I") (List.mem_of_getElem? (i := 3) rfl)
  have lk_4 := hts (.fieldLink RX3 80 "GlulxHeap$State" "used" "I") (List.mem_of_getElem? (i := 4) rfl)
  have lk_5 := hts (.fieldLink RX3 160 "GlulxHeap" "keptCount" "I") (List.mem_of_getElem? (i := 5) rfl)
  have lk_6 := hts (.fieldLink RX3 25 "GlulxHeap" "script" "LGlulxHeap$Code;") (List.mem_of_getElem? (i := 6) rfl)
  have lk_7 := hts (.fieldLink RX3 187 "GlulxHeap$Code" "length" "I") (List.mem_of_getElem? (i := 7) rfl)
  have lk_8 := hts (.fieldLink RX3 154 "GlulxHeap" "protectedAt" "I") (List.mem_of_getElem? (i := 8) rfl)
  have lk_9 := hts (.fieldLink RX3 157 "GlulxHeap" "protectedLength" "I") (List.mem_of_getElem? (i := 9) rfl)
  have hl := lv_entry ([.ref h, .int p1]) (n := 2) (Nat.le_of_ble_eq_true rfl)
  rw [lg_entry_eq]
  generalize (lg_sl ([.ref h, .int p1]) ++ List.replicate (2 - (lg_sl ([.ref h, .int p1])).length) Slot.unset).toArray = ls at hl ⊢
  have hl : lv_has ls 2 [(0, .ref h), (1, .int p1)] := hl
  obtain ⟨gw1, gw2, gw3, gw4, gw5, gw6⟩ := id gw9
  refine lv_iload_n hx hb dX3_told_0 rfl (lv_at hl 1 rfl) ?_
  rcases tsw p1 (n := 8) (by decide) with hout | ⟨j9, hj9, rfl⟩
  · refine lv_tableOut (tgt := 115) hx hb dX3_told_1 hout (by decide) ?_
    refine lv_bipush (v := ((-11))) hx hb dX3_told_115 (by decide) ?_
    exact W.iret (v := ((-11))) hx hb hr (fun t ht hW => ⟨((-11)), rfl, (show ((-11)) = tdR sz st us kp ga gl cs pl ln p1 from by unfold tdR; rw [if_neg (show ¬ p1 = 0 from tsw_ne (j := 0) hout (by decide) (by decide)), if_neg (tsw_ne hout (by decide) (by decide)), if_neg (tsw_ne hout (by decide) (by decide)), if_neg (tsw_ne hout (by decide) (by decide)), if_neg (tsw_ne hout (by decide) (by decide)), if_neg (tsw_ne hout (by decide) (by decide)), if_neg (tsw_ne hout (by decide) (by decide)), if_neg (tsw_ne hout (by decide) (by decide)), if_neg (tsw_ne hout (by decide) (by decide))]), ht⟩) (fun _ h9 => absurd h9 List.not_mem_nil) dX3_told_117
  · rcases (show j9 = 0 ∨ j9 = 1 ∨ j9 = 2 ∨ j9 = 3 ∨ j9 = 4 ∨ j9 = 5 ∨ j9 = 6 ∨ j9 = 7 ∨ j9 = 8 by omega) with rfl | rfl | rfl | rfl | rfl | rfl | rfl | rfl | rfl
    · refine lv_tableIn (off := 51) (tgt := 52) hx hb dX3_told_1 (by decide) (by decide) rfl (by decide) ?_
      refine lv_aload_n hx hb dX3_told_52 rfl (lv_at hl 0 rfl) ?_
      refine va_get (D := (dC, dI)) (ci := 3) (v := .ref (b 0)) (C := RX3) (T := TX3) (N := 8) hx hb hts in_X3 hown hK hP 0 rfl rfl 3 (by decide) lk_1 (fun _ h9 => h9) rfl dX3_told_53 ?_
      refine va_get (D := (dC, dI)) (ci := 2) (v := .int (nI sz)) (C := RX2) (T := TX2) (N := 6) hx hb hts in_X2 hown hK hP 5 rfl rfl 3 (by decide) lk_2 (fun _ h9 => h9) rfl dX3_told_56 ?_
      exact W.iret (v := (nI sz)) hx hb hr (fun t ht hW => ⟨(nI sz), rfl, (show (nI sz) = tdR sz st us kp ga gl cs pl ln (nI 0) from by unfold tdR; rw [if_pos (by decide)]), ht⟩) (fun _ h9 => absurd h9 List.not_mem_nil) dX3_told_59
    · refine lv_tableIn (off := 59) (tgt := 60) hx hb dX3_told_1 (by decide) (by decide) rfl (by decide) ?_
      refine lv_aload_n hx hb dX3_told_60 rfl (lv_at hl 0 rfl) ?_
      refine va_get (D := (dC, dI)) (ci := 3) (v := .ref (b 0)) (C := RX3) (T := TX3) (N := 8) hx hb hts in_X3 hown hK hP 0 rfl rfl 3 (by decide) lk_1 (fun _ h9 => h9) rfl dX3_told_61 ?_
      refine va_get (D := (dC, dI)) (ci := 2) (v := .int (nI st)) (C := RX2) (T := TX2) (N := 6) hx hb hts in_X2 hown hK hP 5 rfl rfl 4 (by decide) lk_3 (fun _ h9 => h9) rfl dX3_told_64 ?_
      exact W.iret (v := (nI st)) hx hb hr (fun t ht hW => ⟨(nI st), rfl, (show (nI st) = tdR sz st us kp ga gl cs pl ln (nI 1) from by unfold tdR; rw [if_neg (by decide), if_pos (by decide)]), ht⟩) (fun _ h9 => absurd h9 List.not_mem_nil) dX3_told_67
    · refine lv_tableIn (off := 67) (tgt := 68) hx hb dX3_told_1 (by decide) (by decide) rfl (by decide) ?_
      refine lv_aload_n hx hb dX3_told_68 rfl (lv_at hl 0 rfl) ?_
      refine va_get (D := (dC, dI)) (ci := 3) (v := .ref (b 0)) (C := RX3) (T := TX3) (N := 8) hx hb hts in_X3 hown hK hP 0 rfl rfl 3 (by decide) lk_1 (fun _ h9 => h9) rfl dX3_told_69 ?_
      refine va_get (D := (dC, dI)) (ci := 2) (v := .int (nI us)) (C := RX2) (T := TX2) (N := 6) hx hb hts in_X2 hown hK hP 5 rfl rfl 5 (by decide) lk_4 (fun _ h9 => h9) rfl dX3_told_72 ?_
      exact W.iret (v := (nI us)) hx hb hr (fun t ht hW => ⟨(nI us), rfl, (show (nI us) = tdR sz st us kp ga gl cs pl ln (nI 2) from by unfold tdR; rw [if_neg (by decide), if_neg (by decide), if_pos (by decide)]), ht⟩) (fun _ h9 => absurd h9 List.not_mem_nil) dX3_told_75
    · refine lv_tableIn (off := 75) (tgt := 76) hx hb dX3_told_1 (by decide) (by decide) rfl (by decide) ?_
      refine lv_aload_n hx hb dX3_told_76 rfl (lv_at hl 0 rfl) ?_
      refine va_get (D := (dC, dI)) (ci := 3) (v := .ref (b 0)) (C := RX3) (T := TX3) (N := 8) hx hb hts in_X3 hown hK hP 0 rfl rfl 3 (by decide) lk_1 (fun _ h9 => h9) rfl dX3_told_77 ?_
      have hPc := hP.sub (ws' := sw cB cI b sz st us mem pl ln) [5, 6, 7, 8] rfl
      have hKc := hK.sub (tys' := [(cI, .int), (cB, .byte)]) [0, 1] rfl
      refine vp_callSi (W.runV (As := []) (rest := []) ⟨hx, hb, hml, hown, hts⟩ (c_X2_usedBytes l dC dI cB cI b sz st us mem pl ln (by omega)) (cwV 0 hts gX3_told_X2_usedBytes rfl rfl rfl (by decide +kernel) ⟨Nat.le_of_ble_eq_true rfl, Nat.le_of_ble_eq_true rfl⟩) ⟨fun a9 U g9 mk9 q9 => by obtain ⟨q0, qP, qK⟩ := q9; exact ⟨q0, qP, va_K.moved (u := U) (U := U.calling g9 mk9 a9) (Vm.Alike.refl U.vm) qK⟩, va_recv hKc hPc (ci := 2) (q0 := 0) rfl rfl, fun U hU hW => ⟨rfl, by rw [hU]; exact hPc, va_K.moved hW.alike hKc⟩⟩ rfl rfl hl.1 rfl (lv_room (Nat.le_of_ble_eq_true rfl)) dX3_told_80 ⟨Nat.zero_le _, Nat.zero_le _⟩) (fun r_80 hw => ?_)
      try dsimp only at hw
      subst hw
      exact W.iret (v := (nI (sumF ln us))) hx hb hr (fun t ht hW => ⟨(nI (sumF ln us)), rfl, (show (nI (sumF ln us)) = tdR sz st us kp ga gl cs pl ln (nI 3) from by unfold tdR; rw [if_neg (by decide), if_neg (by decide), if_neg (by decide), if_pos (by decide)]), ht⟩) (fun _ h9 => absurd h9 List.not_mem_nil) dX3_told_83
    · refine lv_tableIn (off := 83) (tgt := 84) hx hb dX3_told_1 (by decide) (by decide) rfl (by decide) ?_
      refine lv_aload_n hx hb dX3_told_84 rfl (lv_at hl 0 rfl) ?_
      refine va_get (D := (dC, dI)) (ci := 3) (v := .ref (b 0)) (C := RX3) (T := TX3) (N := 8) hx hb hts in_X3 hown hK hP 0 rfl rfl 3 (by decide) lk_1 (fun _ h9 => h9) rfl dX3_told_85 ?_
      have hPc := hP.sub (ws' := sw cB cI b sz st us mem pl ln) [5, 6, 7, 8] rfl
      have hKc := hK.sub (tys' := [(cI, .int), (cB, .byte)]) [0, 1] rfl
      refine vp_callSi (W.runV (As := []) (rest := []) ⟨hx, hb, hml, hown, hts⟩ (c_X2_gapCount l dC dI cB cI b sz st us mem pl ln gw9) (cwV 0 hts gX3_told_X2_gapCount rfl rfl rfl (by decide +kernel) ⟨Nat.le_of_ble_eq_true rfl, Nat.le_of_ble_eq_true rfl⟩) ⟨fun a9 U g9 mk9 q9 => by obtain ⟨q0, qP, qK⟩ := q9; exact ⟨q0, qP, va_K.moved (u := U) (U := U.calling g9 mk9 a9) (Vm.Alike.refl U.vm) qK⟩, va_recv hKc hPc (ci := 2) (q0 := 0) rfl rfl, fun U hU hW => ⟨rfl, by rw [hU]; exact hPc, va_K.moved hW.alike hKc⟩⟩ rfl rfl hl.1 rfl (lv_room (Nat.le_of_ble_eq_true rfl)) dX3_told_88 ⟨Nat.zero_le _, Nat.zero_le _⟩) (fun r_88 hw => ?_)
      try dsimp only at hw
      subst hw
      exact W.iret (v := (nI (gaps sz st us pl ln))) hx hb hr (fun t ht hW => ⟨(nI (gaps sz st us pl ln)), rfl, (show (nI (gaps sz st us pl ln)) = tdR sz st us kp ga gl cs pl ln (nI 4) from by unfold tdR; rw [if_neg (by decide), if_neg (by decide), if_neg (by decide), if_neg (by decide), if_pos (by decide)]), ht⟩) (fun _ h9 => absurd h9 List.not_mem_nil) dX3_told_91
    · refine lv_tableIn (off := 91) (tgt := 92) hx hb dX3_told_1 (by decide) (by decide) rfl (by decide) ?_
      refine lv_aload_n hx hb dX3_told_92 rfl (lv_at hl 0 rfl) ?_
      refine va_get (D := (dC, dI)) (ci := 3) (v := .int (nI kp)) (C := RX3) (T := TX3) (N := 8) hx hb hts in_X3 hown hK hP 0 rfl rfl 5 (by decide) lk_5 (fun _ h9 => h9) rfl dX3_told_93 ?_
      exact W.iret (v := (nI kp)) hx hb hr (fun t ht hW => ⟨(nI kp), rfl, (show (nI kp) = tdR sz st us kp ga gl cs pl ln (nI 5) from by unfold tdR; rw [if_neg (by decide), if_neg (by decide), if_neg (by decide), if_neg (by decide), if_neg (by decide), if_pos (by decide)]), ht⟩) (fun _ h9 => absurd h9 List.not_mem_nil) dX3_told_96
    · refine lv_tableIn (off := 96) (tgt := 97) hx hb dX3_told_1 (by decide) (by decide) rfl (by decide) ?_
      refine lv_aload_n hx hb dX3_told_97 rfl (lv_at hl 0 rfl) ?_
      refine va_get (D := (dC, dI)) (ci := 3) (v := .ref (o 0)) (C := RX3) (T := TX3) (N := 8) hx hb hts in_X3 hown hK hP 0 rfl rfl 2 (by decide) lk_6 (fun _ h9 => h9) rfl dX3_told_98 ?_
      refine va_get (D := (dC, dI)) (ci := 0) (v := .int (nI cs)) (C := RX0) (T := TX0) (N := 2) hx hb hts in_X0 hown hK hP 3 rfl rfl 1 (by decide) lk_7 (fun _ h9 => h9) rfl dX3_told_101 ?_
      exact W.iret (v := (nI cs)) hx hb hr (fun t ht hW => ⟨(nI cs), rfl, (show (nI cs) = tdR sz st us kp ga gl cs pl ln (nI 6) from by unfold tdR; rw [if_neg (by decide), if_neg (by decide), if_neg (by decide), if_neg (by decide), if_neg (by decide), if_neg (by decide), if_pos (by decide)]), ht⟩) (fun _ h9 => absurd h9 List.not_mem_nil) dX3_told_104
    · refine lv_tableIn (off := 104) (tgt := 105) hx hb dX3_told_1 (by decide) (by decide) rfl (by decide) ?_
      refine lv_aload_n hx hb dX3_told_105 rfl (lv_at hl 0 rfl) ?_
      refine va_get (D := (dC, dI)) (ci := 3) (v := .int (nI ga)) (C := RX3) (T := TX3) (N := 8) hx hb hts in_X3 hown hK hP 0 rfl rfl 6 (by decide) lk_8 (fun _ h9 => h9) rfl dX3_told_106 ?_
      exact W.iret (v := (nI ga)) hx hb hr (fun t ht hW => ⟨(nI ga), rfl, (show (nI ga) = tdR sz st us kp ga gl cs pl ln (nI 7) from by unfold tdR; rw [if_neg (by decide), if_neg (by decide), if_neg (by decide), if_neg (by decide), if_neg (by decide), if_neg (by decide), if_neg (by decide), if_pos (by decide)]), ht⟩) (fun _ h9 => absurd h9 List.not_mem_nil) dX3_told_109
    · refine lv_tableIn (off := 109) (tgt := 110) hx hb dX3_told_1 (by decide) (by decide) rfl (by decide) ?_
      refine lv_aload_n hx hb dX3_told_110 rfl (lv_at hl 0 rfl) ?_
      refine va_get (D := (dC, dI)) (ci := 3) (v := .int (nI gl)) (C := RX3) (T := TX3) (N := 8) hx hb hts in_X3 hown hK hP 0 rfl rfl 7 (by decide) lk_9 (fun _ h9 => h9) rfl dX3_told_111 ?_
      exact W.iret (v := (nI gl)) hx hb hr (fun t ht hW => ⟨(nI gl), rfl, (show (nI gl) = tdR sz st us kp ga gl cs pl ln (nI 8) from by unfold tdR; rw [if_neg (by decide), if_neg (by decide), if_neg (by decide), if_neg (by decide), if_neg (by decide), if_neg (by decide), if_neg (by decide), if_neg (by decide), if_pos (by decide)]), ht⟩) (fun _ h9 => absurd h9 List.not_mem_nil) dX3_told_114
