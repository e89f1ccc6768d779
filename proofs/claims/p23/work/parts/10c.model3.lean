set_option maxHeartbeats 4000000 in
set_option maxRecDepth 100000 in
theorem c_X4_get (l : Launch) (dC : Nat → ClassId) (dI : Nat → Nat → Nat) (cI : ClassId) (a : Nat → Nat) (sz st us kp ga gl cs : Nat) (mem pl ln km ks kt ku kl kn cd wt : Nat → Nat) (p1 p2 : Int32) (g3 : sz ≤ 8192) (bmem : ∀ j, mem j < 256) : Met l yX4_get wsX4_get ({ frames := 1, cells := 0, slots := 0, locals := 25 }) (va_Pc [.ref (a 0), .int p1, .int p2] (fun U => va_P (dC, dI) vwCl (mw cI a sz st us kp ga gl cs mem pl ln km ks kt ku kl kn cd wt) U.heap ∧ va_K (dC, dI) vwCl [(cI, .int)] U)) (vp_Sl (fun r => r = gS sz mem p1 p2)) 0 0 (fun _ => False) := by
  refine Met.ofW (cc := cX4_get) (maxL := 3) (ret := (some .long)) (by decide) rfl ?_
  intro p e s m args below meth c s₁ B hml hv
  obtain ⟨rfl, hP, hK⟩ := hv
  have hx := B.exec
  have hb := B.bytes
  have hr := B.returns
  have hts := atoms_spec (ws := wsX4_get) B.pre
  have hown : s.vm.findClass RX4 = some m.cls := findClass_of_methodNamed B.named
  have hlocks := B.notSynchronized
  have lk_1 := hts (.constantLong RX4 56 (-11)) (List.mem_of_getElem? (i := 1) rfl)
  have lk_2 := hts (.constantLong RX4 66 (-12)) (List.mem_of_getElem? (i := 2) rfl)
  have hl := lv_entry ([.ref (a 0), .int p1, .int p2]) (n := 3) (Nat.le_of_ble_eq_true rfl)
  rw [lg_entry_eq]
  generalize (lg_sl ([.ref (a 0), .int p1, .int p2]) ++ List.replicate (3 - (lg_sl ([.ref (a 0), .int p1, .int p2])).length) Slot.unset).toArray = ls at hl ⊢
  have hl : lv_has ls 3 [(0, .ref (a 0)), (1, .int p1), (2, .int p2)] := hl
  refine lv_iload_n hx hb dX4_get_0 rfl (lv_at hl 2 rfl) ?_
  refine vp_callSi (W.runS (As := [.int p2]) (rest := []) ⟨hx, hb, hml, hown, hts⟩ (c_X4_isWidth l p2) (va_cwS 1 hts gX4_get_X4_isWidth rfl rfl rfl (by decide +kernel) ⟨Nat.le_of_ble_eq_true rfl, Nat.le_of_ble_eq_true rfl⟩) ⟨fun a9 U g9 mk9 q9 => ⟨q9.1, trivial⟩, fun U hU hW => ⟨rfl, trivial⟩⟩ rfl rfl hl.1 rfl (lv_room (Nat.le_of_ble_eq_true rfl)) dX4_get_1 ⟨Nat.zero_le _, Nat.zero_le _⟩) (fun r_1 hw => ?_)
  try dsimp only at hw
  rcases hw with ⟨hc_1, rfl⟩ | ⟨hc_1, rfl⟩
  · obtain ⟨k, hk, rfl⟩ := isW_of hc_1
    refine lv_if_eq (tgt := 11) hx hb dX4_get_4 (by decide) (fun c_4 => ?_) (fun c_4 => ?_)
    · exact absurd c_4 (by decide)
    · have c_4 : ¬ 1 = 0 := fun q => c_4 ((nZ_eq (by omega)).mpr q)
      refine lv_iload_n hx hb dX4_get_7 rfl (lv_at hl 1 rfl) ?_
      refine lv_if_ge (tgt := 15) hx hb dX4_get_8 (by decide) (fun c_8 => ?_) (fun c_8 => ?_)
      · have c_8 : ¬ p1 < 0 := i0_ge.mp c_8
        obtain ⟨x, n_x, rfl⟩ := nI_of c_8
        refine lv_aload_n hx hb dX4_get_15 rfl (lv_at hl 0 rfl) ?_
        refine lv_iload_n hx hb dX4_get_16 rfl (lv_at hl 1 rfl) ?_
        refine lv_i2l (v := lN x) hx hb dX4_get_17 (nI_l (by omega)) ?_
        refine lv_iload_n hx hb dX4_get_18 rfl (lv_at hl 2 rfl) ?_
        refine lv_i2l (v := lN k) hx hb dX4_get_19 (nI_l (by omega)) ?_
        refine vp_callSi (W.runV (As := [.long (lN x), .long (lN k)]) (rest := []) ⟨hx, hb, hml, hown, hts⟩ (c_X4_isIn l dC dI cI a sz st us kp ga gl cs mem pl ln km ks kt ku kl kn cd wt x k (by omega) (by omega) (by omega)) (cwV 2 hts gX4_get_X4_isIn rfl rfl rfl (by decide +kernel) ⟨Nat.le_of_ble_eq_true rfl, Nat.le_of_ble_eq_true rfl⟩) ⟨fun a9 U g9 mk9 q9 => by obtain ⟨q0, qP, qK⟩ := q9; exact ⟨q0, qP, va_K.moved (u := U) (U := U.calling g9 mk9 a9) (Vm.Alike.refl U.vm) qK⟩, va_recv hK hP (ci := 4) (q0 := 0) rfl rfl, fun U hU hW => ⟨rfl, by rw [hU]; exact hP, va_K.moved hW.alike hK⟩⟩ rfl rfl hl.1 rfl (lv_room (Nat.le_of_ble_eq_true rfl)) dX4_get_20 ⟨Nat.zero_le _, Nat.zero_le _⟩) (fun r_20 hw => ?_)
        try dsimp only at hw
        rcases hw with ⟨hc_20, rfl⟩ | ⟨hc_20, rfl⟩
        · skip
          refine lv_if_eq (tgt := 35) hx hb dX4_get_23 (by decide) (fun c_23 => ?_) (fun c_23 => ?_)
          · exact absurd c_23 (by decide)
          · have c_23 : ¬ 1 = 0 := fun q => c_23 ((nZ_eq (by omega)).mpr q)
            refine lv_aload_n hx hb dX4_get_26 rfl (lv_at hl 0 rfl) ?_
            refine lv_iload_n hx hb dX4_get_27 rfl (lv_at hl 1 rfl) ?_
            refine lv_iload_n hx hb dX4_get_28 rfl (lv_at hl 2 rfl) ?_
            refine vp_callSl (W.runV (As := [.int (nI x), .int (nI k)]) (rest := []) ⟨hx, hb, hml, hown, hts⟩ (c_X4_number l dC dI cI a sz st us kp ga gl cs mem pl ln km ks kt ku kl kn cd wt x k (by omega) (by omega) bmem) (cwV 2 hts gX4_get_X4_number rfl rfl rfl (by decide +kernel) ⟨Nat.le_of_ble_eq_true rfl, Nat.le_of_ble_eq_true rfl⟩) ⟨fun a9 U g9 mk9 q9 => by obtain ⟨q0, qP, qK⟩ := q9; exact ⟨q0, qP, va_K.moved (u := U) (U := U.calling g9 mk9 a9) (Vm.Alike.refl U.vm) qK⟩, va_recv hK hP (ci := 4) (q0 := 0) rfl rfl, fun U hU hW => ⟨rfl, by rw [hU]; exact hP, va_K.moved hW.alike hK⟩⟩ rfl rfl hl.1 rfl (lv_room (Nat.le_of_ble_eq_true rfl)) dX4_get_29 ⟨Nat.zero_le _, Nat.zero_le _⟩) (fun r_29 hw => ?_)
            try dsimp only at hw
            subst hw
            refine lv_goto (tgt := 38) hx hb dX4_get_32 (by decide) ?_
            exact W.lret (v := (lN (num mem x k))) hx hb hr (fun t ht hW => ⟨(lN (num mem x k)), rfl, (show (lN (num mem x k)) = gS sz mem (nI x) (nI k) from by rw [gS_ok n_x hk, if_pos (by omega)]), ht⟩) (fun _ h9 => absurd h9 List.not_mem_nil) dX4_get_38
        · skip
          refine lv_if_eq (tgt := 35) hx hb dX4_get_23 (by decide) (fun c_23 => ?_) (fun c_23 => ?_)
          · have c_23 : 0 = 0 := (nZ_eq (by omega)).mp c_23
            refine lv_ldc2 (own := RX4) (v := (-12)) hx hb hown lk_2 dX4_get_35 ?_
            exact W.lret (v := ((-12))) hx hb hr (fun t ht hW => ⟨((-12)), rfl, (show ((-12)) = gS sz mem (nI x) (nI k) from by rw [gS_ok n_x hk, if_neg (by omega)]), ht⟩) (fun _ h9 => absurd h9 List.not_mem_nil) dX4_get_38
          · exact absurd c_23 (by decide)
      · have c_8 : p1 < 0 := i0_nge.mp c_8
        refine lv_ldc2 (own := RX4) (v := (-11)) hx hb hown lk_1 dX4_get_11 ?_
        exact W.lret (v := ((-11))) hx hb hr (fun t ht hW => ⟨((-11)), rfl, (show ((-11)) = gS sz mem p1 (nI k) from (gS_w (by first | exact Or.inl hc_1 | exact Or.inr c_8)).symm), ht⟩) (fun _ h9 => absurd h9 List.not_mem_nil) dX4_get_14
  · refine lv_if_eq (tgt := 11) hx hb dX4_get_4 (by decide) (fun c_4 => ?_) (fun c_4 => ?_)
    · have c_4 : 0 = 0 := (nZ_eq (by omega)).mp c_4
      refine lv_ldc2 (own := RX4) (v := (-11)) hx hb hown lk_1 dX4_get_11 ?_
      exact W.lret (v := ((-11))) hx hb hr (fun t ht hW => ⟨((-11)), rfl, (show ((-11)) = gS sz mem p1 p2 from (gS_w (by first | exact Or.inl hc_1 | exact Or.inr c_8)).symm), ht⟩) (fun _ h9 => absurd h9 List.not_mem_nil) dX4_get_14
    · exact absurd c_4 (by decide)
set_option maxHeartbeats 4000000 in
set_option maxRecDepth 100000 in
theorem c_X4_set (l : Launch) (dC : Nat → ClassId) (dI : Nat → Nat → Nat) (cI : ClassId) (a : Nat → Nat) (sz st us kp ga gl cs : Nat) (mem pl ln km ks kt ku kl kn cd wt : Nat → Nat) (zz : Nat) (p1 p2 v : Int32) (g3 : sz ≤ 8192) : Met l yX4_set wsX4_set ({ frames := 1, cells := 0, slots := 0, locals := 24 }) (va_Pc [.ref (a 0), .int p1, .int p2, .int v] (fun U => U.heap.size = zz ∧ va_P (dC, dI) vwCl (mw cI a sz st us kp ga gl cs mem pl ln km ks kt ku kl kn cd wt) U.heap ∧ va_K (dC, dI) vwCl [(cI, .int)] U ∧ va_D (fun _ => True) (mw cI a sz st us kp ga gl cs mem pl ln km ks kt ku kl kn cd wt))) (va_Qi (fun r _ => r = stR sz p1 p2) (fun (_ : Unit) t => va_P (dC, dI) vwCl (mw cI a sz st us kp ga gl cs (stM sz mem p1 p2 v) pl ln km ks kt ku kl kn cd wt) t.heap ∧ va_K (dC, dI) vwCl [(cI, .int)] t ∧ va_D (va_A (mw cI a sz st us kp ga gl cs mem pl ln km ks kt ku kl kn cd wt) zz) (mw cI a sz st us kp ga gl cs (stM sz mem p1 p2 v) pl ln km ks kt ku kl kn cd wt)) (va_A (mw cI a sz st us kp ga gl cs mem pl ln km ks kt ku kl kn cd wt) zz)) 0 0 (va_A (mw cI a sz st us kp ga gl cs mem pl ln km ks kt ku kl kn cd wt) zz) := by
  refine Met.ofW (cc := cX4_set) (maxL := 5) (ret := (some .int)) (by decide) rfl ?_
  intro p e s m args below meth c s₁ B hml hv
  obtain ⟨rfl, hsz, hP, hK, hD0⟩ := hv
  have hx := B.exec
  have hb := B.bytes
  have hr := B.returns
  have hts := atoms_spec (ws := wsX4_set) B.pre
  have hown : s.vm.findClass RX4 = some m.cls := findClass_of_methodNamed B.named
  have hlocks := B.notSynchronized
  subst hsz
  have hD := hD0.self (sz := s.heap.size)
  generalize hAe : va_A (mw cI a sz st us kp ga gl cs mem pl ln km ks kt ku kl kn cd wt) s.heap.size = A at hD ⊢
  have hA : ∀ q : Nat, s.heap.size ≤ q → A q := fun q h => by rw [← hAe]; exact Or.inr h
  have hS : va_S A s.heap s.heap [] := va_S.rf
  have hP : va_P (dC, dI) vwCl (mw cI a sz st us kp ga gl cs mem pl ln km ks kt ku kl kn cd wt) s.heap := hP
  have in_X4 : ∀ w ∈ wsX40, w ∈ wsX4_set := fun _ h => List.mem_cons_of_mem _ (List.mem_append_right _ h)
  have lk_1 := hts (.fieldLink RX4 7 "GlulxHeapModel" "memory" "[I") (List.mem_of_getElem? (i := 1) rfl)
  have hl := lv_entry ([.ref (a 0), .int p1, .int p2, .int v]) (n := 5) (Nat.le_of_ble_eq_true rfl)
  rw [lg_entry_eq]
  generalize (lg_sl ([.ref (a 0), .int p1, .int p2, .int v]) ++ List.replicate (5 - (lg_sl ([.ref (a 0), .int p1, .int p2, .int v])).length) Slot.unset).toArray = ls at hl ⊢
  have hl : lv_has ls 5 [(0, .ref (a 0)), (1, .int p1), (2, .int p2), (3, .int v)] := hl
  refine lv_iload_n hx hb dX4_set_0 rfl (lv_at hl 2 rfl) ?_
  refine vp_callSi (W.runS (As := [.int p2]) (rest := []) ⟨hx, hb, hml, hown, hts⟩ (c_X4_isWidth l p2) (va_cwS 1 hts gX4_set_X4_isWidth rfl rfl rfl (by decide +kernel) ⟨Nat.le_of_ble_eq_true rfl, Nat.le_of_ble_eq_true rfl⟩) ⟨fun a9 U g9 mk9 q9 => ⟨q9.1, trivial⟩, fun U hU hW => ⟨rfl, trivial⟩⟩ rfl rfl hl.1 rfl (lv_room (Nat.le_of_ble_eq_true rfl)) dX4_set_1 ⟨Nat.zero_le _, Nat.zero_le _⟩) (fun r_1 hw => ?_)
  try dsimp only at hw
  rcases hw with ⟨hc_1, rfl⟩ | ⟨hc_1, rfl⟩
  · obtain ⟨k, hk, rfl⟩ := isW_of hc_1
    refine lv_if_eq (tgt := 11) hx hb dX4_set_4 (by decide) (fun c_4 => ?_) (fun c_4 => ?_)
    · exact absurd c_4 (by decide)
    · have c_4 : ¬ 1 = 0 := fun q => c_4 ((nZ_eq (by omega)).mpr q)
      refine lv_iload_n hx hb dX4_set_7 rfl (lv_at hl 1 rfl) ?_
      refine lv_if_ge (tgt := 14) hx hb dX4_set_8 (by decide) (fun c_8 => ?_) (fun c_8 => ?_)
      · have c_8 : ¬ p1 < 0 := i0_ge.mp c_8
        obtain ⟨x, n_x, rfl⟩ := nI_of c_8
        refine lv_aload_n hx hb dX4_set_14 rfl (lv_at hl 0 rfl) ?_
        refine lv_iload_n hx hb dX4_set_15 rfl (lv_at hl 1 rfl) ?_
        refine lv_i2l (v := lN x) hx hb dX4_set_16 (nI_l (by omega)) ?_
        refine lv_iload_n hx hb dX4_set_17 rfl (lv_at hl 2 rfl) ?_
        refine lv_i2l (v := lN k) hx hb dX4_set_18 (nI_l (by omega)) ?_
        refine vp_callSi (W.runV (As := [.long (lN x), .long (lN k)]) (rest := []) ⟨hx, hb, hml, hown, hts⟩ (c_X4_isIn l dC dI cI a sz st us kp ga gl cs mem pl ln km ks kt ku kl kn cd wt x k (by omega) (by omega) (by omega)) (cwV 2 hts gX4_set_X4_isIn rfl rfl rfl (by decide +kernel) ⟨Nat.le_of_ble_eq_true rfl, Nat.le_of_ble_eq_true rfl⟩) ⟨fun a9 U g9 mk9 q9 => by obtain ⟨q0, qP, qK⟩ := q9; exact ⟨q0, qP, va_K.moved (u := U) (U := U.calling g9 mk9 a9) (Vm.Alike.refl U.vm) qK⟩, va_recv hK hP (ci := 4) (q0 := 0) rfl rfl, fun U hU hW => ⟨rfl, by rw [hU]; exact hP, va_K.moved hW.alike hK⟩⟩ rfl rfl hl.1 rfl (lv_room (Nat.le_of_ble_eq_true rfl)) dX4_set_19 ⟨Nat.zero_le _, Nat.zero_le _⟩) (fun r_19 hw => ?_)
        try dsimp only at hw
        rcases hw with ⟨hc_19, rfl⟩ | ⟨hc_19, rfl⟩
        · skip
          refine lv_if_ne (tgt := 28) hx hb dX4_set_22 (by decide) (fun c_22 => ?_) (fun c_22 => ?_)
          · have c_22 : ¬ 1 = 0 := fun q => c_22 ((nZ_eq (by omega)).mpr q)
            refine lv_iload_n hx hb dX4_set_28 rfl (lv_at hl 1 rfl) ?_
            refine lv_bipush (v := (nI 64)) hx hb dX4_set_29 (by decide) ?_
            refine lv_icmp_ge (tgt := 37) hx hb dX4_set_31 (by decide) (fun c_31 => ?_) (fun c_31 => ?_)
            · have c_31 : 64 ≤ x := (nI_leI (a := 64) (b := x) (by omega) (by omega)).mp c_31
              refine lv_iconst (v := (nI 0)) hx hb dX4_set_37 (by decide) ?_
              refine lv_istore (lv' := [(4, .int (nI 0)), (0, .ref (a 0)), (1, .int (nI x)), (2, .int (nI k)), (3, .int v)]) hx hb dX4_set_38 hl (by decide) rfl (fun ls hl => ?_)
              refine lp_world (σ := Nat × (Nat → Nat)) (fun ⟨i, f⟩ => i ≤ k ∧ f = wr mem x k v i) (fun ⟨i, f⟩ => k - i) (fun ⟨i, f⟩ => [(4, .int (nI i)), (0, .ref (a 0)), (1, .int (nI x)), (2, .int (nI k)), (3, .int v)]) (fun ⟨i, f⟩ => mw cI a sz st us kp ga gl cs f pl ln km ks kt ku kl kn cd wt) ?_ ((0, mem)) (⟨Nat.zero_le _, by rw [wr_0]⟩) (hP) (hD) hS (lv_sub hl [0, 1, 2, 3, 4] rfl)
              intro ⟨i, f⟩ hI ih H locs ls hP hD hS hl
              have hl : lv_has ls 5 [(4, .int (nI i)), (0, .ref (a 0)), (1, .int (nI x)), (2, .int (nI k)), (3, .int v)] := hl
              have hP : va_P (dC, dI) vwCl (mw cI a sz st us kp ga gl cs f pl ln km ks kt ku kl kn cd wt) H := hP
              have hD : va_D A (mw cI a sz st us kp ga gl cs f pl ln km ks kt ku kl kn cd wt) := hD
              have hI : i ≤ k ∧ f = wr mem x k v i := hI
              obtain ⟨hi, hf⟩ := hI
              have ih_40 := ih
              refine lv_iload hx hb dX4_set_40 (lv_at hl 0 rfl) ?_
              refine lv_iload_n hx hb dX4_set_42 rfl (lv_at hl 3 rfl) ?_
              refine lv_icmp_ge (tgt := 76) hx hb dX4_set_43 (by decide) (fun c_43 => ?_) (fun c_43 => ?_)
              · have c_43 : k ≤ i := (nI_leI (a := k) (b := i) (by omega) (by omega)).mp c_43
                refine lv_iconst (v := (nI 1)) hx hb dX4_set_76 (by decide) ?_
                have e_mem : f = stM sz mem (nI x) (nI k) v := by rw [stM_ok (by rw [stR_ok n_x hk, if_neg (by omega), if_neg (by omega)]) n_x (by omega), hf, show i = k by omega]
                have hP : va_P (dC, dI) vwCl (mw cI a sz st us kp ga gl cs (stM sz mem (nI x) (nI k) v) pl ln km ks kt ku kl kn cd wt) H := by rw [← e_mem]; exact hP
                have hD : va_D A (mw cI a sz st us kp ga gl cs (stM sz mem (nI x) (nI k) v) pl ln km ks kt ku kl kn cd wt) := by rw [← e_mem]; exact hD
                exact W.iret (v := (nI 1)) hx hb hr (fun t ht hW => ⟨⟨(nI 1), (), rfl, (show (nI 1) = stR sz (nI x) (nI k) from by rw [stR_ok n_x hk, if_neg (by omega), if_neg (by omega)]), by rw [ht]; exact hP, va_K.moved hW.alike hK, hD⟩, hS.F ht⟩) hS.2.2 dX4_set_77
              · have c_43 : ¬ k ≤ i := fun q => c_43 ((nI_leI (a := k) (b := i) (by omega) (by omega)).mpr q)
                have he : k - 1 - i < 4 := by omega
                refine lv_aload_n hx hb dX4_set_46 rfl (lv_at hl 1 rfl) ?_
                refine va_get (D := (dC, dI)) (ci := 4) (v := .ref (a 1)) (C := RX4) (T := TX4) (N := 18) hx hb hts in_X4 hown hK hP 0 rfl rfl 0 (by decide) lk_1 (fun _ h9 => h9) rfl dX4_set_47 ?_
                refine lv_iload_n hx hb dX4_set_50 rfl (lv_at hl 2 rfl) ?_
                refine lv_iload hx hb dX4_set_51 (lv_at hl 0 rfl) ?_
                refine lv_iadd hx hb dX4_set_53 ?_
                refine tpi (nI_add _ _) ?_
                refine lv_iload_n hx hb dX4_set_54 rfl (lv_at hl 4 rfl) ?_
                refine lv_bipush (v := (nI 8)) hx hb dX4_set_55 (by decide) ?_
                refine lv_iload_n hx hb dX4_set_57 rfl (lv_at hl 3 rfl) ?_
                refine lv_iconst (v := (nI 1)) hx hb dX4_set_58 (by decide) ?_
                refine lv_isub hx hb dX4_set_59 ?_
                refine tpi (pk_sub (by omega)) ?_
                refine lv_iload hx hb dX4_set_60 (lv_at hl 0 rfl) ?_
                refine lv_isub hx hb dX4_set_62 ?_
                refine tpi (pk_sub (by omega)) ?_
                refine lv_imul hx hb dX4_set_63 ?_
                refine tpi (pk_mul _ _) ?_
                refine lv_ishr hx hb dX4_set_64 ?_
                refine tpi (rfl) ?_
                refine lv_sipush (v := (nI 255)) hx hb dX4_set_65 (by decide) ?_
                refine lv_iand hx hb dX4_set_68 ?_
                refine tpi (sarB v he) ?_
                refine va_iast hx hb hK hP hD hS 1 0 rfl rfl (vp_in_nI (by omega) (by omega)) dX4_set_69 (fun H locs hP hD hS => ?_)
                rw [nf_up (by omega)] at hP hD
                have hP : va_P (dC, dI) vwCl (mw cI a sz st us kp ga gl cs (va_up f (x + i) (byt v (k - 1 - i))) pl ln km ks kt ku kl kn cd wt) H := hP
                have hD : va_D A (mw cI a sz st us kp ga gl cs (va_up f (x + i) (byt v (k - 1 - i))) pl ln km ks kt ku kl kn cd wt) := hD
                refine lv_iinc (v := (nI (i + 1))) (lv' := [(4, .int (nI (i + 1))), (0, .ref (a 0)), (1, .int (nI x)), (2, .int (nI k)), (3, .int v)]) hx hb dX4_set_70 hl (k := 0) rfl (nI_inc _) (by decide) rfl (fun ls hl => ?_)
                refine lv_goto (tgt := 40) hx hb dX4_set_73 (by decide) ?_
                exact ih_40 (i + 1, va_up f (x + i) (byt v (k - 1 - i))) (⟨by omega, by rw [hf, wr_s]⟩) (show k - (i + 1) < k - i by omega) H locs ls (hP) (hD) hS (lv_sub hl [0, 1, 2, 3, 4] rfl)
            · have c_31 : ¬ 64 ≤ x := fun q => c_31 ((nI_leI (a := 64) (b := x) (by omega) (by omega)).mpr q)
              refine lv_bipush (v := ((-13))) hx hb dX4_set_34 (by decide) ?_
              have e_mem : mem = stM sz mem (nI x) (nI k) v := stM_no (show _ = (-13) by rw [stR_ok n_x hk, if_neg (by omega), if_pos (by omega)]) (by decide)
              have hP : va_P (dC, dI) vwCl (mw cI a sz st us kp ga gl cs (stM sz mem (nI x) (nI k) v) pl ln km ks kt ku kl kn cd wt) s.heap := by rw [← e_mem]; exact hP
              have hD : va_D A (mw cI a sz st us kp ga gl cs (stM sz mem (nI x) (nI k) v) pl ln km ks kt ku kl kn cd wt) := by rw [← e_mem]; exact hD
              exact W.iret (v := ((-13))) hx hb hr (fun t ht hW => ⟨⟨((-13)), (), rfl, (show ((-13)) = stR sz (nI x) (nI k) from by rw [stR_ok n_x hk, if_neg (by omega), if_pos (by omega)]), by rw [ht]; exact hP, va_K.moved hW.alike hK, hD⟩, hS.F ht⟩) hS.2.2 dX4_set_36
          · exact absurd c_22 (by decide)
        · skip
          refine lv_if_ne (tgt := 28) hx hb dX4_set_22 (by decide) (fun c_22 => ?_) (fun c_22 => ?_)
          · exact absurd c_22 (by decide)
          · have c_22 : 0 = 0 := (nZ_eq (by omega)).mp c_22
            refine lv_bipush (v := ((-12))) hx hb dX4_set_25 (by decide) ?_
            have e_mem : mem = stM sz mem (nI x) (nI k) v := stM_no (show _ = (-12) by rw [stR_ok n_x hk, if_pos (by omega)]) (by decide)
            have hP : va_P (dC, dI) vwCl (mw cI a sz st us kp ga gl cs (stM sz mem (nI x) (nI k) v) pl ln km ks kt ku kl kn cd wt) s.heap := by rw [← e_mem]; exact hP
            have hD : va_D A (mw cI a sz st us kp ga gl cs (stM sz mem (nI x) (nI k) v) pl ln km ks kt ku kl kn cd wt) := by rw [← e_mem]; exact hD
            exact W.iret (v := ((-12))) hx hb hr (fun t ht hW => ⟨⟨((-12)), (), rfl, (show ((-12)) = stR sz (nI x) (nI k) from by rw [stR_ok n_x hk, if_pos (by omega)]), by rw [ht]; exact hP, va_K.moved hW.alike hK, hD⟩, hS.F ht⟩) hS.2.2 dX4_set_27
      · have c_8 : p1 < 0 := i0_nge.mp c_8
        refine lv_bipush (v := ((-11))) hx hb dX4_set_11 (by decide) ?_
        have e_mem : mem = stM sz mem p1 (nI k) v := stM_no (stR_w (by first | exact Or.inl hc_1 | exact Or.inr c_8)) (by decide)
        have hP : va_P (dC, dI) vwCl (mw cI a sz st us kp ga gl cs (stM sz mem p1 (nI k) v) pl ln km ks kt ku kl kn cd wt) s.heap := by rw [← e_mem]; exact hP
        have hD : va_D A (mw cI a sz st us kp ga gl cs (stM sz mem p1 (nI k) v) pl ln km ks kt ku kl kn cd wt) := by rw [← e_mem]; exact hD
        exact W.iret (v := ((-11))) hx hb hr (fun t ht hW => ⟨⟨((-11)), (), rfl, (show ((-11)) = stR sz p1 (nI k) from (stR_w (by first | exact Or.inl hc_1 | exact Or.inr c_8)).symm), by rw [ht]; exact hP, va_K.moved hW.alike hK, hD⟩, hS.F ht⟩) hS.2.2 dX4_set_13
  · refine lv_if_eq (tgt := 11) hx hb dX4_set_4 (by decide) (fun c_4 => ?_) (fun c_4 => ?_)
    · have c_4 : 0 = 0 := (nZ_eq (by omega)).mp c_4
      refine lv_bipush (v := ((-11))) hx hb dX4_set_11 (by decide) ?_
      have e_mem : mem = stM sz mem p1 p2 v := stM_no (stR_w (by first | exact Or.inl hc_1 | exact Or.inr c_8)) (by decide)
      have hP : va_P (dC, dI) vwCl (mw cI a sz st us kp ga gl cs (stM sz mem p1 p2 v) pl ln km ks kt ku kl kn cd wt) s.heap := by rw [← e_mem]; exact hP
      have hD : va_D A (mw cI a sz st us kp ga gl cs (stM sz mem p1 p2 v) pl ln km ks kt ku kl kn cd wt) := by rw [← e_mem]; exact hD
      exact W.iret (v := ((-11))) hx hb hr (fun t ht hW => ⟨⟨((-11)), (), rfl, (show ((-11)) = stR sz p1 p2 from (stR_w (by first | exact Or.inl hc_1 | exact Or.inr c_8)).symm), by rw [ht]; exact hP, va_K.moved hW.alike hK, hD⟩, hS.F ht⟩) hS.2.2 dX4_set_13
    · exact absurd c_4 (by decide)
set_option maxHeartbeats 4000000 in
set_option maxRecDepth 100000 in
theorem c_X4_zero (l : Launch) (dC : Nat → ClassId) (dI : Nat → Nat → Nat) (cI : ClassId) (a : Nat → Nat) (sz st us kp ga gl cs : Nat) (mem pl ln km ks kt ku kl kn cd wt : Nat → Nat) (zz : Nat) (p1 p2 : Int32) (g3 : sz ≤ 8192) : Met l yX4_zero wsX4_zero ({ frames := 1, cells := 0, slots := 0, locals := 24 }) (va_Pc [.ref (a 0), .int p1, .int p2] (fun U => U.heap.size = zz ∧ va_P (dC, dI) vwCl (mw cI a sz st us kp ga gl cs mem pl ln km ks kt ku kl kn cd wt) U.heap ∧ va_K (dC, dI) vwCl [(cI, .int)] U ∧ va_D (fun _ => True) (mw cI a sz st us kp ga gl cs mem pl ln km ks kt ku kl kn cd wt))) (va_Qi (fun r _ => r = zrR sz p1 p2) (fun (_ : Unit) t => va_P (dC, dI) vwCl (mw cI a sz st us kp ga gl cs (zrM sz mem p1 p2) pl ln km ks kt ku kl kn cd wt) t.heap ∧ va_K (dC, dI) vwCl [(cI, .int)] t ∧ va_D (va_A (mw cI a sz st us kp ga gl cs mem pl ln km ks kt ku kl kn cd wt) zz) (mw cI a sz st us kp ga gl cs (zrM sz mem p1 p2) pl ln km ks kt ku kl kn cd wt)) (va_A (mw cI a sz st us kp ga gl cs mem pl ln km ks kt ku kl kn cd wt) zz)) 0 0 (va_A (mw cI a sz st us kp ga gl cs mem pl ln km ks kt ku kl kn cd wt) zz) := by
  refine Met.ofW (cc := cX4_zero) (maxL := 4) (ret := (some .int)) (by decide) rfl ?_
  intro p e s m args below meth c s₁ B hml hv
  obtain ⟨rfl, hsz, hP, hK, hD0⟩ := hv
  have hx := B.exec
  have hb := B.bytes
  have hr := B.returns
  have hts := atoms_spec (ws := wsX4_zero) B.pre
  have hown : s.vm.findClass RX4 = some m.cls := findClass_of_methodNamed B.named
  have hlocks := B.notSynchronized
  subst hsz
  have hD := hD0.self (sz := s.heap.size)
  generalize hAe : va_A (mw cI a sz st us kp ga gl cs mem pl ln km ks kt ku kl kn cd wt) s.heap.size = A at hD ⊢
  have hA : ∀ q : Nat, s.heap.size ≤ q → A q := fun q h => by rw [← hAe]; exact Or.inr h
  have hS : va_S A s.heap s.heap [] := va_S.rf
  have hP : va_P (dC, dI) vwCl (mw cI a sz st us kp ga gl cs mem pl ln km ks kt ku kl kn cd wt) s.heap := hP
  have in_X4 : ∀ w ∈ wsX40, w ∈ wsX4_zero := fun _ h => List.mem_cons_of_mem _ (List.mem_append_right _ h)
  have lk_1 := hts (.fieldLink RX4 7 "GlulxHeapModel" "memory" "[I") (List.mem_of_getElem? (i := 1) rfl)
  have hl := lv_entry ([.ref (a 0), .int p1, .int p2]) (n := 4) (Nat.le_of_ble_eq_true rfl)
  rw [lg_entry_eq]
  generalize (lg_sl ([.ref (a 0), .int p1, .int p2]) ++ List.replicate (4 - (lg_sl ([.ref (a 0), .int p1, .int p2])).length) Slot.unset).toArray = ls at hl ⊢
  have hl : lv_has ls 4 [(0, .ref (a 0)), (1, .int p1), (2, .int p2)] := hl
  refine lv_iload_n hx hb dX4_zero_0 rfl (lv_at hl 1 rfl) ?_
  refine lv_if_lt (tgt := 8) hx hb dX4_zero_1 (by decide) (fun c_1 => ?_) (fun c_1 => ?_)
  · refine lv_bipush (v := ((-11))) hx hb dX4_zero_8 (by decide) ?_
    have e_mem : mem = zrM sz mem p1 p2 := zrM_no (zrR_w (by first | exact Or.inl c_1 | exact Or.inr c_5)) (by decide)
    have hP : va_P (dC, dI) vwCl (mw cI a sz st us kp ga gl cs (zrM sz mem p1 p2) pl ln km ks kt ku kl kn cd wt) s.heap := by rw [← e_mem]; exact hP
    have hD : va_D A (mw cI a sz st us kp ga gl cs (zrM sz mem p1 p2) pl ln km ks kt ku kl kn cd wt) := by rw [← e_mem]; exact hD
    exact W.iret (v := ((-11))) hx hb hr (fun t ht hW => ⟨⟨((-11)), (), rfl, (show ((-11)) = zrR sz p1 p2 from (zrR_w (by first | exact Or.inl c_1 | exact Or.inr c_5)).symm), by rw [ht]; exact hP, va_K.moved hW.alike hK, hD⟩, hS.F ht⟩) hS.2.2 dX4_zero_10
  · obtain ⟨x, n_x, rfl⟩ := nI_of c_1
    refine lv_iload_n hx hb dX4_zero_4 rfl (lv_at hl 2 rfl) ?_
    refine lv_if_ge (tgt := 11) hx hb dX4_zero_5 (by decide) (fun c_5 => ?_) (fun c_5 => ?_)
    · have c_5 : ¬ p2 < 0 := i0_ge.mp c_5
      obtain ⟨n, n_n, rfl⟩ := nI_of c_5
      refine lv_aload_n hx hb dX4_zero_11 rfl (lv_at hl 0 rfl) ?_
      refine lv_iload_n hx hb dX4_zero_12 rfl (lv_at hl 1 rfl) ?_
      refine lv_i2l (v := lN x) hx hb dX4_zero_13 (nI_l (by omega)) ?_
      refine lv_iload_n hx hb dX4_zero_14 rfl (lv_at hl 2 rfl) ?_
      refine lv_i2l (v := lN n) hx hb dX4_zero_15 (nI_l (by omega)) ?_
      refine vp_callSi (W.runV (As := [.long (lN x), .long (lN n)]) (rest := []) ⟨hx, hb, hml, hown, hts⟩ (c_X4_isIn l dC dI cI a sz st us kp ga gl cs mem pl ln km ks kt ku kl kn cd wt x n (by omega) (by omega) (by omega)) (cwV 2 hts gX4_zero_X4_isIn rfl rfl rfl (by decide +kernel) ⟨Nat.le_of_ble_eq_true rfl, Nat.le_of_ble_eq_true rfl⟩) ⟨fun a9 U g9 mk9 q9 => by obtain ⟨q0, qP, qK⟩ := q9; exact ⟨q0, qP, va_K.moved (u := U) (U := U.calling g9 mk9 a9) (Vm.Alike.refl U.vm) qK⟩, va_recv hK hP (ci := 4) (q0 := 0) rfl rfl, fun U hU hW => ⟨rfl, by rw [hU]; exact hP, va_K.moved hW.alike hK⟩⟩ rfl rfl hl.1 rfl (lv_room (Nat.le_of_ble_eq_true rfl)) dX4_zero_16 ⟨Nat.zero_le _, Nat.zero_le _⟩) (fun r_16 hw => ?_)
      try dsimp only at hw
      rcases hw with ⟨hc_16, rfl⟩ | ⟨hc_16, rfl⟩
      · skip
        refine lv_if_ne (tgt := 25) hx hb dX4_zero_19 (by decide) (fun c_19 => ?_) (fun c_19 => ?_)
        · have c_19 : ¬ 1 = 0 := fun q => c_19 ((nZ_eq (by omega)).mpr q)
          refine lv_iload_n hx hb dX4_zero_25 rfl (lv_at hl 2 rfl) ?_
          refine lv_if_le (tgt := 38) hx hb dX4_zero_26 (by decide) (fun c_26 => ?_) (fun c_26 => ?_)
          · have c_26 : n ≤ 0 := (nZ_le (by omega)).mp c_26
            refine lv_iconst (v := (nI 0)) hx hb dX4_zero_38 (by decide) ?_
            refine lv_istore_n (lv' := [(3, .int (nI 0)), (0, .ref (a 0)), (1, .int (nI x)), (2, .int (nI n))]) hx hb dX4_zero_39 rfl hl (by decide) rfl (fun ls hl => ?_)
            refine lp_world (σ := Nat × (Nat → Nat)) (fun ⟨i, f⟩ => i ≤ n ∧ f = zr mem x i) (fun ⟨i, f⟩ => n - i) (fun ⟨i, f⟩ => [(3, .int (nI i)), (0, .ref (a 0)), (1, .int (nI x)), (2, .int (nI n))]) (fun ⟨i, f⟩ => mw cI a sz st us kp ga gl cs f pl ln km ks kt ku kl kn cd wt) ?_ ((0, mem)) (⟨Nat.zero_le _, by rw [zr_0]⟩) (hP) (hD) hS (lv_sub hl [0, 1, 2, 3] rfl)
            intro ⟨i, f⟩ hI ih H locs ls hP hD hS hl
            have hl : lv_has ls 4 [(3, .int (nI i)), (0, .ref (a 0)), (1, .int (nI x)), (2, .int (nI n))] := hl
            have hP : va_P (dC, dI) vwCl (mw cI a sz st us kp ga gl cs f pl ln km ks kt ku kl kn cd wt) H := hP
            have hD : va_D A (mw cI a sz st us kp ga gl cs f pl ln km ks kt ku kl kn cd wt) := hD
            have hI : i ≤ n ∧ f = zr mem x i := hI
            obtain ⟨hi, hf⟩ := hI
            have ih_40 := ih
            refine lv_iload_n hx hb dX4_zero_40 rfl (lv_at hl 0 rfl) ?_
            refine lv_iload_n hx hb dX4_zero_41 rfl (lv_at hl 3 rfl) ?_
            refine lv_icmp_ge (tgt := 60) hx hb dX4_zero_42 (by decide) (fun c_42 => ?_) (fun c_42 => ?_)
            · have c_42 : n ≤ i := (nI_leI (a := n) (b := i) (by omega) (by omega)).mp c_42
              refine lv_iconst (v := (nI 1)) hx hb dX4_zero_60 (by decide) ?_
              have e_mem : f = zrM sz mem (nI x) (nI n) := by rw [zrM_ok (by rw [zrR_ok n_x n_n, if_neg (by omega), if_neg (by omega)]) n_x n_n, hf, show i = n by omega]
              have hP : va_P (dC, dI) vwCl (mw cI a sz st us kp ga gl cs (zrM sz mem (nI x) (nI n)) pl ln km ks kt ku kl kn cd wt) H := by rw [← e_mem]; exact hP
              have hD : va_D A (mw cI a sz st us kp ga gl cs (zrM sz mem (nI x) (nI n)) pl ln km ks kt ku kl kn cd wt) := by rw [← e_mem]; exact hD
              exact W.iret (v := (nI 1)) hx hb hr (fun t ht hW => ⟨⟨(nI 1), (), rfl, (show (nI 1) = zrR sz (nI x) (nI n) from by rw [zrR_ok n_x n_n, if_neg (by omega), if_neg (by omega)]), by rw [ht]; exact hP, va_K.moved hW.alike hK, hD⟩, hS.F ht⟩) hS.2.2 dX4_zero_61
            · have c_42 : ¬ n ≤ i := fun q => c_42 ((nI_leI (a := n) (b := i) (by omega) (by omega)).mpr q)
              refine lv_aload_n hx hb dX4_zero_45 rfl (lv_at hl 1 rfl) ?_
              refine va_get (D := (dC, dI)) (ci := 4) (v := .ref (a 1)) (C := RX4) (T := TX4) (N := 18) hx hb hts in_X4 hown hK hP 0 rfl rfl 0 (by decide) lk_1 (fun _ h9 => h9) rfl dX4_zero_46 ?_
              refine lv_iload_n hx hb dX4_zero_49 rfl (lv_at hl 2 rfl) ?_
              refine lv_iload_n hx hb dX4_zero_50 rfl (lv_at hl 0 rfl) ?_
              refine lv_iadd hx hb dX4_zero_51 ?_
              refine tpi (nI_add _ _) ?_
              refine lv_iconst (v := (nI 0)) hx hb dX4_zero_52 (by decide) ?_
              refine va_iast hx hb hK hP hD hS 1 0 rfl rfl (vp_in_nI (by omega) (by omega)) dX4_zero_53 (fun H locs hP hD hS => ?_)
              rw [nf_up (by omega)] at hP hD
              have hP : va_P (dC, dI) vwCl (mw cI a sz st us kp ga gl cs (va_up f (x + i) 0) pl ln km ks kt ku kl kn cd wt) H := hP
              have hD : va_D A (mw cI a sz st us kp ga gl cs (va_up f (x + i) 0) pl ln km ks kt ku kl kn cd wt) := hD
              refine lv_iinc (v := (nI (i + 1))) (lv' := [(3, .int (nI (i + 1))), (0, .ref (a 0)), (1, .int (nI x)), (2, .int (nI n))]) hx hb dX4_zero_54 hl (k := 0) rfl (nI_inc _) (by decide) rfl (fun ls hl => ?_)
              refine lv_goto (tgt := 40) hx hb dX4_zero_57 (by decide) ?_
              exact ih_40 (i + 1, va_up f (x + i) 0) (⟨by omega, by rw [hf, zr_s]⟩) (show n - (i + 1) < n - i by omega) H locs ls (hP) (hD) hS (lv_sub hl [0, 1, 2, 3] rfl)
          · have c_26 : ¬ n ≤ 0 := fun q => c_26 ((nZ_le (by omega)).mpr q)
            refine lv_iload_n hx hb dX4_zero_29 rfl (lv_at hl 1 rfl) ?_
            refine lv_bipush (v := (nI 64)) hx hb dX4_zero_30 (by decide) ?_
            refine lv_icmp_ge (tgt := 38) hx hb dX4_zero_32 (by decide) (fun c_32 => ?_) (fun c_32 => ?_)
            · have c_32 : 64 ≤ x := (nI_leI (a := 64) (b := x) (by omega) (by omega)).mp c_32
              refine lv_iconst (v := (nI 0)) hx hb dX4_zero_38 (by decide) ?_
              refine lv_istore_n (lv' := [(3, .int (nI 0)), (0, .ref (a 0)), (1, .int (nI x)), (2, .int (nI n))]) hx hb dX4_zero_39 rfl hl (by decide) rfl (fun ls hl => ?_)
              refine lp_world (σ := Nat × (Nat → Nat)) (fun ⟨i, f⟩ => i ≤ n ∧ f = zr mem x i) (fun ⟨i, f⟩ => n - i) (fun ⟨i, f⟩ => [(3, .int (nI i)), (0, .ref (a 0)), (1, .int (nI x)), (2, .int (nI n))]) (fun ⟨i, f⟩ => mw cI a sz st us kp ga gl cs f pl ln km ks kt ku kl kn cd wt) ?_ ((0, mem)) (⟨Nat.zero_le _, by rw [zr_0]⟩) (hP) (hD) hS (lv_sub hl [0, 1, 2, 3] rfl)
              intro ⟨i, f⟩ hI ih H locs ls hP hD hS hl
              have hl : lv_has ls 4 [(3, .int (nI i)), (0, .ref (a 0)), (1, .int (nI x)), (2, .int (nI n))] := hl
              have hP : va_P (dC, dI) vwCl (mw cI a sz st us kp ga gl cs f pl ln km ks kt ku kl kn cd wt) H := hP
              have hD : va_D A (mw cI a sz st us kp ga gl cs f pl ln km ks kt ku kl kn cd wt) := hD
              have hI : i ≤ n ∧ f = zr mem x i := hI
              obtain ⟨hi, hf⟩ := hI
              have ih_40 := ih
              refine lv_iload_n hx hb dX4_zero_40 rfl (lv_at hl 0 rfl) ?_
              refine lv_iload_n hx hb dX4_zero_41 rfl (lv_at hl 3 rfl) ?_
              refine lv_icmp_ge (tgt := 60) hx hb dX4_zero_42 (by decide) (fun c_42 => ?_) (fun c_42 => ?_)
              · have c_42 : n ≤ i := (nI_leI (a := n) (b := i) (by omega) (by omega)).mp c_42
                refine lv_iconst (v := (nI 1)) hx hb dX4_zero_60 (by decide) ?_
                have e_mem : f = zrM sz mem (nI x) (nI n) := by rw [zrM_ok (by rw [zrR_ok n_x n_n, if_neg (by omega), if_neg (by omega)]) n_x n_n, hf, show i = n by omega]
                have hP : va_P (dC, dI) vwCl (mw cI a sz st us kp ga gl cs (zrM sz mem (nI x) (nI n)) pl ln km ks kt ku kl kn cd wt) H := by rw [← e_mem]; exact hP
                have hD : va_D A (mw cI a sz st us kp ga gl cs (zrM sz mem (nI x) (nI n)) pl ln km ks kt ku kl kn cd wt) := by rw [← e_mem]; exact hD
                exact W.iret (v := (nI 1)) hx hb hr (fun t ht hW => ⟨⟨(nI 1), (), rfl, (show (nI 1) = zrR sz (nI x) (nI n) from by rw [zrR_ok n_x n_n, if_neg (by omega), if_neg (by omega)]), by rw [ht]; exact hP, va_K.moved hW.alike hK, hD⟩, hS.F ht⟩) hS.2.2 dX4_zero_61
              · have c_42 : ¬ n ≤ i := fun q => c_42 ((nI_leI (a := n) (b := i) (by omega) (by omega)).mpr q)
                refine lv_aload_n hx hb dX4_zero_45 rfl (lv_at hl 1 rfl) ?_
                refine va_get (D := (dC, dI)) (ci := 4) (v := .ref (a 1)) (C := RX4) (T := TX4) (N := 18) hx hb hts in_X4 hown hK hP 0 rfl rfl 0 (by decide) lk_1 (fun _ h9 => h9) rfl dX4_zero_46 ?_
                refine lv_iload_n hx hb dX4_zero_49 rfl (lv_at hl 2 rfl) ?_
                refine lv_iload_n hx hb dX4_zero_50 rfl (lv_at hl 0 rfl) ?_
                refine lv_iadd hx hb dX4_zero_51 ?_
                refine tpi (nI_add _ _) ?_
                refine lv_iconst (v := (nI 0)) hx hb dX4_zero_52 (by decide) ?_
                refine va_iast hx hb hK hP hD hS 1 0 rfl rfl (vp_in_nI (by omega) (by omega)) dX4_zero_53 (fun H locs hP hD hS => ?_)
                rw [nf_up (by omega)] at hP hD
                have hP : va_P (dC, dI) vwCl (mw cI a sz st us kp ga gl cs (va_up f (x + i) 0) pl ln km ks kt ku kl kn cd wt) H := hP
                have hD : va_D A (mw cI a sz st us kp ga gl cs (va_up f (x + i) 0) pl ln km ks kt ku kl kn cd wt) := hD
                refine lv_iinc (v := (nI (i + 1))) (lv' := [(3, .int (nI (i + 1))), (0, .ref (a 0)), (1, .int (nI x)), (2, .int (nI n))]) hx hb dX4_zero_54 hl (k := 0) rfl (nI_inc _) (by decide) rfl (fun ls hl => ?_)
                refine lv_goto (tgt := 40) hx hb dX4_zero_57 (by decide) ?_
                exact ih_40 (i + 1, va_up f (x + i) 0) (⟨by omega, by rw [hf, zr_s]⟩) (show n - (i + 1) < n - i by omega) H locs ls (hP) (hD) hS (lv_sub hl [0, 1, 2, 3] rfl)
            · have c_32 : ¬ 64 ≤ x := fun q => c_32 ((nI_leI (a := 64) (b := x) (by omega) (by omega)).mpr q)
              refine lv_bipush (v := ((-13))) hx hb dX4_zero_35 (by decide) ?_
              have e_mem : mem = zrM sz mem (nI x) (nI n) := zrM_no (show _ = (-13) by rw [zrR_ok n_x n_n, if_neg (by omega), if_pos (by omega)]) (by decide)
              have hP : va_P (dC, dI) vwCl (mw cI a sz st us kp ga gl cs (zrM sz mem (nI x) (nI n)) pl ln km ks kt ku kl kn cd wt) s.heap := by rw [← e_mem]; exact hP
              have hD : va_D A (mw cI a sz st us kp ga gl cs (zrM sz mem (nI x) (nI n)) pl ln km ks kt ku kl kn cd wt) := by rw [← e_mem]; exact hD
              exact W.iret (v := ((-13))) hx hb hr (fun t ht hW => ⟨⟨((-13)), (), rfl, (show ((-13)) = zrR sz (nI x) (nI n) from by rw [zrR_ok n_x n_n, if_neg (by omega), if_pos (by omega)]), by rw [ht]; exact hP, va_K.moved hW.alike hK, hD⟩, hS.F ht⟩) hS.2.2 dX4_zero_37
        · exact absurd c_19 (by decide)
      · skip
        refine lv_if_ne (tgt := 25) hx hb dX4_zero_19 (by decide) (fun c_19 => ?_) (fun c_19 => ?_)
        · exact absurd c_19 (by decide)
        · have c_19 : 0 = 0 := (nZ_eq (by omega)).mp c_19
          refine lv_bipush (v := ((-12))) hx hb dX4_zero_22 (by decide) ?_
          have e_mem : mem = zrM sz mem (nI x) (nI n) := zrM_no (show _ = (-12) by rw [zrR_ok n_x n_n, if_pos (by omega)]) (by decide)
          have hP : va_P (dC, dI) vwCl (mw cI a sz st us kp ga gl cs (zrM sz mem (nI x) (nI n)) pl ln km ks kt ku kl kn cd wt) s.heap := by rw [← e_mem]; exact hP
          have hD : va_D A (mw cI a sz st us kp ga gl cs (zrM sz mem (nI x) (nI n)) pl ln km ks kt ku kl kn cd wt) := by rw [← e_mem]; exact hD
          exact W.iret (v := ((-12))) hx hb hr (fun t ht hW => ⟨⟨((-12)), (), rfl, (show ((-12)) = zrR sz (nI x) (nI n) from by rw [zrR_ok n_x n_n, if_pos (by omega)]), by rw [ht]; exact hP, va_K.moved hW.alike hK, hD⟩, hS.F ht⟩) hS.2.2 dX4_zero_24
    · have c_5 : p2 < 0 := i0_nge.mp c_5
      refine lv_bipush (v := ((-11))) hx hb dX4_zero_8 (by decide) ?_
      have e_mem : mem = zrM sz mem (nI x) p2 := zrM_no (zrR_w (by first | exact Or.inl c_1 | exact Or.inr c_5)) (by decide)
      have hP : va_P (dC, dI) vwCl (mw cI a sz st us kp ga gl cs (zrM sz mem (nI x) p2) pl ln km ks kt ku kl kn cd wt) s.heap := by rw [← e_mem]; exact hP
      have hD : va_D A (mw cI a sz st us kp ga gl cs (zrM sz mem (nI x) p2) pl ln km ks kt ku kl kn cd wt) := by rw [← e_mem]; exact hD
      exact W.iret (v := ((-11))) hx hb hr (fun t ht hW => ⟨⟨((-11)), (), rfl, (show ((-11)) = zrR sz (nI x) p2 from (zrR_w (by first | exact Or.inl c_1 | exact Or.inr c_5)).symm), by rw [ht]; exact hP, va_K.moved hW.alike hK, hD⟩, hS.F ht⟩) hS.2.2 dX4_zero_10
set_option maxHeartbeats 4000000 in
set_option maxRecDepth 100000 in
theorem c_X4_copy (l : Launch) (dC : Nat → ClassId) (dI : Nat → Nat → Nat) (cI : ClassId) (a : Nat → Nat) (sz st us kp ga gl cs : Nat) (mem pl ln km ks kt ku kl kn cd wt : Nat → Nat) (zz : Nat) (p1 p2 p3 : Int32) (g3 : sz ≤ 8192) : Met l yX4_copy wsX4_copy ({ frames := 1, cells := 0, slots := 0, locals := 24 }) (va_Pc [.ref (a 0), .int p1, .int p2, .int p3] (fun U => U.heap.size = zz ∧ va_P (dC, dI) vwCl (mw cI a sz st us kp ga gl cs mem pl ln km ks kt ku kl kn cd wt) U.heap ∧ va_K (dC, dI) vwCl [(cI, .int)] U ∧ va_D (fun _ => True) (mw cI a sz st us kp ga gl cs mem pl ln km ks kt ku kl kn cd wt))) (va_Qi (fun r _ => r = cpR sz p1 p2 p3) (fun (_ : Unit) t => va_P (dC, dI) vwCl (mw cI a sz st us kp ga gl cs (cpM sz mem p1 p2 p3) pl ln km ks kt ku kl kn cd wt) t.heap ∧ va_K (dC, dI) vwCl [(cI, .int)] t ∧ va_D (va_A (mw cI a sz st us kp ga gl cs mem pl ln km ks kt ku kl kn cd wt) zz) (mw cI a sz st us kp ga gl cs (cpM sz mem p1 p2 p3) pl ln km ks kt ku kl kn cd wt)) (va_A (mw cI a sz st us kp ga gl cs mem pl ln km ks kt ku kl kn cd wt) zz)) 0 0 (va_A (mw cI a sz st us kp ga gl cs mem pl ln km ks kt ku kl kn cd wt) zz) := by
  refine Met.ofW (cc := cX4_copy) (maxL := 6) (ret := (some .int)) (by decide) rfl ?_
  intro p e s m args below meth c s₁ B hml hv
  obtain ⟨rfl, hsz, hP, hK, hD0⟩ := hv
  have hx := B.exec
  have hb := B.bytes
  have hr := B.returns
  have hts := atoms_spec (ws := wsX4_copy) B.pre
  have hown : s.vm.findClass RX4 = some m.cls := findClass_of_methodNamed B.named
  have hlocks := B.notSynchronized
  subst hsz
  have hD := hD0.self (sz := s.heap.size)
  generalize hAe : va_A (mw cI a sz st us kp ga gl cs mem pl ln km ks kt ku kl kn cd wt) s.heap.size = A at hD ⊢
  have hA : ∀ q : Nat, s.heap.size ≤ q → A q := fun q h => by rw [← hAe]; exact Or.inr h
  have hS : va_S A s.heap s.heap [] := va_S.rf
  have hP : va_P (dC, dI) vwCl (mw cI a sz st us kp ga gl cs mem pl ln km ks kt ku kl kn cd wt) s.heap := hP
  have in_X4 : ∀ w ∈ wsX40, w ∈ wsX4_copy := fun _ h => List.mem_cons_of_mem _ (List.mem_append_right _ h)
  have lk_1 := hts (.fieldLink RX4 7 "GlulxHeapModel" "memory" "[I") (List.mem_of_getElem? (i := 1) rfl)
  have hl := lv_entry ([.ref (a 0), .int p1, .int p2, .int p3]) (n := 6) (Nat.le_of_ble_eq_true rfl)
  rw [lg_entry_eq]
  generalize (lg_sl ([.ref (a 0), .int p1, .int p2, .int p3]) ++ List.replicate (6 - (lg_sl ([.ref (a 0), .int p1, .int p2, .int p3])).length) Slot.unset).toArray = ls at hl ⊢
  have hl : lv_has ls 6 [(0, .ref (a 0)), (1, .int p1), (2, .int p2), (3, .int p3)] := hl
  refine lv_iload_n hx hb dX4_copy_0 rfl (lv_at hl 1 rfl) ?_
  refine lv_if_lt (tgt := 12) hx hb dX4_copy_1 (by decide) (fun c_1 => ?_) (fun c_1 => ?_)
  · refine lv_bipush (v := ((-11))) hx hb dX4_copy_12 (by decide) ?_
    have e_mem : mem = cpM sz mem p1 p2 p3 := cpM_no (cpR_w (by first | exact Or.inl c_1 | exact Or.inr (Or.inl c_5) | exact Or.inr (Or.inr c_9))) (by decide)
    have hP : va_P (dC, dI) vwCl (mw cI a sz st us kp ga gl cs (cpM sz mem p1 p2 p3) pl ln km ks kt ku kl kn cd wt) s.heap := by rw [← e_mem]; exact hP
    have hD : va_D A (mw cI a sz st us kp ga gl cs (cpM sz mem p1 p2 p3) pl ln km ks kt ku kl kn cd wt) := by rw [← e_mem]; exact hD
    exact W.iret (v := ((-11))) hx hb hr (fun t ht hW => ⟨⟨((-11)), (), rfl, (show ((-11)) = cpR sz p1 p2 p3 from (cpR_w (by first | exact Or.inl c_1 | exact Or.inr (Or.inl c_5) | exact Or.inr (Or.inr c_9))).symm), by rw [ht]; exact hP, va_K.moved hW.alike hK, hD⟩, hS.F ht⟩) hS.2.2 dX4_copy_14
  · obtain ⟨x, n_x, rfl⟩ := nI_of c_1
    refine lv_iload_n hx hb dX4_copy_4 rfl (lv_at hl 2 rfl) ?_
    refine lv_if_lt (tgt := 12) hx hb dX4_copy_5 (by decide) (fun c_5 => ?_) (fun c_5 => ?_)
    · refine lv_bipush (v := ((-11))) hx hb dX4_copy_12 (by decide) ?_
      have e_mem : mem = cpM sz mem (nI x) p2 p3 := cpM_no (cpR_w (by first | exact Or.inl c_1 | exact Or.inr (Or.inl c_5) | exact Or.inr (Or.inr c_9))) (by decide)
      have hP : va_P (dC, dI) vwCl (mw cI a sz st us kp ga gl cs (cpM sz mem (nI x) p2 p3) pl ln km ks kt ku kl kn cd wt) s.heap := by rw [← e_mem]; exact hP
      have hD : va_D A (mw cI a sz st us kp ga gl cs (cpM sz mem (nI x) p2 p3) pl ln km ks kt ku kl kn cd wt) := by rw [← e_mem]; exact hD
      exact W.iret (v := ((-11))) hx hb hr (fun t ht hW => ⟨⟨((-11)), (), rfl, (show ((-11)) = cpR sz (nI x) p2 p3 from (cpR_w (by first | exact Or.inl c_1 | exact Or.inr (Or.inl c_5) | exact Or.inr (Or.inr c_9))).symm), by rw [ht]; exact hP, va_K.moved hW.alike hK, hD⟩, hS.F ht⟩) hS.2.2 dX4_copy_14
    · obtain ⟨y, n_y, rfl⟩ := nI_of c_5
      refine lv_iload_n hx hb dX4_copy_8 rfl (lv_at hl 3 rfl) ?_
      refine lv_if_ge (tgt := 15) hx hb dX4_copy_9 (by decide) (fun c_9 => ?_) (fun c_9 => ?_)
      · have c_9 : ¬ p3 < 0 := i0_ge.mp c_9
        obtain ⟨n, n_n, rfl⟩ := nI_of c_9
        refine lv_aload_n hx hb dX4_copy_15 rfl (lv_at hl 0 rfl) ?_
        refine lv_iload_n hx hb dX4_copy_16 rfl (lv_at hl 1 rfl) ?_
        refine lv_i2l (v := lN x) hx hb dX4_copy_17 (nI_l (by omega)) ?_
        refine lv_iload_n hx hb dX4_copy_18 rfl (lv_at hl 3 rfl) ?_
        refine lv_i2l (v := lN n) hx hb dX4_copy_19 (nI_l (by omega)) ?_
        refine vp_callSi (W.runV (As := [.long (lN x), .long (lN n)]) (rest := []) ⟨hx, hb, hml, hown, hts⟩ (c_X4_isIn l dC dI cI a sz st us kp ga gl cs mem pl ln km ks kt ku kl kn cd wt x n (by omega) (by omega) (by omega)) (cwV 2 hts gX4_copy_X4_isIn rfl rfl rfl (by decide +kernel) ⟨Nat.le_of_ble_eq_true rfl, Nat.le_of_ble_eq_true rfl⟩) ⟨fun a9 U g9 mk9 q9 => by obtain ⟨q0, qP, qK⟩ := q9; exact ⟨q0, qP, va_K.moved (u := U) (U := U.calling g9 mk9 a9) (Vm.Alike.refl U.vm) qK⟩, va_recv hK hP (ci := 4) (q0 := 0) rfl rfl, fun U hU hW => ⟨rfl, by rw [hU]; exact hP, va_K.moved hW.alike hK⟩⟩ rfl rfl hl.1 rfl (lv_room (Nat.le_of_ble_eq_true rfl)) dX4_copy_20 ⟨Nat.zero_le _, Nat.zero_le _⟩) (fun r_20 hw => ?_)
        try dsimp only at hw
        rcases hw with ⟨hc_20, rfl⟩ | ⟨hc_20, rfl⟩
        · skip
          refine lv_if_eq (tgt := 37) hx hb dX4_copy_23 (by decide) (fun c_23 => ?_) (fun c_23 => ?_)
          · exact absurd c_23 (by decide)
          · have c_23 : ¬ 1 = 0 := fun q => c_23 ((nZ_eq (by omega)).mpr q)
            refine lv_aload_n hx hb dX4_copy_26 rfl (lv_at hl 0 rfl) ?_
            refine lv_iload_n hx hb dX4_copy_27 rfl (lv_at hl 2 rfl) ?_
            refine lv_i2l (v := lN y) hx hb dX4_copy_28 (nI_l (by omega)) ?_
            refine lv_iload_n hx hb dX4_copy_29 rfl (lv_at hl 3 rfl) ?_
            refine lv_i2l (v := lN n) hx hb dX4_copy_30 (nI_l (by omega)) ?_
            refine vp_callSi (W.runV (As := [.long (lN y), .long (lN n)]) (rest := []) ⟨hx, hb, hml, hown, hts⟩ (c_X4_isIn l dC dI cI a sz st us kp ga gl cs mem pl ln km ks kt ku kl kn cd wt y n (by omega) (by omega) (by omega)) (cwV 2 hts gX4_copy_X4_isIn rfl rfl rfl (by decide +kernel) ⟨Nat.le_of_ble_eq_true rfl, Nat.le_of_ble_eq_true rfl⟩) ⟨fun a9 U g9 mk9 q9 => by obtain ⟨q0, qP, qK⟩ := q9; exact ⟨q0, qP, va_K.moved (u := U) (U := U.calling g9 mk9 a9) (Vm.Alike.refl U.vm) qK⟩, va_recv hK hP (ci := 4) (q0 := 0) rfl rfl, fun U hU hW => ⟨rfl, by rw [hU]; exact hP, va_K.moved hW.alike hK⟩⟩ rfl rfl hl.1 rfl (lv_room (Nat.le_of_ble_eq_true rfl)) dX4_copy_31 ⟨Nat.zero_le _, Nat.zero_le _⟩) (fun r_31 hw => ?_)
            try dsimp only at hw
            rcases hw with ⟨hc_31, rfl⟩ | ⟨hc_31, rfl⟩
            · skip
              refine lv_if_ne (tgt := 40) hx hb dX4_copy_34 (by decide) (fun c_34 => ?_) (fun c_34 => ?_)
              · have c_34 : ¬ 1 = 0 := fun q => c_34 ((nZ_eq (by omega)).mpr q)
                refine lv_iload_n hx hb dX4_copy_40 rfl (lv_at hl 3 rfl) ?_
                refine lv_if_le (tgt := 53) hx hb dX4_copy_41 (by decide) (fun c_41 => ?_) (fun c_41 => ?_)
                · have c_41 : n ≤ 0 := (nZ_le (by omega)).mp c_41
                  refine lv_iconst (v := (nI 0)) hx hb dX4_copy_53 (by decide) ?_
                  refine lv_istore (lv' := [(4, .int (nI 0)), (0, .ref (a 0)), (1, .int (nI x)), (2, .int (nI y)), (3, .int (nI n))]) hx hb dX4_copy_54 hl (by decide) rfl (fun ls hl => ?_)
                  refine lp_world (σ := Nat × (Nat → Nat)) (fun ⟨i, f⟩ => i ≤ n ∧ (x < y → f = va_cpy mem mem (x + (n - i)) (y + (n - i)) i) ∧ (¬ x < y → f = va_cpy mem mem x y i)) (fun ⟨i, f⟩ => n - i) (fun ⟨i, f⟩ => [(4, .int (nI i)), (0, .ref (a 0)), (1, .int (nI x)), (2, .int (nI y)), (3, .int (nI n))]) (fun ⟨i, f⟩ => mw cI a sz st us kp ga gl cs f pl ln km ks kt ku kl kn cd wt) ?_ ((0, mem)) (⟨Nat.zero_le _, fun _ => by rw [cpy_0], fun _ => by rw [cpy_0]⟩) (hP) (hD) hS (lv_sub hl [0, 1, 2, 3, 4] rfl)
                  intro ⟨i, f⟩ hI ih H locs ls hP hD hS hl
                  have hl : lv_has ls 6 [(4, .int (nI i)), (0, .ref (a 0)), (1, .int (nI x)), (2, .int (nI y)), (3, .int (nI n))] := hl
                  have hP : va_P (dC, dI) vwCl (mw cI a sz st us kp ga gl cs f pl ln km ks kt ku kl kn cd wt) H := hP
                  have hD : va_D A (mw cI a sz st us kp ga gl cs f pl ln km ks kt ku kl kn cd wt) := hD
                  have hI : i ≤ n ∧ (x < y → f = va_cpy mem mem (x + (n - i)) (y + (n - i)) i) ∧ (¬ x < y → f = va_cpy mem mem x y i) := hI
                  obtain ⟨hi, hf1, hf2⟩ := hI
                  have ih_56 := ih
                  refine lv_iload hx hb dX4_copy_56 (lv_at hl 0 rfl) ?_
                  refine lv_iload_n hx hb dX4_copy_58 rfl (lv_at hl 4 rfl) ?_
                  refine lv_icmp_ge (tgt := 104) hx hb dX4_copy_59 (by decide) (fun c_59 => ?_) (fun c_59 => ?_)
                  · have c_59 : n ≤ i := (nI_leI (a := n) (b := i) (by omega) (by omega)).mp c_59
                    refine lv_iconst (v := (nI 1)) hx hb dX4_copy_104 (by decide) ?_
                    have e_mem : f = cpM sz mem (nI x) (nI y) (nI n) := by rw [cpM_ok (by rw [cpR_ok n_x n_y n_n, if_neg (by omega), if_neg (by omega)]) n_x n_y n_n]; exact if h : x < y then by rw [hf1 h, show i = n by omega, Nat.sub_self, Nat.add_zero, Nat.add_zero] else by rw [hf2 h, show i = n by omega]
                    have hP : va_P (dC, dI) vwCl (mw cI a sz st us kp ga gl cs (cpM sz mem (nI x) (nI y) (nI n)) pl ln km ks kt ku kl kn cd wt) H := by rw [← e_mem]; exact hP
                    have hD : va_D A (mw cI a sz st us kp ga gl cs (cpM sz mem (nI x) (nI y) (nI n)) pl ln km ks kt ku kl kn cd wt) := by rw [← e_mem]; exact hD
                    exact W.iret (v := (nI 1)) hx hb hr (fun t ht hW => ⟨⟨(nI 1), (), rfl, (show (nI 1) = cpR sz (nI x) (nI y) (nI n) from by rw [cpR_ok n_x n_y n_n, if_neg (by omega), if_neg (by omega)]), by rw [ht]; exact hP, va_K.moved hW.alike hK, hD⟩, hS.F ht⟩) hS.2.2 dX4_copy_105
                  · have c_59 : ¬ n ≤ i := fun q => c_59 ((nI_leI (a := n) (b := i) (by omega) (by omega)).mpr q)
                    refine lv_iload_n hx hb dX4_copy_62 rfl (lv_at hl 2 rfl) ?_
                    refine lv_iload_n hx hb dX4_copy_63 rfl (lv_at hl 3 rfl) ?_
                    refine lv_icmp_ge (tgt := 76) hx hb dX4_copy_64 (by decide) (fun c_64 => ?_) (fun c_64 => ?_)
                    · have c_64 : y ≤ x := (nI_leI (a := y) (b := x) (by omega) (by omega)).mp c_64
                      refine lv_iload hx hb dX4_copy_76 (lv_at hl 0 rfl) ?_
                      refine lv_istore (lv' := [(5, .int (nI i)), (4, .int (nI i)), (0, .ref (a 0)), (1, .int (nI x)), (2, .int (nI y)), (3, .int (nI n))]) hx hb dX4_copy_78 hl (by decide) rfl (fun ls hl => ?_)
                      refine lv_aload_n hx hb dX4_copy_80 rfl (lv_at hl 2 rfl) ?_
                      refine va_get (D := (dC, dI)) (ci := 4) (v := .ref (a 1)) (C := RX4) (T := TX4) (N := 18) hx hb hts in_X4 hown hK hP 0 rfl rfl 0 (by decide) lk_1 (fun _ h9 => h9) rfl dX4_copy_81 ?_
                      refine lv_iload_n hx hb dX4_copy_84 rfl (lv_at hl 4 rfl) ?_
                      refine lv_iload hx hb dX4_copy_85 (lv_at hl 0 rfl) ?_
                      refine lv_iadd hx hb dX4_copy_87 ?_
                      refine tpi (nI_add _ _) ?_
                      refine lv_aload_n hx hb dX4_copy_88 rfl (lv_at hl 2 rfl) ?_
                      refine va_get (D := (dC, dI)) (ci := 4) (v := .ref (a 1)) (C := RX4) (T := TX4) (N := 18) hx hb hts in_X4 hown hK hP 0 rfl rfl 0 (by decide) lk_1 (fun _ h9 => h9) rfl dX4_copy_89 ?_
                      refine lv_iload_n hx hb dX4_copy_92 rfl (lv_at hl 3 rfl) ?_
                      refine lv_iload hx hb dX4_copy_93 (lv_at hl 0 rfl) ?_
                      refine lv_iadd hx hb dX4_copy_95 ?_
                      refine tpi (nI_add _ _) ?_
                      refine va_iald hx hb hK hP 1 0 rfl rfl (vp_in_nI (by omega) (by omega)) dX4_copy_96 ?_
                      refine tpi (nf_at (by omega)) ?_
                      refine va_iast hx hb hK hP hD hS 1 0 rfl rfl (vp_in_nI (by omega) (by omega)) dX4_copy_97 (fun H locs hP hD hS => ?_)
                      rw [nf_up (by omega)] at hP hD
                      have hP : va_P (dC, dI) vwCl (mw cI a sz st us kp ga gl cs (va_up f (y + i) (f (x + i))) pl ln km ks kt ku kl kn cd wt) H := hP
                      have hD : va_D A (mw cI a sz st us kp ga gl cs (va_up f (y + i) (f (x + i))) pl ln km ks kt ku kl kn cd wt) := hD
                      refine lv_iinc (v := (nI (i + 1))) (lv' := [(4, .int (nI (i + 1))), (5, .int (nI i)), (0, .ref (a 0)), (1, .int (nI x)), (2, .int (nI y)), (3, .int (nI n))]) hx hb dX4_copy_98 hl (k := 1) rfl (nI_inc _) (by decide) rfl (fun ls hl => ?_)
                      refine lv_goto (tgt := 56) hx hb dX4_copy_101 (by decide) ?_
                      exact ih_56 (i + 1, va_up f (y + i) (f (x + i))) (⟨by omega, fun h => absurd h (by omega), fun h => by rw [hf2 h, cpy_up (n := n) h]⟩) (show n - (i + 1) < n - i by omega) H locs ls (hP) (hD) hS (lv_sub hl [0, 2, 3, 4, 5] rfl)
                    · have c_64 : ¬ y ≤ x := fun q => c_64 ((nI_leI (a := y) (b := x) (by omega) (by omega)).mpr q)
                      refine lv_iload_n hx hb dX4_copy_67 rfl (lv_at hl 4 rfl) ?_
                      refine lv_iconst (v := (nI 1)) hx hb dX4_copy_68 (by decide) ?_
                      refine lv_isub hx hb dX4_copy_69 ?_
                      refine tpi (pk_sub (by omega)) ?_
                      refine lv_iload hx hb dX4_copy_70 (lv_at hl 0 rfl) ?_
                      refine lv_isub hx hb dX4_copy_72 ?_
                      refine tpi (pk_sub (by omega)) ?_
                      refine lv_goto (tgt := 78) hx hb dX4_copy_73 (by decide) ?_
                      refine lv_istore (lv' := [(5, .int (nI (n - 1 - i))), (4, .int (nI i)), (0, .ref (a 0)), (1, .int (nI x)), (2, .int (nI y)), (3, .int (nI n))]) hx hb dX4_copy_78 hl (by decide) rfl (fun ls hl => ?_)
                      refine lv_aload_n hx hb dX4_copy_80 rfl (lv_at hl 2 rfl) ?_
                      refine va_get (D := (dC, dI)) (ci := 4) (v := .ref (a 1)) (C := RX4) (T := TX4) (N := 18) hx hb hts in_X4 hown hK hP 0 rfl rfl 0 (by decide) lk_1 (fun _ h9 => h9) rfl dX4_copy_81 ?_
                      refine lv_iload_n hx hb dX4_copy_84 rfl (lv_at hl 4 rfl) ?_
                      refine lv_iload hx hb dX4_copy_85 (lv_at hl 0 rfl) ?_
                      refine lv_iadd hx hb dX4_copy_87 ?_
                      refine tpi (nI_add _ _) ?_
                      refine lv_aload_n hx hb dX4_copy_88 rfl (lv_at hl 2 rfl) ?_
                      refine va_get (D := (dC, dI)) (ci := 4) (v := .ref (a 1)) (C := RX4) (T := TX4) (N := 18) hx hb hts in_X4 hown hK hP 0 rfl rfl 0 (by decide) lk_1 (fun _ h9 => h9) rfl dX4_copy_89 ?_
                      refine lv_iload_n hx hb dX4_copy_92 rfl (lv_at hl 3 rfl) ?_
                      refine lv_iload hx hb dX4_copy_93 (lv_at hl 0 rfl) ?_
                      refine lv_iadd hx hb dX4_copy_95 ?_
                      refine tpi (nI_add _ _) ?_
                      refine va_iald hx hb hK hP 1 0 rfl rfl (vp_in_nI (by omega) (by omega)) dX4_copy_96 ?_
                      refine tpi (nf_at (by omega)) ?_
                      refine va_iast hx hb hK hP hD hS 1 0 rfl rfl (vp_in_nI (by omega) (by omega)) dX4_copy_97 (fun H locs hP hD hS => ?_)
                      rw [nf_up (by omega)] at hP hD
                      have hP : va_P (dC, dI) vwCl (mw cI a sz st us kp ga gl cs (va_up f (y + (n - 1 - i)) (f (x + (n - 1 - i)))) pl ln km ks kt ku kl kn cd wt) H := hP
                      have hD : va_D A (mw cI a sz st us kp ga gl cs (va_up f (y + (n - 1 - i)) (f (x + (n - 1 - i)))) pl ln km ks kt ku kl kn cd wt) := hD
                      refine lv_iinc (v := (nI (i + 1))) (lv' := [(4, .int (nI (i + 1))), (5, .int (nI (n - 1 - i))), (0, .ref (a 0)), (1, .int (nI x)), (2, .int (nI y)), (3, .int (nI n))]) hx hb dX4_copy_98 hl (k := 1) rfl (nI_inc _) (by decide) rfl (fun ls hl => ?_)
                      refine lv_goto (tgt := 56) hx hb dX4_copy_101 (by decide) ?_
                      exact ih_56 (i + 1, va_up f (y + (n - 1 - i)) (f (x + (n - 1 - i)))) (⟨by omega, fun h => by rw [hf1 h, cpy_dn h (by omega)], fun h => absurd h (by omega)⟩) (show n - (i + 1) < n - i by omega) H locs ls (hP) (hD) hS (lv_sub hl [0, 2, 3, 4, 5] rfl)
                · have c_41 : ¬ n ≤ 0 := fun q => c_41 ((nZ_le (by omega)).mpr q)
                  refine lv_iload_n hx hb dX4_copy_44 rfl (lv_at hl 2 rfl) ?_
                  refine lv_bipush (v := (nI 64)) hx hb dX4_copy_45 (by decide) ?_
                  refine lv_icmp_ge (tgt := 53) hx hb dX4_copy_47 (by decide) (fun c_47 => ?_) (fun c_47 => ?_)
                  · have c_47 : 64 ≤ y := (nI_leI (a := 64) (b := y) (by omega) (by omega)).mp c_47
                    refine lv_iconst (v := (nI 0)) hx hb dX4_copy_53 (by decide) ?_
                    refine lv_istore (lv' := [(4, .int (nI 0)), (0, .ref (a 0)), (1, .int (nI x)), (2, .int (nI y)), (3, .int (nI n))]) hx hb dX4_copy_54 hl (by decide) rfl (fun ls hl => ?_)
                    refine lp_world (σ := Nat × (Nat → Nat)) (fun ⟨i, f⟩ => i ≤ n ∧ (x < y → f = va_cpy mem mem (x + (n - i)) (y + (n - i)) i) ∧ (¬ x < y → f = va_cpy mem mem x y i)) (fun ⟨i, f⟩ => n - i) (fun ⟨i, f⟩ => [(4, .int (nI i)), (0, .ref (a 0)), (1, .int (nI x)), (2, .int (nI y)), (3, .int (nI n))]) (fun ⟨i, f⟩ => mw cI a sz st us kp ga gl cs f pl ln km ks kt ku kl kn cd wt) ?_ ((0, mem)) (⟨Nat.zero_le _, fun _ => by rw [cpy_0], fun _ => by rw [cpy_0]⟩) (hP) (hD) hS (lv_sub hl [0, 1, 2, 3, 4] rfl)
                    intro ⟨i, f⟩ hI ih H locs ls hP hD hS hl
                    have hl : lv_has ls 6 [(4, .int (nI i)), (0, .ref (a 0)), (1, .int (nI x)), (2, .int (nI y)), (3, .int (nI n))] := hl
                    have hP : va_P (dC, dI) vwCl (mw cI a sz st us kp ga gl cs f pl ln km ks kt ku kl kn cd wt) H := hP
                    have hD : va_D A (mw cI a sz st us kp ga gl cs f pl ln km ks kt ku kl kn cd wt) := hD
                    have hI : i ≤ n ∧ (x < y → f = va_cpy mem mem (x + (n - i)) (y + (n - i)) i) ∧ (¬ x < y → f = va_cpy mem mem x y i) := hI
                    obtain ⟨hi, hf1, hf2⟩ := hI
                    have ih_56 := ih
                    refine lv_iload hx hb dX4_copy_56 (lv_at hl 0 rfl) ?_
                    refine lv_iload_n hx hb dX4_copy_58 rfl (lv_at hl 4 rfl) ?_
                    refine lv_icmp_ge (tgt := 104) hx hb dX4_copy_59 (by decide) (fun c_59 => ?_) (fun c_59 => ?_)
                    · have c_59 : n ≤ i := (nI_leI (a := n) (b := i) (by omega) (by omega)).mp c_59
                      refine lv_iconst (v := (nI 1)) hx hb dX4_copy_104 (by decide) ?_
                      have e_mem : f = cpM sz mem (nI x) (nI y) (nI n) := by rw [cpM_ok (by rw [cpR_ok n_x n_y n_n, if_neg (by omega), if_neg (by omega)]) n_x n_y n_n]; exact if h : x < y then by rw [hf1 h, show i = n by omega, Nat.sub_self, Nat.add_zero, Nat.add_zero] else by rw [hf2 h, show i = n by omega]
                      have hP : va_P (dC, dI) vwCl (mw cI a sz st us kp ga gl cs (cpM sz mem (nI x) (nI y) (nI n)) pl ln km ks kt ku kl kn cd wt) H := by rw [← e_mem]; exact hP
                      have hD : va_D A (mw cI a sz st us kp ga gl cs (cpM sz mem (nI x) (nI y) (nI n)) pl ln km ks kt ku kl kn cd wt) := by rw [← e_mem]; exact hD
                      exact W.iret (v := (nI 1)) hx hb hr (fun t ht hW => ⟨⟨(nI 1), (), rfl, (show (nI 1) = cpR sz (nI x) (nI y) (nI n) from by rw [cpR_ok n_x n_y n_n, if_neg (by omega), if_neg (by omega)]), by rw [ht]; exact hP, va_K.moved hW.alike hK, hD⟩, hS.F ht⟩) hS.2.2 dX4_copy_105
                    · have c_59 : ¬ n ≤ i := fun q => c_59 ((nI_leI (a := n) (b := i) (by omega) (by omega)).mpr q)
                      refine lv_iload_n hx hb dX4_copy_62 rfl (lv_at hl 2 rfl) ?_
                      refine lv_iload_n hx hb dX4_copy_63 rfl (lv_at hl 3 rfl) ?_
                      refine lv_icmp_ge (tgt := 76) hx hb dX4_copy_64 (by decide) (fun c_64 => ?_) (fun c_64 => ?_)
                      · have c_64 : y ≤ x := (nI_leI (a := y) (b := x) (by omega) (by omega)).mp c_64
                        refine lv_iload hx hb dX4_copy_76 (lv_at hl 0 rfl) ?_
                        refine lv_istore (lv' := [(5, .int (nI i)), (4, .int (nI i)), (0, .ref (a 0)), (1, .int (nI x)), (2, .int (nI y)), (3, .int (nI n))]) hx hb dX4_copy_78 hl (by decide) rfl (fun ls hl => ?_)
                        refine lv_aload_n hx hb dX4_copy_80 rfl (lv_at hl 2 rfl) ?_
                        refine va_get (D := (dC, dI)) (ci := 4) (v := .ref (a 1)) (C := RX4) (T := TX4) (N := 18) hx hb hts in_X4 hown hK hP 0 rfl rfl 0 (by decide) lk_1 (fun _ h9 => h9) rfl dX4_copy_81 ?_
                        refine lv_iload_n hx hb dX4_copy_84 rfl (lv_at hl 4 rfl) ?_
                        refine lv_iload hx hb dX4_copy_85 (lv_at hl 0 rfl) ?_
                        refine lv_iadd hx hb dX4_copy_87 ?_
                        refine tpi (nI_add _ _) ?_
                        refine lv_aload_n hx hb dX4_copy_88 rfl (lv_at hl 2 rfl) ?_
                        refine va_get (D := (dC, dI)) (ci := 4) (v := .ref (a 1)) (C := RX4) (T := TX4) (N := 18) hx hb hts in_X4 hown hK hP 0 rfl rfl 0 (by decide) lk_1 (fun _ h9 => h9) rfl dX4_copy_89 ?_
                        refine lv_iload_n hx hb dX4_copy_92 rfl (lv_at hl 3 rfl) ?_
                        refine lv_iload hx hb dX4_copy_93 (lv_at hl 0 rfl) ?_
                        refine lv_iadd hx hb dX4_copy_95 ?_
                        refine tpi (nI_add _ _) ?_
                        refine va_iald hx hb hK hP 1 0 rfl rfl (vp_in_nI (by omega) (by omega)) dX4_copy_96 ?_
                        refine tpi (nf_at (by omega)) ?_
                        refine va_iast hx hb hK hP hD hS 1 0 rfl rfl (vp_in_nI (by omega) (by omega)) dX4_copy_97 (fun H locs hP hD hS => ?_)
                        rw [nf_up (by omega)] at hP hD
                        have hP : va_P (dC, dI) vwCl (mw cI a sz st us kp ga gl cs (va_up f (y + i) (f (x + i))) pl ln km ks kt ku kl kn cd wt) H := hP
                        have hD : va_D A (mw cI a sz st us kp ga gl cs (va_up f (y + i) (f (x + i))) pl ln km ks kt ku kl kn cd wt) := hD
                        refine lv_iinc (v := (nI (i + 1))) (lv' := [(4, .int (nI (i + 1))), (5, .int (nI i)), (0, .ref (a 0)), (1, .int (nI x)), (2, .int (nI y)), (3, .int (nI n))]) hx hb dX4_copy_98 hl (k := 1) rfl (nI_inc _) (by decide) rfl (fun ls hl => ?_)
                        refine lv_goto (tgt := 56) hx hb dX4_copy_101 (by decide) ?_
                        exact ih_56 (i + 1, va_up f (y + i) (f (x + i))) (⟨by omega, fun h => absurd h (by omega), fun h => by rw [hf2 h, cpy_up (n := n) h]⟩) (show n - (i + 1) < n - i by omega) H locs ls (hP) (hD) hS (lv_sub hl [0, 2, 3, 4, 5] rfl)
                      · have c_64 : ¬ y ≤ x := fun q => c_64 ((nI_leI (a := y) (b := x) (by omega) (by omega)).mpr q)
                        refine lv_iload_n hx hb dX4_copy_67 rfl (lv_at hl 4 rfl) ?_
                        refine lv_iconst (v := (nI 1)) hx hb dX4_copy_68 (by decide) ?_
                        refine lv_isub hx hb dX4_copy_69 ?_
                        refine tpi (pk_sub (by omega)) ?_
                        refine lv_iload hx hb dX4_copy_70 (lv_at hl 0 rfl) ?_
                        refine lv_isub hx hb dX4_copy_72 ?_
                        refine tpi (pk_sub (by omega)) ?_
                        refine lv_goto (tgt := 78) hx hb dX4_copy_73 (by decide) ?_
                        refine lv_istore (lv' := [(5, .int (nI (n - 1 - i))), (4, .int (nI i)), (0, .ref (a 0)), (1, .int (nI x)), (2, .int (nI y)), (3, .int (nI n))]) hx hb dX4_copy_78 hl (by decide) rfl (fun ls hl => ?_)
                        refine lv_aload_n hx hb dX4_copy_80 rfl (lv_at hl 2 rfl) ?_
                        refine va_get (D := (dC, dI)) (ci := 4) (v := .ref (a 1)) (C := RX4) (T := TX4) (N := 18) hx hb hts in_X4 hown hK hP 0 rfl rfl 0 (by decide) lk_1 (fun _ h9 => h9) rfl dX4_copy_81 ?_
                        refine lv_iload_n hx hb dX4_copy_84 rfl (lv_at hl 4 rfl) ?_
                        refine lv_iload hx hb dX4_copy_85 (lv_at hl 0 rfl) ?_
                        refine lv_iadd hx hb dX4_copy_87 ?_
                        refine tpi (nI_add _ _) ?_
                        refine lv_aload_n hx hb dX4_copy_88 rfl (lv_at hl 2 rfl) ?_
                        refine va_get (D := (dC, dI)) (ci := 4) (v := .ref (a 1)) (C := RX4) (T := TX4) (N := 18) hx hb hts in_X4 hown hK hP 0 rfl rfl 0 (by decide) lk_1 (fun _ h9 => h9) rfl dX4_copy_89 ?_
                        refine lv_iload_n hx hb dX4_copy_92 rfl (lv_at hl 3 rfl) ?_
                        refine lv_iload hx hb dX4_copy_93 (lv_at hl 0 rfl) ?_
                        refine lv_iadd hx hb dX4_copy_95 ?_
                        refine tpi (nI_add _ _) ?_
                        refine va_iald hx hb hK hP 1 0 rfl rfl (vp_in_nI (by omega) (by omega)) dX4_copy_96 ?_
                        refine tpi (nf_at (by omega)) ?_
                        refine va_iast hx hb hK hP hD hS 1 0 rfl rfl (vp_in_nI (by omega) (by omega)) dX4_copy_97 (fun H locs hP hD hS => ?_)
                        rw [nf_up (by omega)] at hP hD
                        have hP : va_P (dC, dI) vwCl (mw cI a sz st us kp ga gl cs (va_up f (y + (n - 1 - i)) (f (x + (n - 1 - i)))) pl ln km ks kt ku kl kn cd wt) H := hP
                        have hD : va_D A (mw cI a sz st us kp ga gl cs (va_up f (y + (n - 1 - i)) (f (x + (n - 1 - i)))) pl ln km ks kt ku kl kn cd wt) := hD
                        refine lv_iinc (v := (nI (i + 1))) (lv' := [(4, .int (nI (i + 1))), (5, .int (nI (n - 1 - i))), (0, .ref (a 0)), (1, .int (nI x)), (2, .int (nI y)), (3, .int (nI n))]) hx hb dX4_copy_98 hl (k := 1) rfl (nI_inc _) (by decide) rfl (fun ls hl => ?_)
                        refine lv_goto (tgt := 56) hx hb dX4_copy_101 (by decide) ?_
                        exact ih_56 (i + 1, va_up f (y + (n - 1 - i)) (f (x + (n - 1 - i)))) (⟨by omega, fun h => by rw [hf1 h, cpy_dn h (by omega)], fun h => absurd h (by omega)⟩) (show n - (i + 1) < n - i by omega) H locs ls (hP) (hD) hS (lv_sub hl [0, 2, 3, 4, 5] rfl)
                  · have c_47 : ¬ 64 ≤ y := fun q => c_47 ((nI_leI (a := 64) (b := y) (by omega) (by omega)).mpr q)
                    refine lv_bipush (v := ((-13))) hx hb dX4_copy_50 (by decide) ?_
                    have e_mem : mem = cpM sz mem (nI x) (nI y) (nI n) := cpM_no (show _ = (-13) by rw [cpR_ok n_x n_y n_n, if_neg (by omega), if_pos (by omega)]) (by decide)
                    have hP : va_P (dC, dI) vwCl (mw cI a sz st us kp ga gl cs (cpM sz mem (nI x) (nI y) (nI n)) pl ln km ks kt ku kl kn cd wt) s.heap := by rw [← e_mem]; exact hP
                    have hD : va_D A (mw cI a sz st us kp ga gl cs (cpM sz mem (nI x) (nI y) (nI n)) pl ln km ks kt ku kl kn cd wt) := by rw [← e_mem]; exact hD
                    exact W.iret (v := ((-13))) hx hb hr (fun t ht hW => ⟨⟨((-13)), (), rfl, (show ((-13)) = cpR sz (nI x) (nI y) (nI n) from by rw [cpR_ok n_x n_y n_n, if_neg (by omega), if_pos (by omega)]), by rw [ht]; exact hP, va_K.moved hW.alike hK, hD⟩, hS.F ht⟩) hS.2.2 dX4_copy_52
              · exact absurd c_34 (by decide)
            · skip
              refine lv_if_ne (tgt := 40) hx hb dX4_copy_34 (by decide) (fun c_34 => ?_) (fun c_34 => ?_)
              · exact absurd c_34 (by decide)
              · have c_34 : 0 = 0 := (nZ_eq (by omega)).mp c_34
                refine lv_bipush (v := ((-12))) hx hb dX4_copy_37 (by decide) ?_
                have e_mem : mem = cpM sz mem (nI x) (nI y) (nI n) := cpM_no (show _ = (-12) by rw [cpR_ok n_x n_y n_n, if_pos (by omega)]) (by decide)
                have hP : va_P (dC, dI) vwCl (mw cI a sz st us kp ga gl cs (cpM sz mem (nI x) (nI y) (nI n)) pl ln km ks kt ku kl kn cd wt) s.heap := by rw [← e_mem]; exact hP
                have hD : va_D A (mw cI a sz st us kp ga gl cs (cpM sz mem (nI x) (nI y) (nI n)) pl ln km ks kt ku kl kn cd wt) := by rw [← e_mem]; exact hD
                exact W.iret (v := ((-12))) hx hb hr (fun t ht hW => ⟨⟨((-12)), (), rfl, (show ((-12)) = cpR sz (nI x) (nI y) (nI n) from by rw [cpR_ok n_x n_y n_n, if_pos (by omega)]), by rw [ht]; exact hP, va_K.moved hW.alike hK, hD⟩, hS.F ht⟩) hS.2.2 dX4_copy_39
        · skip
          refine lv_if_eq (tgt := 37) hx hb dX4_copy_23 (by decide) (fun c_23 => ?_) (fun c_23 => ?_)
          · have c_23 : 0 = 0 := (nZ_eq (by omega)).mp c_23
            refine lv_bipush (v := ((-12))) hx hb dX4_copy_37 (by decide) ?_
            have e_mem : mem = cpM sz mem (nI x) (nI y) (nI n) := cpM_no (show _ = (-12) by rw [cpR_ok n_x n_y n_n, if_pos (by omega)]) (by decide)
            have hP : va_P (dC, dI) vwCl (mw cI a sz st us kp ga gl cs (cpM sz mem (nI x) (nI y) (nI n)) pl ln km ks kt ku kl kn cd wt) s.heap := by rw [← e_mem]; exact hP
            have hD : va_D A (mw cI a sz st us kp ga gl cs (cpM sz mem (nI x) (nI y) (nI n)) pl ln km ks kt ku kl kn cd wt) := by rw [← e_mem]; exact hD
            exact W.iret (v := ((-12))) hx hb hr (fun t ht hW => ⟨⟨((-12)), (), rfl, (show ((-12)) = cpR sz (nI x) (nI y) (nI n) from by rw [cpR_ok n_x n_y n_n, if_pos (by omega)]), by rw [ht]; exact hP, va_K.moved hW.alike hK, hD⟩, hS.F ht⟩) hS.2.2 dX4_copy_39
          · exact absurd c_23 (by decide)
      · have c_9 : p3 < 0 := i0_nge.mp c_9
        refine lv_bipush (v := ((-11))) hx hb dX4_copy_12 (by decide) ?_
        have e_mem : mem = cpM sz mem (nI x) (nI y) p3 := cpM_no (cpR_w (by first | exact Or.inl c_1 | exact Or.inr (Or.inl c_5) | exact Or.inr (Or.inr c_9))) (by decide)
        have hP : va_P (dC, dI) vwCl (mw cI a sz st us kp ga gl cs (cpM sz mem (nI x) (nI y) p3) pl ln km ks kt ku kl kn cd wt) s.heap := by rw [← e_mem]; exact hP
        have hD : va_D A (mw cI a sz st us kp ga gl cs (cpM sz mem (nI x) (nI y) p3) pl ln km ks kt ku kl kn cd wt) := by rw [← e_mem]; exact hD
        exact W.iret (v := ((-11))) hx hb hr (fun t ht hW => ⟨⟨((-11)), (), rfl, (show ((-11)) = cpR sz (nI x) (nI y) p3 from (cpR_w (by first | exact Or.inl c_1 | exact Or.inr (Or.inl c_5) | exact Or.inr (Or.inr c_9))).symm), by rw [ht]; exact hP, va_K.moved hW.alike hK, hD⟩, hS.F ht⟩) hS.2.2 dX4_copy_14
