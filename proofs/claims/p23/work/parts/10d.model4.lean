set_option maxHeartbeats 4000000 in
set_option maxRecDepth 100000 in
theorem c_X4_resize (l : Launch) (dC : Nat → ClassId) (dI : Nat → Nat → Nat) (cI : ClassId) (a : Nat → Nat) (sz st us kp ga gl cs : Nat) (mem pl ln km ks kt ku kl kn cd wt : Nat → Nat) (zz : Nat) (p1 : Int32) (g3 : sz ≤ 8192) (g4 : us ≤ 64) : Met l yX4_resize wsX4_resize ({ frames := 1, cells := 0, slots := 0, locals := 22 }) (va_Pc [.ref (a 0), .int p1] (fun U => U.heap.size = zz ∧ va_P (dC, dI) vwCl (mw cI a sz st us kp ga gl cs mem pl ln km ks kt ku kl kn cd wt) U.heap ∧ va_K (dC, dI) vwCl [(cI, .int)] U ∧ va_D (fun _ => True) (mw cI a sz st us kp ga gl cs mem pl ln km ks kt ku kl kn cd wt))) (va_Qi (fun r _ => r = rzR sz us p1) (fun (_ : Unit) t => va_P (dC, dI) vwCl (mw cI a (rzZ sz us p1) st us kp ga gl cs (rzM sz us mem p1) pl ln km ks kt ku kl kn cd wt) t.heap ∧ va_K (dC, dI) vwCl [(cI, .int)] t ∧ va_D (va_A (mw cI a sz st us kp ga gl cs mem pl ln km ks kt ku kl kn cd wt) zz) (mw cI a (rzZ sz us p1) st us kp ga gl cs (rzM sz us mem p1) pl ln km ks kt ku kl kn cd wt)) (va_A (mw cI a sz st us kp ga gl cs mem pl ln km ks kt ku kl kn cd wt) zz)) 0 0 (va_A (mw cI a sz st us kp ga gl cs mem pl ln km ks kt ku kl kn cd wt) zz) := by
  refine Met.ofW (cc := cX4_resize) (maxL := 3) (ret := (some .int)) (by decide) rfl ?_
  intro p e s m args below meth c s₁ B hml hv
  obtain ⟨rfl, hsz, hP, hK, hD0⟩ := hv
  have hx := B.exec
  have hb := B.bytes
  have hr := B.returns
  have hts := atoms_spec (ws := wsX4_resize) B.pre
  have hown : s.vm.findClass RX4 = some m.cls := findClass_of_methodNamed B.named
  have hlocks := B.notSynchronized
  subst hsz
  have hD := hD0.self (sz := s.heap.size)
  generalize hAe : va_A (mw cI a sz st us kp ga gl cs mem pl ln km ks kt ku kl kn cd wt) s.heap.size = A at hD ⊢
  have hA : ∀ q : Nat, s.heap.size ≤ q → A q := fun q h => by rw [← hAe]; exact Or.inr h
  have hS : va_S A s.heap s.heap [] := va_S.rf
  have hP : va_P (dC, dI) vwCl (mw cI a sz st us kp ga gl cs mem pl ln km ks kt ku kl kn cd wt) s.heap := hP
  have in_X4 : ∀ w ∈ wsX40, w ∈ wsX4_resize := fun _ h => List.mem_cons_of_mem _ (List.mem_append_right _ h)
  have lk_1 := hts (.fieldLink RX4 71 "GlulxHeapModel" "used" "I") (List.mem_of_getElem? (i := 1) rfl)
  have lk_2 := hts (.fieldLink RX4 44 "GlulxHeapModel" "size" "I") (List.mem_of_getElem? (i := 2) rfl)
  have hl := lv_entry ([.ref (a 0), .int p1]) (n := 3) (Nat.le_of_ble_eq_true rfl)
  rw [lg_entry_eq]
  generalize (lg_sl ([.ref (a 0), .int p1]) ++ List.replicate (3 - (lg_sl ([.ref (a 0), .int p1])).length) Slot.unset).toArray = ls at hl ⊢
  have hl : lv_has ls 3 [(0, .ref (a 0)), (1, .int p1)] := hl
  rcases Classical.em (p1 < 0) with h0 | h0
  · refine lv_iload_n hx hb dX4_resize_0 rfl (lv_at hl 1 rfl) ?_
    refine vp_callSi (W.runS (As := [.int p1]) (rest := []) ⟨hx, hb, hml, hown, hts⟩ (c_X4_isSizeN l p1 h0) (va_cwS 1 hts gX4_resize_X4_isSize rfl rfl rfl (by decide +kernel) ⟨Nat.le_of_ble_eq_true rfl, Nat.le_of_ble_eq_true rfl⟩) ⟨fun a9 U g9 mk9 q9 => ⟨q9.1, trivial⟩, fun U hU hW => ⟨rfl, trivial⟩⟩ rfl rfl hl.1 rfl (lv_room (Nat.le_of_ble_eq_true rfl)) dX4_resize_1 ⟨Nat.zero_le _, Nat.zero_le _⟩) (fun r_1 hw => ?_)
    try dsimp only at hw
    subst hw
    refine lv_if_ne (tgt := 10) hx hb dX4_resize_4 (by decide) (fun c_4 => ?_) (fun c_4 => ?_)
    · exact absurd c_4 (by decide)
    · have c_4 : 0 = 0 := (nZ_eq (by omega)).mp c_4
      refine lv_bipush (v := ((-11))) hx hb dX4_resize_7 (by decide) ?_
      have e_sz : sz = rzZ sz us p1 := by unfold rzZ; rw [if_neg (fun q => q.1 (Or.inl h0))]
      have e_mem : mem = rzM sz us mem p1 := by unfold rzM; rw [if_neg (fun q => q.1 (Or.inl h0))]
      have hP : va_P (dC, dI) vwCl (mw cI a (rzZ sz us p1) st us kp ga gl cs (rzM sz us mem p1) pl ln km ks kt ku kl kn cd wt) s.heap := by rw [← e_sz, ← e_mem]; exact hP
      have hD : va_D A (mw cI a (rzZ sz us p1) st us kp ga gl cs (rzM sz us mem p1) pl ln km ks kt ku kl kn cd wt) := by rw [← e_sz, ← e_mem]; exact hD
      exact W.iret (v := ((-11))) hx hb hr (fun t ht hW => ⟨⟨((-11)), (), rfl, (show ((-11)) = rzR sz us p1 from (rzR_w (Or.inl h0)).symm), by rw [ht]; exact hP, va_K.moved hW.alike hK, hD⟩, hS.F ht⟩) hS.2.2 dX4_resize_9
  · obtain ⟨x, n_x, rfl⟩ := nI_of h0
    refine lv_iload_n hx hb dX4_resize_0 rfl (lv_at hl 1 rfl) ?_
    refine vp_callSi (W.runS (As := [.int (nI x)]) (rest := []) ⟨hx, hb, hml, hown, hts⟩ (c_X4_isSize l x (by omega)) (va_cwS 1 hts gX4_resize_X4_isSize rfl rfl rfl (by decide +kernel) ⟨Nat.le_of_ble_eq_true rfl, Nat.le_of_ble_eq_true rfl⟩) ⟨fun a9 U g9 mk9 q9 => ⟨q9.1, trivial⟩, fun U hU hW => ⟨rfl, trivial⟩⟩ rfl rfl hl.1 rfl (lv_room (Nat.le_of_ble_eq_true rfl)) dX4_resize_1 ⟨Nat.zero_le _, Nat.zero_le _⟩) (fun r_1 hw => ?_)
    try dsimp only at hw
    rcases hw with ⟨hc_1, rfl⟩ | ⟨hc_1, rfl⟩
    · skip
      refine lv_if_ne (tgt := 10) hx hb dX4_resize_4 (by decide) (fun c_4 => ?_) (fun c_4 => ?_)
      · have c_4 : ¬ 1 = 0 := fun q => c_4 ((nZ_eq (by omega)).mpr q)
        refine lv_aload_n hx hb dX4_resize_10 rfl (lv_at hl 0 rfl) ?_
        refine va_get (D := (dC, dI)) (ci := 4) (v := .int (nI us)) (C := RX4) (T := TX4) (N := 18) hx hb hts in_X4 hown hK hP 0 rfl rfl 3 (by decide) lk_1 (fun _ h9 => h9) rfl dX4_resize_11 ?_
        refine lv_if_le (tgt := 20) hx hb dX4_resize_14 (by decide) (fun c_14 => ?_) (fun c_14 => ?_)
        · have c_14 : us ≤ 0 := (nZ_le (by omega)).mp c_14
          refine lv_aload_n hx hb dX4_resize_20 rfl (lv_at hl 0 rfl) ?_
          refine va_get (D := (dC, dI)) (ci := 4) (v := .int (nI sz)) (C := RX4) (T := TX4) (N := 18) hx hb hts in_X4 hown hK hP 0 rfl rfl 1 (by decide) lk_2 (fun _ h9 => h9) rfl dX4_resize_21 ?_
          refine lv_istore_n (lv' := [(2, .int (nI sz)), (0, .ref (a 0)), (1, .int (nI x))]) hx hb dX4_resize_24 rfl hl (by decide) rfl (fun ls hl => ?_)
          refine lv_aload_n hx hb dX4_resize_25 rfl (lv_at hl 1 rfl) ?_
          refine lv_iload_n hx hb dX4_resize_26 rfl (lv_at hl 2 rfl) ?_
          have hFc := va_free (wc := mw cI a sz st us kp ga gl cs mem pl ln km ks kt ku kl kn cd wt) hD hS hA [0, 1, 2, 3, 4, 5, 6, 7, 8, 9, 10, 11] rfl
          refine va_callv (va_runV (As := [.int (nI x)]) (rest := []) ⟨hx, hb, hml, hown, hts⟩ (c_X4_grow l dC dI cI a sz st us kp ga gl cs mem pl ln km ks kt ku kl kn cd wt s.heap.size x (by omega) (by omega)) (cwV 1 hts gX4_resize_X4_grow rfl rfl rfl (by decide +kernel) ⟨Nat.le_of_ble_eq_true rfl, Nat.le_of_ble_eq_true rfl⟩) ⟨fun a9 U g9 mk9 q9 => by obtain ⟨q0, q1, qP, qK, qD⟩ := q9; exact ⟨q0, q1, qP, va_K.moved (u := U) (U := U.calling g9 mk9 a9) (Vm.Alike.refl U.vm) qK, qD⟩, va_recv hK hP (ci := 4) (q0 := 0) rfl rfl, fun U hU hW => ⟨rfl, by rw [hU], by rw [hU]; exact hP, va_K.moved hW.alike hK, hD.weaken (fun _ _ _ _ => trivial)⟩⟩ rfl rfl hl.1 rfl (lv_room (Nat.le_of_ble_eq_true rfl)) dX4_resize_27 ⟨Nat.zero_le _, Nat.zero_le _⟩) hS (fun q _ h => hFc q h) hFc (fun u t H1 locs ht hvm hw hB hz1 hk1 hS => ?_)
          obtain ⟨hP1, hK1, hD1⟩ := hB
          rw [ht] at hP1
          obtain ⟨hP, hD⟩ := va_join (wr := []) (w1 := mw cI a x st us kp ga gl cs (zr mem sz (x - sz)) pl ln km ks kt ku kl kn cd wt) hP hD [0, 1, 2, 3, 4, 5, 6, 7, 8, 9, 10, 11] [] rfl rfl (by decide) (by decide) hk1 hFc hP1 hD1
          generalize H1 = H at hP hS ⊢
          have hP : va_P (dC, dI) vwCl (mw cI a x st us kp ga gl cs (zr mem sz (x - sz)) pl ln km ks kt ku kl kn cd wt) H := hP
          have hD : va_D A (mw cI a x st us kp ga gl cs (zr mem sz (x - sz)) pl ln km ks kt ku kl kn cd wt) := hD
          refine lv_iload_n hx hb dX4_resize_30 rfl (lv_at hl 0 rfl) ?_
          have e_sz : x = rzZ sz us (nI x) := by unfold rzZ; rw [if_pos (rzO_ok n_x hc_1 (by omega)), show cl (nI x) = x from nI_clamp n_x]
          have e_mem : zr mem sz (x - sz) = rzM sz us mem (nI x) := by unfold rzM; rw [if_pos (rzO_ok n_x hc_1 (by omega)), show cl (nI x) = x from nI_clamp n_x]
          have hP : va_P (dC, dI) vwCl (mw cI a (rzZ sz us (nI x)) st us kp ga gl cs (rzM sz us mem (nI x)) pl ln km ks kt ku kl kn cd wt) H := by rw [← e_sz, ← e_mem]; exact hP
          have hD : va_D A (mw cI a (rzZ sz us (nI x)) st us kp ga gl cs (rzM sz us mem (nI x)) pl ln km ks kt ku kl kn cd wt) := by rw [← e_sz, ← e_mem]; exact hD
          exact W.iret (v := (nI sz)) hx hb hr (fun t ht hW => ⟨⟨(nI sz), (), rfl, (show (nI sz) = rzR sz us (nI x) from by unfold rzR; rw [if_neg (fun q => q.elim h0 (fun q => q (by rw [show cl (nI x) = x from nI_clamp n_x]; exact hc_1))), if_neg (by omega)]), by rw [ht]; exact hP, va_K.moved hW.alike hK, hD⟩, hS.F ht⟩) hS.2.2 dX4_resize_31
        · have c_14 : ¬ us ≤ 0 := fun q => c_14 ((nZ_le (by omega)).mpr q)
          refine lv_bipush (v := ((-14))) hx hb dX4_resize_17 (by decide) ?_
          have e_sz : sz = rzZ sz us (nI x) := by unfold rzZ; rw [if_neg (fun q => q.2 (by omega))]
          have e_mem : mem = rzM sz us mem (nI x) := by unfold rzM; rw [if_neg (fun q => q.2 (by omega))]
          have hP : va_P (dC, dI) vwCl (mw cI a (rzZ sz us (nI x)) st us kp ga gl cs (rzM sz us mem (nI x)) pl ln km ks kt ku kl kn cd wt) s.heap := by rw [← e_sz, ← e_mem]; exact hP
          have hD : va_D A (mw cI a (rzZ sz us (nI x)) st us kp ga gl cs (rzM sz us mem (nI x)) pl ln km ks kt ku kl kn cd wt) := by rw [← e_sz, ← e_mem]; exact hD
          exact W.iret (v := ((-14))) hx hb hr (fun t ht hW => ⟨⟨((-14)), (), rfl, (show ((-14)) = rzR sz us (nI x) from by unfold rzR; rw [if_neg (fun q => q.elim h0 (fun q => q (by rw [show cl (nI x) = x from nI_clamp n_x]; exact hc_1))), if_pos (by omega)]), by rw [ht]; exact hP, va_K.moved hW.alike hK, hD⟩, hS.F ht⟩) hS.2.2 dX4_resize_19
      · exact absurd c_4 (by decide)
    · skip
      refine lv_if_ne (tgt := 10) hx hb dX4_resize_4 (by decide) (fun c_4 => ?_) (fun c_4 => ?_)
      · exact absurd c_4 (by decide)
      · have c_4 : 0 = 0 := (nZ_eq (by omega)).mp c_4
        refine lv_bipush (v := ((-11))) hx hb dX4_resize_7 (by decide) ?_
        have e_sz : sz = rzZ sz us (nI x) := by unfold rzZ; rw [if_neg (fun q => q.1 (Or.inr (by rw [show cl (nI x) = x from nI_clamp n_x]; exact hc_1)))]
        have e_mem : mem = rzM sz us mem (nI x) := by unfold rzM; rw [if_neg (fun q => q.1 (Or.inr (by rw [show cl (nI x) = x from nI_clamp n_x]; exact hc_1)))]
        have hP : va_P (dC, dI) vwCl (mw cI a (rzZ sz us (nI x)) st us kp ga gl cs (rzM sz us mem (nI x)) pl ln km ks kt ku kl kn cd wt) s.heap := by rw [← e_sz, ← e_mem]; exact hP
        have hD : va_D A (mw cI a (rzZ sz us (nI x)) st us kp ga gl cs (rzM sz us mem (nI x)) pl ln km ks kt ku kl kn cd wt) := by rw [← e_sz, ← e_mem]; exact hD
        exact W.iret (v := ((-11))) hx hb hr (fun t ht hW => ⟨⟨((-11)), (), rfl, (show ((-11)) = rzR sz us (nI x) from (rzR_w (Or.inr (by rw [show cl (nI x) = x from nI_clamp n_x]; exact hc_1))).symm), by rw [ht]; exact hP, va_K.moved hW.alike hK, hD⟩, hS.F ht⟩) hS.2.2 dX4_resize_9
set_option maxHeartbeats 4000000 in
set_option maxRecDepth 100000 in
theorem c_X4_block (l : Launch) (dC : Nat → ClassId) (dI : Nat → Nat → Nat) (cI : ClassId) (a : Nat → Nat) (sz st us kp ga gl cs : Nat) (mem pl ln km ks kt ku kl kn cd wt : Nat → Nat) (p1 p2 : Int32) (gw : wfB sz st us pl ln) : Met l yX4_block wsX4_block ({ frames := 2, cells := 0, slots := 0, locals := 42 }) (va_Pc [.ref (a 0), .int p1, .int p2] (fun U => va_P (dC, dI) vwCl (mw cI a sz st us kp ga gl cs mem pl ln km ks kt ku kl kn cd wt) U.heap ∧ va_K (dC, dI) vwCl [(cI, .int)] U)) (vp_Si (fun r => r = bkR sz st us pl ln p1 p2)) 0 0 (fun _ => False) := by
  refine Met.ofW (cc := cX4_block) (maxL := 3) (ret := (some .int)) (by decide) rfl ?_
  intro p e s m args below meth c s₁ B hml hv
  obtain ⟨rfl, hP, hK⟩ := hv
  have hx := B.exec
  have hb := B.bytes
  have hr := B.returns
  have hts := atoms_spec (ws := wsX4_block) B.pre
  have hown : s.vm.findClass RX4 = some m.cls := findClass_of_methodNamed B.named
  have hlocks := B.notSynchronized
  have in_X4 : ∀ w ∈ wsX40, w ∈ wsX4_block := fun _ h => List.mem_cons_of_mem _ (List.mem_append_right _ h)
  have lk_1 := hts (.fieldLink RX4 71 "GlulxHeapModel" "used" "I") (List.mem_of_getElem? (i := 1) rfl)
  have lk_2 := hts (.fieldLink RX4 13 "GlulxHeapModel" "place" "[I") (List.mem_of_getElem? (i := 2) rfl)
  have lk_3 := hts (.fieldLink RX4 16 "GlulxHeapModel" "length" "[I") (List.mem_of_getElem? (i := 3) rfl)
  have hl := lv_entry ([.ref (a 0), .int p1, .int p2]) (n := 3) (Nat.le_of_ble_eq_true rfl)
  rw [lg_entry_eq]
  generalize (lg_sl ([.ref (a 0), .int p1, .int p2]) ++ List.replicate (3 - (lg_sl ([.ref (a 0), .int p1, .int p2])).length) Slot.unset).toArray = ls at hl ⊢
  have hl : lv_has ls 3 [(0, .ref (a 0)), (1, .int p1), (2, .int p2)] := hl
  obtain ⟨gw1, gw2, gw3, gw4, gw5, gw6⟩ := id gw
  refine lv_iload_n hx hb dX4_block_0 rfl (lv_at hl 1 rfl) ?_
  refine lv_if_lt (tgt := 21) hx hb dX4_block_1 (by decide) (fun c_1 => ?_) (fun c_1 => ?_)
  · refine lv_bipush (v := ((-11))) hx hb dX4_block_21 (by decide) ?_
    exact W.iret (v := ((-11))) hx hb hr (fun t ht hW => ⟨((-11)), rfl, (show ((-11)) = bkR sz st us pl ln p1 p2 from (bkR_w (by first | exact Or.inl c_1 | (right; left; rw [show cl (nI x) = x from nI_clamp n_x]; omega) | exact Or.inr (Or.inr (Or.inl c_13)) | (right; right; right; rw [show cl (nI y) = y from nI_clamp n_y]; omega))).symm), ht⟩) (fun _ h9 => absurd h9 List.not_mem_nil) dX4_block_23
  · obtain ⟨x, n_x, rfl⟩ := nI_of c_1
    refine lv_iload_n hx hb dX4_block_4 rfl (lv_at hl 1 rfl) ?_
    refine lv_aload_n hx hb dX4_block_5 rfl (lv_at hl 0 rfl) ?_
    refine va_get (D := (dC, dI)) (ci := 4) (v := .int (nI us)) (C := RX4) (T := TX4) (N := 18) hx hb hts in_X4 hown hK hP 0 rfl rfl 3 (by decide) lk_1 (fun _ h9 => h9) rfl dX4_block_6 ?_
    refine lv_icmp_ge (tgt := 21) hx hb dX4_block_9 (by decide) (fun c_9 => ?_) (fun c_9 => ?_)
    · have c_9 : us ≤ x := (nI_leI (a := us) (b := x) (by omega) (by omega)).mp c_9
      refine lv_bipush (v := ((-11))) hx hb dX4_block_21 (by decide) ?_
      exact W.iret (v := ((-11))) hx hb hr (fun t ht hW => ⟨((-11)), rfl, (show ((-11)) = bkR sz st us pl ln (nI x) p2 from (bkR_w (by first | exact Or.inl c_1 | (right; left; rw [show cl (nI x) = x from nI_clamp n_x]; omega) | exact Or.inr (Or.inr (Or.inl c_13)) | (right; right; right; rw [show cl (nI y) = y from nI_clamp n_y]; omega))).symm), ht⟩) (fun _ h9 => absurd h9 List.not_mem_nil) dX4_block_23
    · have c_9 : ¬ us ≤ x := fun q => c_9 ((nI_leI (a := us) (b := x) (by omega) (by omega)).mpr q)
      have w5 := gw5 x (by omega)
      refine lv_iload_n hx hb dX4_block_12 rfl (lv_at hl 2 rfl) ?_
      refine lv_if_lt (tgt := 21) hx hb dX4_block_13 (by decide) (fun c_13 => ?_) (fun c_13 => ?_)
      · refine lv_bipush (v := ((-11))) hx hb dX4_block_21 (by decide) ?_
        exact W.iret (v := ((-11))) hx hb hr (fun t ht hW => ⟨((-11)), rfl, (show ((-11)) = bkR sz st us pl ln (nI x) p2 from (bkR_w (by first | exact Or.inl c_1 | (right; left; rw [show cl (nI x) = x from nI_clamp n_x]; omega) | exact Or.inr (Or.inr (Or.inl c_13)) | (right; right; right; rw [show cl (nI y) = y from nI_clamp n_y]; omega))).symm), ht⟩) (fun _ h9 => absurd h9 List.not_mem_nil) dX4_block_23
      · obtain ⟨y, n_y, rfl⟩ := nI_of c_13
        refine lv_iload_n hx hb dX4_block_16 rfl (lv_at hl 2 rfl) ?_
        refine lv_iconst (v := (nI 2)) hx hb dX4_block_17 (by decide) ?_
        refine lv_icmp_le (tgt := 24) hx hb dX4_block_18 (by decide) (fun c_18 => ?_) (fun c_18 => ?_)
        · have c_18 : y ≤ 2 := (nI_leI (a := y) (b := 2) (by omega) (by omega)).mp c_18
          refine lv_iload_n hx hb dX4_block_24 rfl (lv_at hl 2 rfl) ?_
          refine lv_if_ne (tgt := 37) hx hb dX4_block_25 (by decide) (fun c_25 => ?_) (fun c_25 => ?_)
          · have c_25 : ¬ y = 0 := fun q => c_25 ((nZ_eq (by omega)).mpr q)
            refine lv_iload_n hx hb dX4_block_37 rfl (lv_at hl 2 rfl) ?_
            refine lv_iconst (v := (nI 1)) hx hb dX4_block_38 (by decide) ?_
            refine lv_icmp_ne (tgt := 51) hx hb dX4_block_39 (by decide) (fun c_39 => ?_) (fun c_39 => ?_)
            · have c_39 : ¬ y = 1 := fun q => c_39 ((nI_eq (a := y) (b := 1) (by omega) (by omega)).mpr q)
              refine lv_aload_n hx hb dX4_block_51 rfl (lv_at hl 0 rfl) ?_
              refine lv_iload_n hx hb dX4_block_52 rfl (lv_at hl 1 rfl) ?_
              refine lv_iconst (v := (nI 1)) hx hb dX4_block_53 (by decide) ?_
              refine lv_iadd hx hb dX4_block_54 ?_
              refine tpi (nI_add _ _) ?_
              refine vp_callSi (W.runV (As := [.int (nI (x + 1))]) (rest := []) ⟨hx, hb, hml, hown, hts⟩ (c_X4_gapEnd l dC dI cI a sz st us kp ga gl cs mem pl ln km ks kt ku kl kn cd wt (x + 1) (by omega) (by omega)) (cwV 1 hts gX4_block_X4_gapEnd rfl rfl rfl (by decide +kernel) ⟨Nat.le_of_ble_eq_true rfl, Nat.le_of_ble_eq_true rfl⟩) ⟨fun a9 U g9 mk9 q9 => by obtain ⟨q0, qP, qK⟩ := q9; exact ⟨q0, qP, va_K.moved (u := U) (U := U.calling g9 mk9 a9) (Vm.Alike.refl U.vm) qK⟩, va_recv hK hP (ci := 4) (q0 := 0) rfl rfl, fun U hU hW => ⟨rfl, by rw [hU]; exact hP, va_K.moved hW.alike hK⟩⟩ rfl rfl hl.1 rfl (lv_room (Nat.le_of_ble_eq_true rfl)) dX4_block_55 ⟨Nat.zero_le _, Nat.zero_le _⟩) (fun r_55 hw => ?_)
              try dsimp only at hw
              subst hw
              have we_55 := gEn_le gw (i := (x + 1)) (by omega)
              refine lv_aload_n hx hb dX4_block_58 rfl (lv_at hl 0 rfl) ?_
              refine lv_iload_n hx hb dX4_block_59 rfl (lv_at hl 1 rfl) ?_
              refine lv_iconst (v := (nI 1)) hx hb dX4_block_60 (by decide) ?_
              refine lv_iadd hx hb dX4_block_61 ?_
              refine tpi (nI_add _ _) ?_
              refine vp_callSi (W.runV (As := [.int (nI (x + 1))]) (rest := [.int (nI (gEn sz us pl (x + 1)))]) ⟨hx, hb, hml, hown, hts⟩ (c_X4_gapAt l dC dI cI a sz st us kp ga gl cs mem pl ln km ks kt ku kl kn cd wt (x + 1) (by omega)) (cwV 1 hts gX4_block_X4_gapAt rfl rfl rfl (by decide +kernel) ⟨Nat.le_of_ble_eq_true rfl, Nat.le_of_ble_eq_true rfl⟩) ⟨fun a9 U g9 mk9 q9 => by obtain ⟨q0, qP, qK⟩ := q9; exact ⟨q0, qP, va_K.moved (u := U) (U := U.calling g9 mk9 a9) (Vm.Alike.refl U.vm) qK⟩, va_recv hK hP (ci := 4) (q0 := 0) rfl rfl, fun U hU hW => ⟨rfl, by rw [hU]; exact hP, va_K.moved hW.alike hK⟩⟩ rfl rfl hl.1 rfl (lv_room (Nat.le_of_ble_eq_true rfl)) dX4_block_62 ⟨Nat.zero_le _, Nat.zero_le _⟩) (fun r_62 hw => ?_)
              try dsimp only at hw
              subst hw
              have wg_62 := gAt_le gw (i := (x + 1)) (by omega)
              have wo_62 := gap_le gw (i := (x + 1)) (by omega) (by omega)
              refine lv_isub hx hb dX4_block_65 ?_
              refine tpi (pk_sub (by omega)) ?_
              exact W.iret (v := (nI (gEn sz us pl (x + 1) - (gAt st pl ln (x + 1))))) hx hb hr (fun t ht hW => ⟨(nI (gEn sz us pl (x + 1) - (gAt st pl ln (x + 1)))), rfl, (show (nI (gEn sz us pl (x + 1) - (gAt st pl ln (x + 1)))) = bkR sz st us pl ln (nI x) (nI y) from by rw [bkR_ok n_x n_y (by omega) (by omega), if_neg (by omega), if_neg (by omega)]), ht⟩) (fun _ h9 => absurd h9 List.not_mem_nil) dX4_block_66
            · have c_39 : y = 1 := (nI_eq (a := y) (b := 1) (by omega) (by omega)).mp c_39
              refine lv_aload_n hx hb dX4_block_42 rfl (lv_at hl 0 rfl) ?_
              refine va_get (D := (dC, dI)) (ci := 4) (v := .ref (a 3)) (C := RX4) (T := TX4) (N := 18) hx hb hts in_X4 hown hK hP 0 rfl rfl 5 (by decide) lk_3 (fun _ h9 => h9) rfl dX4_block_43 ?_
              refine lv_iload_n hx hb dX4_block_46 rfl (lv_at hl 1 rfl) ?_
              refine va_iald hx hb hK hP 3 0 rfl rfl (vp_in_nI (by omega) (by omega)) dX4_block_47 ?_
              refine tpi (nf_at (by omega)) ?_
              refine lv_goto (tgt := 66) hx hb dX4_block_48 (by decide) ?_
              exact W.iret (v := (nI (ln x))) hx hb hr (fun t ht hW => ⟨(nI (ln x)), rfl, (show (nI (ln x)) = bkR sz st us pl ln (nI x) (nI y) from by rw [bkR_ok n_x n_y (by omega) (by omega), if_neg (by omega), if_pos (by omega)]), ht⟩) (fun _ h9 => absurd h9 List.not_mem_nil) dX4_block_66
          · have c_25 : y = 0 := (nZ_eq (by omega)).mp c_25
            refine lv_aload_n hx hb dX4_block_28 rfl (lv_at hl 0 rfl) ?_
            refine va_get (D := (dC, dI)) (ci := 4) (v := .ref (a 2)) (C := RX4) (T := TX4) (N := 18) hx hb hts in_X4 hown hK hP 0 rfl rfl 4 (by decide) lk_2 (fun _ h9 => h9) rfl dX4_block_29 ?_
            refine lv_iload_n hx hb dX4_block_32 rfl (lv_at hl 1 rfl) ?_
            refine va_iald hx hb hK hP 2 0 rfl rfl (vp_in_nI (by omega) (by omega)) dX4_block_33 ?_
            refine tpi (nf_at (by omega)) ?_
            refine lv_goto (tgt := 66) hx hb dX4_block_34 (by decide) ?_
            exact W.iret (v := (nI (pl x))) hx hb hr (fun t ht hW => ⟨(nI (pl x)), rfl, (show (nI (pl x)) = bkR sz st us pl ln (nI x) (nI y) from by rw [bkR_ok n_x n_y (by omega) (by omega), if_pos (by omega)]), ht⟩) (fun _ h9 => absurd h9 List.not_mem_nil) dX4_block_66
        · have c_18 : ¬ y ≤ 2 := fun q => c_18 ((nI_leI (a := y) (b := 2) (by omega) (by omega)).mpr q)
          refine lv_bipush (v := ((-11))) hx hb dX4_block_21 (by decide) ?_
          exact W.iret (v := ((-11))) hx hb hr (fun t ht hW => ⟨((-11)), rfl, (show ((-11)) = bkR sz st us pl ln (nI x) (nI y) from (bkR_w (by first | exact Or.inl c_1 | (right; left; rw [show cl (nI x) = x from nI_clamp n_x]; omega) | exact Or.inr (Or.inr (Or.inl c_13)) | (right; right; right; rw [show cl (nI y) = y from nI_clamp n_y]; omega))).symm), ht⟩) (fun _ h9 => absurd h9 List.not_mem_nil) dX4_block_23
