set_option maxHeartbeats 4000000 in
set_option maxRecDepth 100000 in
theorem c_X4_free (l : Launch) (dC : Nat → ClassId) (dI : Nat → Nat → Nat) (cI : ClassId) (a : Nat → Nat) (sz st us kp ga gl cs : Nat) (mem pl ln km ks kt ku kl kn cd wt : Nat → Nat) (zz : Nat) (p1 : Int32) (gw : wfB sz st us pl ln) : Met l yX4_free wsX4_free ({ frames := 0, cells := 0, slots := 0, locals := 0 }) (va_Pc [.ref (a 0), .int p1] (fun U => U.heap.size = zz ∧ va_P (dC, dI) vwCl (mw cI a sz st us kp ga gl cs mem pl ln km ks kt ku kl kn cd wt) U.heap ∧ va_K (dC, dI) vwCl [(cI, .int)] U ∧ va_D (fun _ => True) (mw cI a sz st us kp ga gl cs mem pl ln km ks kt ku kl kn cd wt))) (va_Qi (fun r _ => r = frR us pl ln p1) (fun (_ : Unit) t => va_P (dC, dI) vwCl (mw cI a (frZ sz st us pl p1) (frS st us pl p1) (frU us pl p1) kp ga gl cs mem (frA us pl pl p1) (frA us pl ln p1) km ks kt ku kl kn cd wt) t.heap ∧ va_K (dC, dI) vwCl [(cI, .int)] t ∧ va_D (va_A (mw cI a sz st us kp ga gl cs mem pl ln km ks kt ku kl kn cd wt) zz) (mw cI a (frZ sz st us pl p1) (frS st us pl p1) (frU us pl p1) kp ga gl cs mem (frA us pl pl p1) (frA us pl ln p1) km ks kt ku kl kn cd wt)) (va_A (mw cI a sz st us kp ga gl cs mem pl ln km ks kt ku kl kn cd wt) zz)) 0 0 (va_A (mw cI a sz st us kp ga gl cs mem pl ln km ks kt ku kl kn cd wt) zz) := by
  refine Met.ofW (cc := cX4_free) (maxL := 5) (ret := (some .int)) (by decide) rfl ?_
  intro p e s m args below meth c s₁ B hml hv
  obtain ⟨rfl, hsz, hP, hK, hD0⟩ := hv
  have hx := B.exec
  have hb := B.bytes
  have hr := B.returns
  have hts := atoms_spec (ws := wsX4_free) B.pre
  have hown : s.vm.findClass RX4 = some m.cls := findClass_of_methodNamed B.named
  have hlocks := B.notSynchronized
  subst hsz
  have hD := hD0.self (sz := s.heap.size)
  generalize hAe : va_A (mw cI a sz st us kp ga gl cs mem pl ln km ks kt ku kl kn cd wt) s.heap.size = A at hD ⊢
  have hA : ∀ q : Nat, s.heap.size ≤ q → A q := fun q h => by rw [← hAe]; exact Or.inr h
  have hS : va_S A s.heap s.heap [] := va_S.rf
  have hP : va_P (dC, dI) vwCl (mw cI a sz st us kp ga gl cs mem pl ln km ks kt ku kl kn cd wt) s.heap := hP
  have in_X4 : ∀ w ∈ wsX40, w ∈ wsX4_free := fun _ h => List.mem_cons_of_mem _ (List.mem_append_right _ h)
  have lk_1 := hts (.fieldLink RX4 71 "GlulxHeapModel" "used" "I") (List.mem_of_getElem? (i := 1) rfl)
  have lk_2 := hts (.fieldLink RX4 13 "GlulxHeapModel" "place" "[I") (List.mem_of_getElem? (i := 2) rfl)
  have lk_3 := hts (.fieldLink RX4 16 "GlulxHeapModel" "length" "[I") (List.mem_of_getElem? (i := 3) rfl)
  have lk_4 := hts (.fieldLink RX4 78 "GlulxHeapModel" "start" "I") (List.mem_of_getElem? (i := 4) rfl)
  have lk_5 := hts (.fieldLink RX4 44 "GlulxHeapModel" "size" "I") (List.mem_of_getElem? (i := 5) rfl)
  have hl := lv_entry ([.ref (a 0), .int p1]) (n := 5) (Nat.le_of_ble_eq_true rfl)
  rw [lg_entry_eq]
  generalize (lg_sl ([.ref (a 0), .int p1]) ++ List.replicate (5 - (lg_sl ([.ref (a 0), .int p1])).length) Slot.unset).toArray = ls at hl ⊢
  have hl : lv_has ls 5 [(0, .ref (a 0)), (1, .int p1)] := hl
  obtain ⟨gw1, gw2, gw3, gw4, gw5, gw6⟩ := id gw
  refine lv_iconst (v := (nI 0)) hx hb dX4_free_0 (by decide) ?_
  refine lv_istore_n (lv' := [(2, .int (nI 0)), (0, .ref (a 0)), (1, .int p1)]) hx hb dX4_free_1 rfl hl (by decide) rfl (fun ls hl => ?_)
  refine lp_still (σ := Nat) (fun i => i ≤ us ∧ fnd us pl p1 = fndF us pl p1 (us - i) i) (fun i => us - i) (fun i => [(2, .int (nI i)), (0, .ref (a 0)), (1, .int p1)]) ?_ 0 (⟨Nat.zero_le _, rfl⟩) (lv_sub hl [0, 1, 2] rfl)
  intro i hI ih ls hl
  have hl : lv_has ls 5 [(2, .int (nI i)), (0, .ref (a 0)), (1, .int p1)] := hl
  have hI : i ≤ us ∧ fnd us pl p1 = fndF us pl p1 (us - i) i := hI
  obtain ⟨hi, hv⟩ := hI
  have ih_2 := ih
  refine lv_iload_n hx hb dX4_free_2 rfl (lv_at hl 0 rfl) ?_
  refine lv_aload_n hx hb dX4_free_3 rfl (lv_at hl 1 rfl) ?_
  refine va_get (D := (dC, dI)) (ci := 4) (v := .int (nI us)) (C := RX4) (T := TX4) (N := 18) hx hb hts in_X4 hown hK hP 0 rfl rfl 3 (by decide) lk_1 (fun _ h9 => h9) rfl dX4_free_4 ?_
  refine lv_icmp_ge (tgt := 26) hx hb dX4_free_7 (by decide) (fun c_7 => ?_) (fun c_7 => ?_)
  · have c_7 : us ≤ i := (nI_leI (a := us) (b := i) (by omega) (by omega)).mp c_7
    refine lv_iload_n hx hb dX4_free_26 rfl (lv_at hl 0 rfl) ?_
    refine lv_aload_n hx hb dX4_free_27 rfl (lv_at hl 1 rfl) ?_
    refine va_get (D := (dC, dI)) (ci := 4) (v := .int (nI us)) (C := RX4) (T := TX4) (N := 18) hx hb hts in_X4 hown hK hP 0 rfl rfl 3 (by decide) lk_1 (fun _ h9 => h9) rfl dX4_free_28 ?_
    refine lv_icmp_ne (tgt := 37) hx hb dX4_free_31 (by decide) (fun c_31 => ?_) (fun c_31 => ?_)
    · have c_31 : ¬ i = us := fun q => c_31 ((nI_eq (a := i) (b := us) (by omega) (by omega)).mpr q)
      omega
    · have c_31 : i = us := (nI_eq (a := i) (b := us) (by omega) (by omega)).mp c_31
      have e6 : fnd us pl p1 = us := by rw [hv, fndF_end (by omega)]
      refine lv_bipush (v := ((-11))) hx hb dX4_free_34 (by decide) ?_
      have e_sz : sz = frZ sz st us pl p1 := by unfold frZ; rw [if_pos e6]
      have e_st : st = frS st us pl p1 := by unfold frS; rw [if_pos e6]
      have e_us : us = frU us pl p1 := by unfold frU; rw [if_pos e6]
      have e_pl : pl = frA us pl pl p1 := by unfold frA; rw [if_pos e6]
      have e_ln : ln = frA us pl ln p1 := by unfold frA; rw [if_pos e6]
      have hP : va_P (dC, dI) vwCl (mw cI a (frZ sz st us pl p1) (frS st us pl p1) (frU us pl p1) kp ga gl cs mem (frA us pl pl p1) (frA us pl ln p1) km ks kt ku kl kn cd wt) s.heap := by rw [← e_sz, ← e_st, ← e_us, ← e_pl, ← e_ln]; exact hP
      have hD : va_D A (mw cI a (frZ sz st us pl p1) (frS st us pl p1) (frU us pl p1) kp ga gl cs mem (frA us pl pl p1) (frA us pl ln p1) km ks kt ku kl kn cd wt) := by rw [← e_sz, ← e_st, ← e_us, ← e_pl, ← e_ln]; exact hD
      exact W.iret (v := ((-11))) hx hb hr (fun t ht hW => ⟨⟨((-11)), (), rfl, (show ((-11)) = frR us pl ln p1 from by unfold frR; rw [if_pos e6]), by rw [ht]; exact hP, va_K.moved hW.alike hK, hD⟩, hS.F ht⟩) hS.2.2 dX4_free_36
  · have c_7 : ¬ us ≤ i := fun q => c_7 ((nI_leI (a := us) (b := i) (by omega) (by omega)).mpr q)
    have w5 := gw5 i (by omega)
    refine lv_aload_n hx hb dX4_free_10 rfl (lv_at hl 1 rfl) ?_
    refine va_get (D := (dC, dI)) (ci := 4) (v := .ref (a 2)) (C := RX4) (T := TX4) (N := 18) hx hb hts in_X4 hown hK hP 0 rfl rfl 4 (by decide) lk_2 (fun _ h9 => h9) rfl dX4_free_11 ?_
    refine lv_iload_n hx hb dX4_free_14 rfl (lv_at hl 0 rfl) ?_
    refine va_iald hx hb hK hP 2 0 rfl rfl (vp_in_nI (by omega) (by omega)) dX4_free_15 ?_
    refine tpi (nf_at (by omega)) ?_
    refine lv_iload_n hx hb dX4_free_16 rfl (lv_at hl 2 rfl) ?_
    refine lv_icmp_eq (tgt := 26) hx hb dX4_free_17 (by decide) (fun c_17 => ?_) (fun c_17 => ?_)
    · refine lv_iload_n hx hb dX4_free_26 rfl (lv_at hl 0 rfl) ?_
      refine lv_aload_n hx hb dX4_free_27 rfl (lv_at hl 1 rfl) ?_
      refine va_get (D := (dC, dI)) (ci := 4) (v := .int (nI us)) (C := RX4) (T := TX4) (N := 18) hx hb hts in_X4 hown hK hP 0 rfl rfl 3 (by decide) lk_1 (fun _ h9 => h9) rfl dX4_free_28 ?_
      refine lv_icmp_ne (tgt := 37) hx hb dX4_free_31 (by decide) (fun c_31 => ?_) (fun c_31 => ?_)
      · have c_31 : ¬ i = us := fun q => c_31 ((nI_eq (a := i) (b := us) (by omega) (by omega)).mpr q)
        have e5 : fnd us pl p1 = i := by rw [hv, fndF_step (by omega), if_pos c_17]
        refine lv_aload_n hx hb dX4_free_37 rfl (lv_at hl 1 rfl) ?_
        refine va_get (D := (dC, dI)) (ci := 4) (v := .ref (a 3)) (C := RX4) (T := TX4) (N := 18) hx hb hts in_X4 hown hK hP 0 rfl rfl 5 (by decide) lk_3 (fun _ h9 => h9) rfl dX4_free_38 ?_
        refine lv_iload_n hx hb dX4_free_41 rfl (lv_at hl 0 rfl) ?_
        refine va_iald hx hb hK hP 3 0 rfl rfl (vp_in_nI (by omega) (by omega)) dX4_free_42 ?_
        refine tpi (nf_at (by omega)) ?_
        refine lv_istore_n (lv' := [(3, .int (nI (ln i))), (2, .int (nI i)), (0, .ref (a 0)), (1, .int p1)]) hx hb dX4_free_43 rfl hl (by decide) rfl (fun ls hl => ?_)
        refine lv_aload_n hx hb dX4_free_44 rfl (lv_at hl 2 rfl) ?_
        refine lv_dup hx hb dX4_free_45 rfl ?_
        refine va_get (D := (dC, dI)) (ci := 4) (v := .int (nI us)) (C := RX4) (T := TX4) (N := 18) hx hb hts in_X4 hown hK hP 0 rfl rfl 3 (by decide) lk_1 (fun _ h9 => h9) rfl dX4_free_46 ?_
        refine lv_iconst (v := (nI 1)) hx hb dX4_free_49 (by decide) ?_
        refine lv_isub hx hb dX4_free_50 ?_
        refine tpi (pk_sub (by omega)) ?_
        refine va_put (D := (dC, dI)) (ci := 4) (v := .int (nI (us - 1))) (ty := .int) (C := RX4) (T := TX4) (N := 18) hx hb hts in_X4 tyX4 tyX4_ok nmX4 hown hK hP hD hS 0 rfl rfl 3 (by decide) lk_1 (fun _ h9 => h9) rfl (by decide +kernel) rfl rfl (Nat.le_of_ble_eq_true rfl) dX4_free_51 (fun H locs hP hD hS => ?_)
        have hP : va_P (dC, dI) vwCl (mw cI a sz st (us - 1) kp ga gl cs mem pl ln km ks kt ku kl kn cd wt) H := hP
        have hD : va_D A (mw cI a sz st (us - 1) kp ga gl cs mem pl ln km ks kt ku kl kn cd wt) := hD
        refine lv_iload_n hx hb dX4_free_54 rfl (lv_at hl 1 rfl) ?_
        refine lv_istore (lv' := [(4, .int (nI i)), (3, .int (nI (ln i))), (2, .int (nI i)), (0, .ref (a 0)), (1, .int p1)]) hx hb dX4_free_55 hl (by decide) rfl (fun ls hl => ?_)
        refine lp_world (σ := Nat × (Nat → Nat) × (Nat → Nat)) (fun ⟨k, f, g⟩ => i ≤ k ∧ k ≤ us - 1 ∧ f = dlf pl i k ∧ g = dlf ln i k) (fun ⟨k, f, g⟩ => us - k) (fun ⟨k, f, g⟩ => [(4, .int (nI k)), (3, .int (nI (ln i))), (2, .int (nI i)), (0, .ref (a 0)), (1, .int p1)]) (fun ⟨k, f, g⟩ => mw cI a sz st (us - 1) kp ga gl cs mem f g km ks kt ku kl kn cd wt) ?_ ((i, pl, ln)) (⟨Nat.le_refl _, by omega, by rw [dlf_0], by rw [dlf_0]⟩) (hP) (hD) hS (lv_sub hl [0, 1, 2, 3, 4] rfl)
        intro ⟨k, f, g⟩ hI ih H locs ls hP hD hS hl
        have hl : lv_has ls 5 [(4, .int (nI k)), (3, .int (nI (ln i))), (2, .int (nI i)), (0, .ref (a 0)), (1, .int p1)] := hl
        have hP : va_P (dC, dI) vwCl (mw cI a sz st (us - 1) kp ga gl cs mem f g km ks kt ku kl kn cd wt) H := hP
        have hD : va_D A (mw cI a sz st (us - 1) kp ga gl cs mem f g km ks kt ku kl kn cd wt) := hD
        have hI : i ≤ k ∧ k ≤ us - 1 ∧ f = dlf pl i k ∧ g = dlf ln i k := hI
        obtain ⟨hk1, hk2, hf, hg⟩ := hI
        have ih_57 := ih
        refine lv_iload hx hb dX4_free_57 (lv_at hl 0 rfl) ?_
        refine lv_aload_n hx hb dX4_free_59 rfl (lv_at hl 3 rfl) ?_
        refine va_get (D := (dC, dI)) (ci := 4) (v := .int (nI (us - 1))) (C := RX4) (T := TX4) (N := 18) hx hb hts in_X4 hown hK hP 0 rfl rfl 3 (by decide) lk_1 (fun _ h9 => h9) rfl dX4_free_60 ?_
        refine lv_icmp_ge (tgt := 104) hx hb dX4_free_63 (by decide) (fun c_63 => ?_) (fun c_63 => ?_)
        · have c_63 : us - 1 ≤ k := (nI_leI (a := us - 1) (b := k) (by omega) (by omega)).mp c_63
          refine lv_aload_n hx hb dX4_free_104 rfl (lv_at hl 3 rfl) ?_
          refine va_get (D := (dC, dI)) (ci := 4) (v := .int (nI (us - 1))) (C := RX4) (T := TX4) (N := 18) hx hb hts in_X4 hown hK hP 0 rfl rfl 3 (by decide) lk_1 (fun _ h9 => h9) rfl dX4_free_105 ?_
          refine lv_if_ne (tgt := 124) hx hb dX4_free_108 (by decide) (fun c_108 => ?_) (fun c_108 => ?_)
          · have c_108 : ¬ us - 1 = 0 := fun q => c_108 ((nZ_eq (by omega)).mpr q)
            refine lv_iload_n hx hb dX4_free_124 rfl (lv_at hl 1 rfl) ?_
            have e_sz : sz = frZ sz st us pl p1 := by unfold frZ; rw [if_neg (by rw [e5]; omega), if_neg (by omega)]
            have e_st : st = frS st us pl p1 := by unfold frS; rw [if_neg (by rw [e5]; omega), if_neg (by omega)]
            have e_us : us - 1 = frU us pl p1 := by unfold frU; rw [if_neg (by rw [e5]; omega)]
            have e_pl : f = frA us pl pl p1 := by unfold frA; rw [if_neg (by rw [e5]; omega), e5, hf, show k = us - 1 by omega]
            have e_ln : g = frA us pl ln p1 := by unfold frA; rw [if_neg (by rw [e5]; omega), e5, hg, show k = us - 1 by omega]
            have hP : va_P (dC, dI) vwCl (mw cI a (frZ sz st us pl p1) (frS st us pl p1) (frU us pl p1) kp ga gl cs mem (frA us pl pl p1) (frA us pl ln p1) km ks kt ku kl kn cd wt) H := by rw [← e_sz, ← e_st, ← e_us, ← e_pl, ← e_ln]; exact hP
            have hD : va_D A (mw cI a (frZ sz st us pl p1) (frS st us pl p1) (frU us pl p1) kp ga gl cs mem (frA us pl pl p1) (frA us pl ln p1) km ks kt ku kl kn cd wt) := by rw [← e_sz, ← e_st, ← e_us, ← e_pl, ← e_ln]; exact hD
            exact W.iret (v := (nI (ln i))) hx hb hr (fun t ht hW => ⟨⟨(nI (ln i)), (), rfl, (show (nI (ln i)) = frR us pl ln p1 from by unfold frR; rw [if_neg (by rw [e5]; omega), e5]), by rw [ht]; exact hP, va_K.moved hW.alike hK, hD⟩, hS.F ht⟩) hS.2.2 dX4_free_125
          · have c_108 : us - 1 = 0 := (nZ_eq (by omega)).mp c_108
            refine lv_aload_n hx hb dX4_free_111 rfl (lv_at hl 3 rfl) ?_
            refine lv_aload_n hx hb dX4_free_112 rfl (lv_at hl 3 rfl) ?_
            refine va_get (D := (dC, dI)) (ci := 4) (v := .int (nI st)) (C := RX4) (T := TX4) (N := 18) hx hb hts in_X4 hown hK hP 0 rfl rfl 2 (by decide) lk_4 (fun _ h9 => h9) rfl dX4_free_113 ?_
            refine va_put (D := (dC, dI)) (ci := 4) (v := .int (nI st)) (ty := .int) (C := RX4) (T := TX4) (N := 18) hx hb hts in_X4 tyX4 tyX4_ok nmX4 hown hK hP hD hS 0 rfl rfl 1 (by decide) lk_5 (fun _ h9 => h9) rfl (by decide +kernel) rfl rfl (Nat.le_of_ble_eq_true rfl) dX4_free_116 (fun H locs hP hD hS => ?_)
            have hP : va_P (dC, dI) vwCl (mw cI a st st (us - 1) kp ga gl cs mem f g km ks kt ku kl kn cd wt) H := hP
            have hD : va_D A (mw cI a st st (us - 1) kp ga gl cs mem f g km ks kt ku kl kn cd wt) := hD
            refine lv_aload_n hx hb dX4_free_119 rfl (lv_at hl 3 rfl) ?_
            refine lv_iconst (v := (nI 0)) hx hb dX4_free_120 (by decide) ?_
            refine va_put (D := (dC, dI)) (ci := 4) (v := .int (nI 0)) (ty := .int) (C := RX4) (T := TX4) (N := 18) hx hb hts in_X4 tyX4 tyX4_ok nmX4 hown hK hP hD hS 0 rfl rfl 2 (by decide) lk_4 (fun _ h9 => h9) rfl (by decide +kernel) rfl rfl (Nat.le_of_ble_eq_true rfl) dX4_free_121 (fun H locs hP hD hS => ?_)
            have hP : va_P (dC, dI) vwCl (mw cI a st 0 (us - 1) kp ga gl cs mem f g km ks kt ku kl kn cd wt) H := hP
            have hD : va_D A (mw cI a st 0 (us - 1) kp ga gl cs mem f g km ks kt ku kl kn cd wt) := hD
            refine lv_iload_n hx hb dX4_free_124 rfl (lv_at hl 1 rfl) ?_
            have e_sz : st = frZ sz st us pl p1 := by unfold frZ; rw [if_neg (by rw [e5]; omega), if_pos (by omega)]
            have e_st : 0 = frS st us pl p1 := by unfold frS; rw [if_neg (by rw [e5]; omega), if_pos (by omega)]
            have e_us : us - 1 = frU us pl p1 := by unfold frU; rw [if_neg (by rw [e5]; omega)]
            have e_pl : f = frA us pl pl p1 := by unfold frA; rw [if_neg (by rw [e5]; omega), e5, hf, show k = us - 1 by omega]
            have e_ln : g = frA us pl ln p1 := by unfold frA; rw [if_neg (by rw [e5]; omega), e5, hg, show k = us - 1 by omega]
            have hP : va_P (dC, dI) vwCl (mw cI a (frZ sz st us pl p1) (frS st us pl p1) (frU us pl p1) kp ga gl cs mem (frA us pl pl p1) (frA us pl ln p1) km ks kt ku kl kn cd wt) H := by rw [← e_sz, ← e_st, ← e_us, ← e_pl, ← e_ln]; exact hP
            have hD : va_D A (mw cI a (frZ sz st us pl p1) (frS st us pl p1) (frU us pl p1) kp ga gl cs mem (frA us pl pl p1) (frA us pl ln p1) km ks kt ku kl kn cd wt) := by rw [← e_sz, ← e_st, ← e_us, ← e_pl, ← e_ln]; exact hD
            exact W.iret (v := (nI (ln i))) hx hb hr (fun t ht hW => ⟨⟨(nI (ln i)), (), rfl, (show (nI (ln i)) = frR us pl ln p1 from by unfold frR; rw [if_neg (by rw [e5]; omega), e5]), by rw [ht]; exact hP, va_K.moved hW.alike hK, hD⟩, hS.F ht⟩) hS.2.2 dX4_free_125
        · have c_63 : ¬ us - 1 ≤ k := fun q => c_63 ((nI_leI (a := us - 1) (b := k) (by omega) (by omega)).mpr q)
          refine lv_aload_n hx hb dX4_free_66 rfl (lv_at hl 3 rfl) ?_
          refine va_get (D := (dC, dI)) (ci := 4) (v := .ref (a 2)) (C := RX4) (T := TX4) (N := 18) hx hb hts in_X4 hown hK hP 0 rfl rfl 4 (by decide) lk_2 (fun _ h9 => h9) rfl dX4_free_67 ?_
          refine lv_iload hx hb dX4_free_70 (lv_at hl 0 rfl) ?_
          refine lv_aload_n hx hb dX4_free_72 rfl (lv_at hl 3 rfl) ?_
          refine va_get (D := (dC, dI)) (ci := 4) (v := .ref (a 2)) (C := RX4) (T := TX4) (N := 18) hx hb hts in_X4 hown hK hP 0 rfl rfl 4 (by decide) lk_2 (fun _ h9 => h9) rfl dX4_free_73 ?_
          refine lv_iload hx hb dX4_free_76 (lv_at hl 0 rfl) ?_
          refine lv_iconst (v := (nI 1)) hx hb dX4_free_78 (by decide) ?_
          refine lv_iadd hx hb dX4_free_79 ?_
          refine tpi (nI_add _ _) ?_
          refine va_iald hx hb hK hP 2 0 rfl rfl (vp_in_nI (by omega) (by omega)) dX4_free_80 ?_
          refine tpi (nf_at (by omega)) ?_
          refine va_iast hx hb hK hP hD hS 2 0 rfl rfl (vp_in_nI (by omega) (by omega)) dX4_free_81 (fun H locs hP hD hS => ?_)
          rw [nf_up (by omega)] at hP hD
          have hP : va_P (dC, dI) vwCl (mw cI a sz st (us - 1) kp ga gl cs mem (va_up f k (f (k + 1))) g km ks kt ku kl kn cd wt) H := hP
          have hD : va_D A (mw cI a sz st (us - 1) kp ga gl cs mem (va_up f k (f (k + 1))) g km ks kt ku kl kn cd wt) := hD
          refine lv_aload_n hx hb dX4_free_82 rfl (lv_at hl 3 rfl) ?_
          refine va_get (D := (dC, dI)) (ci := 4) (v := .ref (a 3)) (C := RX4) (T := TX4) (N := 18) hx hb hts in_X4 hown hK hP 0 rfl rfl 5 (by decide) lk_3 (fun _ h9 => h9) rfl dX4_free_83 ?_
          refine lv_iload hx hb dX4_free_86 (lv_at hl 0 rfl) ?_
          refine lv_aload_n hx hb dX4_free_88 rfl (lv_at hl 3 rfl) ?_
          refine va_get (D := (dC, dI)) (ci := 4) (v := .ref (a 3)) (C := RX4) (T := TX4) (N := 18) hx hb hts in_X4 hown hK hP 0 rfl rfl 5 (by decide) lk_3 (fun _ h9 => h9) rfl dX4_free_89 ?_
          refine lv_iload hx hb dX4_free_92 (lv_at hl 0 rfl) ?_
          refine lv_iconst (v := (nI 1)) hx hb dX4_free_94 (by decide) ?_
          refine lv_iadd hx hb dX4_free_95 ?_
          refine tpi (nI_add _ _) ?_
          refine va_iald hx hb hK hP 3 0 rfl rfl (vp_in_nI (by omega) (by omega)) dX4_free_96 ?_
          refine tpi (nf_at (by omega)) ?_
          refine va_iast hx hb hK hP hD hS 3 0 rfl rfl (vp_in_nI (by omega) (by omega)) dX4_free_97 (fun H locs hP hD hS => ?_)
          rw [nf_up (by omega)] at hP hD
          have hP : va_P (dC, dI) vwCl (mw cI a sz st (us - 1) kp ga gl cs mem (va_up f k (f (k + 1))) (va_up g k (g (k + 1))) km ks kt ku kl kn cd wt) H := hP
          have hD : va_D A (mw cI a sz st (us - 1) kp ga gl cs mem (va_up f k (f (k + 1))) (va_up g k (g (k + 1))) km ks kt ku kl kn cd wt) := hD
          refine lv_iinc (v := (nI (k + 1))) (lv' := [(4, .int (nI (k + 1))), (3, .int (nI (ln i))), (2, .int (nI i)), (0, .ref (a 0)), (1, .int p1)]) hx hb dX4_free_98 hl (k := 0) rfl (nI_inc _) (by decide) rfl (fun ls hl => ?_)
          refine lv_goto (tgt := 57) hx hb dX4_free_101 (by decide) ?_
          exact ih_57 (k + 1, va_up f k (f (k + 1)), va_up g k (g (k + 1))) (⟨by omega, by omega, by rw [hf, dlf_s hk1], by rw [hg, dlf_s hk1]⟩) (show us - (k + 1) < us - k by omega) H locs ls (hP) (hD) hS (lv_sub hl [0, 1, 2, 3, 4] rfl)
      · have c_31 : i = us := (nI_eq (a := i) (b := us) (by omega) (by omega)).mp c_31
        omega
    · refine lv_iinc (v := (nI (i + 1))) (lv' := [(2, .int (nI (i + 1))), (0, .ref (a 0)), (1, .int p1)]) hx hb dX4_free_20 hl (k := 0) rfl (nI_inc _) (by decide) rfl (fun ls hl => ?_)
      refine lv_goto (tgt := 2) hx hb dX4_free_23 (by decide) ?_
      exact ih_2 (i + 1) (⟨by omega, by rw [hv, fndF_step (by omega), if_neg c_17]⟩) (show us - (i + 1) < us - i by omega) ls (lv_sub hl [0, 1, 2] rfl)
set_option maxHeartbeats 4000000 in
set_option maxRecDepth 100000 in
theorem c_X4_make (l : Launch) (dC : Nat → ClassId) (dI : Nat → Nat → Nat) (cI : ClassId) (a : Nat → Nat) (sz st us kp ga gl cs : Nat) (mem pl ln km ks kt ku kl kn cd wt : Nat → Nat) (zz : Nat) (p1 : Int32) (gw : wfB sz st us pl ln) : Met l yX4_make wsX4_make ({ frames := 2, cells := 0, slots := 0, locals := 42 }) (va_Pc [.ref (a 0), .int p1] (fun U => U.heap.size = zz ∧ va_P (dC, dI) vwCl (mw cI a sz st us kp ga gl cs mem pl ln km ks kt ku kl kn cd wt) U.heap ∧ va_K (dC, dI) vwCl [(cI, .int)] U ∧ va_D (fun _ => True) (mw cI a sz st us kp ga gl cs mem pl ln km ks kt ku kl kn cd wt))) (va_Qi (fun r _ => r = mkR sz st us pl ln p1) (fun (_ : Unit) t => va_P (dC, dI) vwCl (mw cI a (mkZ sz st us pl ln p1) (mkS sz st us pl ln p1) (mkU sz st us pl ln p1) kp ga gl cs (mkM sz st us pl ln mem p1) (mkQ sz st us pl ln p1) (mkL sz st us pl ln p1) km ks kt ku kl kn cd wt) t.heap ∧ va_K (dC, dI) vwCl [(cI, .int)] t ∧ va_D (va_A (mw cI a sz st us kp ga gl cs mem pl ln km ks kt ku kl kn cd wt) zz) (mw cI a (mkZ sz st us pl ln p1) (mkS sz st us pl ln p1) (mkU sz st us pl ln p1) kp ga gl cs (mkM sz st us pl ln mem p1) (mkQ sz st us pl ln p1) (mkL sz st us pl ln p1) km ks kt ku kl kn cd wt)) (va_A (mw cI a sz st us kp ga gl cs mem pl ln km ks kt ku kl kn cd wt) zz)) 0 0 (va_A (mw cI a sz st us kp ga gl cs mem pl ln km ks kt ku kl kn cd wt) zz) := by
  refine Met.ofW (cc := cX4_make) (maxL := 7) (ret := (some .int)) (by decide) rfl ?_
  intro p e s m args below meth c s₁ B hml hv
  obtain ⟨rfl, hsz, hP, hK, hD0⟩ := hv
  have hx := B.exec
  have hb := B.bytes
  have hr := B.returns
  have hts := atoms_spec (ws := wsX4_make) B.pre
  have hown : s.vm.findClass RX4 = some m.cls := findClass_of_methodNamed B.named
  have hlocks := B.notSynchronized
  subst hsz
  have hD := hD0.self (sz := s.heap.size)
  generalize hAe : va_A (mw cI a sz st us kp ga gl cs mem pl ln km ks kt ku kl kn cd wt) s.heap.size = A at hD ⊢
  have hA : ∀ q : Nat, s.heap.size ≤ q → A q := fun q h => by rw [← hAe]; exact Or.inr h
  have hS : va_S A s.heap s.heap [] := va_S.rf
  have hP : va_P (dC, dI) vwCl (mw cI a sz st us kp ga gl cs mem pl ln km ks kt ku kl kn cd wt) s.heap := hP
  have in_X4 : ∀ w ∈ wsX40, w ∈ wsX4_make := fun _ h => List.mem_cons_of_mem _ (List.mem_append_right _ h)
  have lk_1 := hts (.fieldLink RX4 71 "GlulxHeapModel" "used" "I") (List.mem_of_getElem? (i := 1) rfl)
  have lk_2 := hts (.fieldLink RX4 44 "GlulxHeapModel" "size" "I") (List.mem_of_getElem? (i := 2) rfl)
  have lk_3 := hts (.fieldLink RX4 78 "GlulxHeapModel" "start" "I") (List.mem_of_getElem? (i := 3) rfl)
  have lk_4 := hts (.constantLong RX4 90 (8192)) (List.mem_of_getElem? (i := 4) rfl)
  have lk_5 := hts (.constantLong RX4 92 (255)) (List.mem_of_getElem? (i := 5) rfl)
  have lk_6 := hts (.constantLong RX4 94 (256)) (List.mem_of_getElem? (i := 6) rfl)
  have lk_7 := hts (.fieldLink RX4 13 "GlulxHeapModel" "place" "[I") (List.mem_of_getElem? (i := 7) rfl)
  have lk_8 := hts (.fieldLink RX4 16 "GlulxHeapModel" "length" "[I") (List.mem_of_getElem? (i := 8) rfl)
  have hl := lv_entry ([.ref (a 0), .int p1]) (n := 7) (Nat.le_of_ble_eq_true rfl)
  rw [lg_entry_eq]
  generalize (lg_sl ([.ref (a 0), .int p1]) ++ List.replicate (7 - (lg_sl ([.ref (a 0), .int p1])).length) Slot.unset).toArray = ls at hl ⊢
  have hl : lv_has ls 7 [(0, .ref (a 0)), (1, .int p1)] := hl
  obtain ⟨gw1, gw2, gw3, gw4, gw5, gw6⟩ := id gw
  refine lv_iload_n hx hb dX4_make_0 rfl (lv_at hl 1 rfl) ?_
  refine lv_iconst (v := (nI 1)) hx hb dX4_make_1 (by decide) ?_
  refine lv_icmp_ge (tgt := 8) hx hb dX4_make_2 (by decide) (fun c_2 => ?_) (fun c_2 => ?_)
  · obtain ⟨n, n_n, rfl, n_1⟩ := ge1 c_2
    have hcl : cl (nI n) = n := nI_clamp n_n
    refine lv_aload_n hx hb dX4_make_8 rfl (lv_at hl 0 rfl) ?_
    refine va_get (D := (dC, dI)) (ci := 4) (v := .int (nI us)) (C := RX4) (T := TX4) (N := 18) hx hb hts in_X4 hown hK hP 0 rfl rfl 3 (by decide) lk_1 (fun _ h9 => h9) rfl dX4_make_9 ?_
    refine lv_bipush (v := (nI 64)) hx hb dX4_make_12 (by decide) ?_
    refine lv_icmp_ne (tgt := 19) hx hb dX4_make_14 (by decide) (fun c_14 => ?_) (fun c_14 => ?_)
    · have c_14 : ¬ us = 64 := fun q => c_14 ((nI_eq (a := us) (b := 64) (by omega) (by omega)).mpr q)
      refine lv_aload_n hx hb dX4_make_19 rfl (lv_at hl 0 rfl) ?_
      refine va_get (D := (dC, dI)) (ci := 4) (v := .int (nI us)) (C := RX4) (T := TX4) (N := 18) hx hb hts in_X4 hown hK hP 0 rfl rfl 3 (by decide) lk_1 (fun _ h9 => h9) rfl dX4_make_20 ?_
      refine lv_if_ne (tgt := 33) hx hb dX4_make_23 (by decide) (fun c_23 => ?_) (fun c_23 => ?_)
      · have c_23 : ¬ us = 0 := fun q => c_23 ((nZ_eq (by omega)).mpr q)
        refine lv_aload_n hx hb dX4_make_33 rfl (lv_at hl 0 rfl) ?_
        refine va_get (D := (dC, dI)) (ci := 4) (v := .int (nI st)) (C := RX4) (T := TX4) (N := 18) hx hb hts in_X4 hown hK hP 0 rfl rfl 2 (by decide) lk_3 (fun _ h9 => h9) rfl dX4_make_34 ?_
        refine lv_istore_n (lv' := [(2, .int (nI st)), (0, .ref (a 0)), (1, .int (nI n))]) hx hb dX4_make_37 rfl hl (by decide) rfl (fun ls hl => ?_)
        refine lv_iconst (v := (nI 0)) hx hb dX4_make_38 (by decide) ?_
        refine lv_istore_n (lv' := [(3, .int (nI 0)), (2, .int (nI st)), (0, .ref (a 0)), (1, .int (nI n))]) hx hb dX4_make_39 rfl hl (by decide) rfl (fun ls hl => ?_)
        refine lv_aload_n hx hb dX4_make_40 rfl (lv_at hl 2 rfl) ?_
        refine va_get (D := (dC, dI)) (ci := 4) (v := .int (nI us)) (C := RX4) (T := TX4) (N := 18) hx hb hts in_X4 hown hK hP 0 rfl rfl 3 (by decide) lk_1 (fun _ h9 => h9) rfl dX4_make_41 ?_
        refine lv_if_le (tgt := 99) hx hb dX4_make_44 (by decide) (fun c_44 => ?_) (fun c_44 => ?_)
        · have c_44 : us ≤ 0 := (nZ_le (by omega)).mp c_44
          omega
        · have c_44 : ¬ us ≤ 0 := fun q => c_44 ((nZ_le (by omega)).mpr q)
          refine lp_still (σ := Nat) (fun i => i ≤ us + 1 ∧ fit sz st us pl ln n = fitF sz st us pl ln n (us - i) i) (fun i => us + 2 - i) (fun i => [(3, .int (nI i)), (2, .int (nI st)), (0, .ref (a 0)), (1, .int (nI n))]) ?_ 0 (⟨by omega, rfl⟩) (lv_sub hl [0, 1, 2, 3] rfl)
          intro i hI ih ls hl
          have hl : lv_has ls 7 [(3, .int (nI i)), (2, .int (nI st)), (0, .ref (a 0)), (1, .int (nI n))] := hl
          have hI : i ≤ us + 1 ∧ fit sz st us pl ln n = fitF sz st us pl ln n (us - i) i := hI
          obtain ⟨hi, hv⟩ := hI
          have ih_47 := ih
          refine lv_iload_n hx hb dX4_make_47 rfl (lv_at hl 0 rfl) ?_
          refine lv_aload_n hx hb dX4_make_48 rfl (lv_at hl 2 rfl) ?_
          refine va_get (D := (dC, dI)) (ci := 4) (v := .int (nI us)) (C := RX4) (T := TX4) (N := 18) hx hb hts in_X4 hown hK hP 0 rfl rfl 3 (by decide) lk_1 (fun _ h9 => h9) rfl dX4_make_49 ?_
          refine lv_icmp_gt (tgt := 76) hx hb dX4_make_52 (by decide) (fun c_52 => ?_) (fun c_52 => ?_)
          · have c_52 : us < i := (nI_ltI (a := us) (b := i) (by omega) (by omega)).mp c_52
            refine lv_iload_n hx hb dX4_make_76 rfl (lv_at hl 0 rfl) ?_
            refine lv_aload_n hx hb dX4_make_77 rfl (lv_at hl 2 rfl) ?_
            refine va_get (D := (dC, dI)) (ci := 4) (v := .int (nI us)) (C := RX4) (T := TX4) (N := 18) hx hb hts in_X4 hown hK hP 0 rfl rfl 3 (by decide) lk_1 (fun _ h9 => h9) rfl dX4_make_78 ?_
            refine lv_icmp_le (tgt := 91) hx hb dX4_make_81 (by decide) (fun c_81 => ?_) (fun c_81 => ?_)
            · have c_81 : i ≤ us := (nI_leI (a := i) (b := us) (by omega) (by omega)).mp c_81
              omega
            · have c_81 : ¬ i ≤ us := fun q => c_81 ((nI_leI (a := i) (b := us) (by omega) (by omega)).mpr q)
              refine lv_aload_n hx hb dX4_make_84 rfl (lv_at hl 2 rfl) ?_
              refine va_get (D := (dC, dI)) (ci := 4) (v := .int (nI us)) (C := RX4) (T := TX4) (N := 18) hx hb hts in_X4 hown hK hP 0 rfl rfl 3 (by decide) lk_1 (fun _ h9 => h9) rfl dX4_make_85 ?_
              refine lv_goto (tgt := 92) hx hb dX4_make_88 (by decide) ?_
              refine lv_istore_n (lv' := [(3, .int (nI us)), (2, .int (nI st)), (0, .ref (a 0)), (1, .int (nI n))]) hx hb dX4_make_92 rfl hl (by decide) rfl (fun ls hl => ?_)
              refine lv_aload_n hx hb dX4_make_93 rfl (lv_at hl 2 rfl) ?_
              refine lv_iload_n hx hb dX4_make_94 rfl (lv_at hl 0 rfl) ?_
              refine vp_callSi (W.runV (As := [.int (nI us)]) (rest := []) ⟨hx, hb, hml, hown, hts⟩ (c_X4_gapAt l dC dI cI a sz st us kp ga gl cs mem pl ln km ks kt ku kl kn cd wt us (by omega)) (cwV 1 hts gX4_make_X4_gapAt rfl rfl rfl (by decide +kernel) ⟨Nat.le_of_ble_eq_true rfl, Nat.le_of_ble_eq_true rfl⟩) ⟨fun a9 U g9 mk9 q9 => by obtain ⟨q0, qP, qK⟩ := q9; exact ⟨q0, qP, va_K.moved (u := U) (U := U.calling g9 mk9 a9) (Vm.Alike.refl U.vm) qK⟩, va_recv hK hP (ci := 4) (q0 := 0) rfl rfl, fun U hU hW => ⟨rfl, by rw [hU]; exact hP, va_K.moved hW.alike hK⟩⟩ rfl rfl hl.1 rfl (lv_room (Nat.le_of_ble_eq_true rfl)) dX4_make_95 ⟨Nat.zero_le _, Nat.zero_le _⟩) (fun r_95 hw => ?_)
              try dsimp only at hw
              subst hw
              have wg_95 := gAt_le gw (i := us) (by omega)
              have wo_95 := gap_le gw (i := us) (by omega) (by omega)
              refine lv_istore_n (lv' := [(2, .int (nI (gAt st pl ln us))), (3, .int (nI us)), (0, .ref (a 0)), (1, .int (nI n))]) hx hb dX4_make_98 rfl hl (by decide) rfl (fun ls hl => ?_)
              have hfit : fit sz st us pl ln n = us := by rw [hv, fitF_end (by omega)]
              have hmk : mkP sz st us pl ln n = gAt st pl ln us := by unfold mkP; rw [if_neg (by omega), hfit]
              have wg := gAt_le gw (i := us) (by omega)
              have hi3 : us ≤ us := by omega
              have hb2 : gAt st pl ln us ≤ sz := by omega
              refine lv_iload_n hx hb dX4_make_99 rfl (lv_at hl 0 rfl) ?_
              refine lv_i2l (v := lN (gAt st pl ln us)) hx hb dX4_make_100 (nI_l (by omega)) ?_
              refine lv_iload_n hx hb dX4_make_101 rfl (lv_at hl 3 rfl) ?_
              refine lv_i2l (v := lN n) hx hb dX4_make_102 (nI_l (by omega)) ?_
              refine lv_ladd hx hb dX4_make_103 ?_
              refine tpl (lN_add _ _) ?_
              refine lv_lstore (lv' := [(4, .long (lN (gAt st pl ln us + n))), (2, .int (nI (gAt st pl ln us))), (3, .int (nI us)), (0, .ref (a 0)), (1, .int (nI n))]) hx hb dX4_make_104 hl (by decide) rfl (fun ls hl => ?_)
              refine lv_lload hx hb dX4_make_106 (lv_at hl 0 rfl) ?_
              refine lv_ldc2 (own := RX4) (v := (8192)) hx hb hown lk_4 dX4_make_108 ?_
              refine tpl (show (8192 : Int64) = lN 8192 from rfl) ?_
              refine W.lcmp hx hb dX4_make_111 ?_
              refine lv_if_le (tgt := 117) hx hb dX4_make_112 (by decide) (fun c_112 => ?_) (fun c_112 => ?_)
              · have c_112 : gAt st pl ln us + n ≤ 8192 := (pk_lLE (a := gAt st pl ln us + n) (b := 8192) (by omega) (by omega)).mp ((lg_cmp_le _ _).mp c_112)
                have hO : mkO sz st us pl ln (nI n) := ⟨fun q => absurd ((nI_ltI n_n (by omega)).mp q) (by omega), by omega, by rw [hcl, hmk]; omega⟩
                refine lv_aload_n hx hb dX4_make_117 rfl (lv_at hl 3 rfl) ?_
                refine va_get (D := (dC, dI)) (ci := 4) (v := .int (nI us)) (C := RX4) (T := TX4) (N := 18) hx hb hts in_X4 hown hK hP 0 rfl rfl 3 (by decide) lk_1 (fun _ h9 => h9) rfl dX4_make_118 ?_
                refine lv_if_ne (tgt := 132) hx hb dX4_make_121 (by decide) (fun c_121 => ?_) (fun c_121 => ?_)
                · have c_121 : ¬ us = 0 := fun q => c_121 ((nZ_eq (by omega)).mpr q)
                  refine lv_iload_n hx hb dX4_make_132 rfl (lv_at hl 2 rfl) ?_
                  refine lv_aload_n hx hb dX4_make_133 rfl (lv_at hl 3 rfl) ?_
                  refine va_get (D := (dC, dI)) (ci := 4) (v := .int (nI us)) (C := RX4) (T := TX4) (N := 18) hx hb hts in_X4 hown hK hP 0 rfl rfl 3 (by decide) lk_1 (fun _ h9 => h9) rfl dX4_make_134 ?_
                  refine lv_icmp_ne (tgt := 170) hx hb dX4_make_137 (by decide) (fun c_137 => ?_) (fun c_137 => ?_)
                  · have c_137 : ¬ us = us := fun q => c_137 ((nI_eq (a := us) (b := us) (by omega) (by omega)).mpr q)
                    have hgp := fit_gap (sz := sz) (st := st) (us := us) (pl := pl) (ln := ln) (n := n) (by rw [hfit]; omega)
                    rw [hfit] at hgp
                    have wen := gEn_le gw (i := us) (by omega)
                    have hG : sz = mkG sz (gAt st pl ln us + n) := by unfold mkG; rw [if_neg (by omega)]
                    refine lv_aload_n hx hb dX4_make_170 rfl (lv_at hl 3 rfl) ?_
                    refine va_get (D := (dC, dI)) (ci := 4) (v := .int (nI us)) (C := RX4) (T := TX4) (N := 18) hx hb hts in_X4 hown hK hP 0 rfl rfl 3 (by decide) lk_1 (fun _ h9 => h9) rfl dX4_make_171 ?_
                    refine lv_istore (lv' := [(6, .int (nI us)), (4, .long (lN (gAt st pl ln us + n))), (2, .int (nI (gAt st pl ln us))), (3, .int (nI us)), (0, .ref (a 0)), (1, .int (nI n))]) hx hb dX4_make_174 hl (by decide) rfl (fun ls hl => ?_)
                    refine lp_world (σ := Nat × (Nat → Nat) × (Nat → Nat)) (fun ⟨k, f, g⟩ => us ≤ k ∧ k ≤ us ∧ f = shf pl k us ∧ g = shf ln k us) (fun ⟨k, f, g⟩ => k) (fun ⟨k, f, g⟩ => [(6, .int (nI k)), (4, .long (lN (gAt st pl ln us + n))), (2, .int (nI (gAt st pl ln us))), (3, .int (nI us)), (0, .ref (a 0)), (1, .int (nI n))]) (fun ⟨k, f, g⟩ => mw cI a sz st us kp ga gl cs mem f g km ks kt ku kl kn cd wt) ?_ ((us, pl, ln)) (⟨by omega, Nat.le_refl _, by rw [shf_0], by rw [shf_0]⟩) (hP) (hD) hS (lv_sub hl [0, 1, 2, 3, 4, 5] rfl)
                    intro ⟨k, f, g⟩ hI ih H locs ls hP hD hS hl
                    have hl : lv_has ls 7 [(6, .int (nI k)), (4, .long (lN (gAt st pl ln us + n))), (2, .int (nI (gAt st pl ln us))), (3, .int (nI us)), (0, .ref (a 0)), (1, .int (nI n))] := hl
                    have hP : va_P (dC, dI) vwCl (mw cI a sz st us kp ga gl cs mem f g km ks kt ku kl kn cd wt) H := hP
                    have hD : va_D A (mw cI a sz st us kp ga gl cs mem f g km ks kt ku kl kn cd wt) := hD
                    have hI : us ≤ k ∧ k ≤ us ∧ f = shf pl k us ∧ g = shf ln k us := hI
                    obtain ⟨hk1, hk2, hf, hg⟩ := hI
                    have ih_176 := ih
                    refine lv_iload hx hb dX4_make_176 (lv_at hl 0 rfl) ?_
                    refine lv_iload_n hx hb dX4_make_178 rfl (lv_at hl 3 rfl) ?_
                    refine lv_icmp_le (tgt := 220) hx hb dX4_make_179 (by decide) (fun c_179 => ?_) (fun c_179 => ?_)
                    · have c_179 : k ≤ us := (nI_leI (a := k) (b := us) (by omega) (by omega)).mp c_179
                      refine lv_aload_n hx hb dX4_make_220 rfl (lv_at hl 4 rfl) ?_
                      refine va_get (D := (dC, dI)) (ci := 4) (v := .ref (a 2)) (C := RX4) (T := TX4) (N := 18) hx hb hts in_X4 hown hK hP 0 rfl rfl 4 (by decide) lk_7 (fun _ h9 => h9) rfl dX4_make_221 ?_
                      refine lv_iload_n hx hb dX4_make_224 rfl (lv_at hl 3 rfl) ?_
                      refine lv_iload_n hx hb dX4_make_225 rfl (lv_at hl 2 rfl) ?_
                      refine va_iast hx hb hK hP hD hS 2 0 rfl rfl (vp_in_nI (by omega) (by omega)) dX4_make_226 (fun H locs hP hD hS => ?_)
                      rw [nf_up (by omega)] at hP hD
                      have hP : va_P (dC, dI) vwCl (mw cI a sz st us kp ga gl cs mem (va_up f us (gAt st pl ln us)) g km ks kt ku kl kn cd wt) H := hP
                      have hD : va_D A (mw cI a sz st us kp ga gl cs mem (va_up f us (gAt st pl ln us)) g km ks kt ku kl kn cd wt) := hD
                      refine lv_aload_n hx hb dX4_make_227 rfl (lv_at hl 4 rfl) ?_
                      refine va_get (D := (dC, dI)) (ci := 4) (v := .ref (a 3)) (C := RX4) (T := TX4) (N := 18) hx hb hts in_X4 hown hK hP 0 rfl rfl 5 (by decide) lk_8 (fun _ h9 => h9) rfl dX4_make_228 ?_
                      refine lv_iload_n hx hb dX4_make_231 rfl (lv_at hl 3 rfl) ?_
                      refine lv_iload_n hx hb dX4_make_232 rfl (lv_at hl 5 rfl) ?_
                      refine va_iast hx hb hK hP hD hS 3 0 rfl rfl (vp_in_nI (by omega) (by omega)) dX4_make_233 (fun H locs hP hD hS => ?_)
                      rw [nf_up (by omega)] at hP hD
                      have hP : va_P (dC, dI) vwCl (mw cI a sz st us kp ga gl cs mem (va_up f us (gAt st pl ln us)) (va_up g us n) km ks kt ku kl kn cd wt) H := hP
                      have hD : va_D A (mw cI a sz st us kp ga gl cs mem (va_up f us (gAt st pl ln us)) (va_up g us n) km ks kt ku kl kn cd wt) := hD
                      refine lv_aload_n hx hb dX4_make_234 rfl (lv_at hl 4 rfl) ?_
                      refine lv_dup hx hb dX4_make_235 rfl ?_
                      refine va_get (D := (dC, dI)) (ci := 4) (v := .int (nI us)) (C := RX4) (T := TX4) (N := 18) hx hb hts in_X4 hown hK hP 0 rfl rfl 3 (by decide) lk_1 (fun _ h9 => h9) rfl dX4_make_236 ?_
                      refine lv_iconst (v := (nI 1)) hx hb dX4_make_239 (by decide) ?_
                      refine lv_iadd hx hb dX4_make_240 ?_
                      refine tpi (nI_add _ _) ?_
                      refine va_put (D := (dC, dI)) (ci := 4) (v := .int (nI (us + 1))) (ty := .int) (C := RX4) (T := TX4) (N := 18) hx hb hts in_X4 tyX4 tyX4_ok nmX4 hown hK hP hD hS 0 rfl rfl 3 (by decide) lk_1 (fun _ h9 => h9) rfl (by decide +kernel) rfl rfl (Nat.le_of_ble_eq_true rfl) dX4_make_241 (fun H locs hP hD hS => ?_)
                      have hP : va_P (dC, dI) vwCl (mw cI a sz st (us + 1) kp ga gl cs mem (va_up f us (gAt st pl ln us)) (va_up g us n) km ks kt ku kl kn cd wt) H := hP
                      have hD : va_D A (mw cI a sz st (us + 1) kp ga gl cs mem (va_up f us (gAt st pl ln us)) (va_up g us n) km ks kt ku kl kn cd wt) := hD
                      refine lv_iload_n hx hb dX4_make_244 rfl (lv_at hl 2 rfl) ?_
                      have e_sz : sz = mkZ sz st us pl ln (nI n) := by unfold mkZ; rw [if_pos hO, hcl, hmk, ← hG]
                      have e_st : st = mkS sz st us pl ln (nI n) := by unfold mkS; rw [if_neg (fun q => absurd q.2 (by omega))]
                      have e_us : us + 1 = mkU sz st us pl ln (nI n) := by unfold mkU; rw [if_pos hO]
                      have e_mem : mem = mkM sz st us pl ln mem (nI n) := by unfold mkM; rw [if_pos hO, hcl, hmk, ← hG, Nat.sub_self, zr_0]
                      have e_pl : va_up f us (gAt st pl ln us) = mkQ sz st us pl ln (nI n) := by unfold mkQ ins; rw [if_pos hO, hcl, hmk, hfit, hf, show k = us by omega]
                      have e_ln : va_up g us n = mkL sz st us pl ln (nI n) := by unfold mkL ins; rw [if_pos hO, hcl, hfit, hg, show k = us by omega]
                      have hP : va_P (dC, dI) vwCl (mw cI a (mkZ sz st us pl ln (nI n)) (mkS sz st us pl ln (nI n)) (mkU sz st us pl ln (nI n)) kp ga gl cs (mkM sz st us pl ln mem (nI n)) (mkQ sz st us pl ln (nI n)) (mkL sz st us pl ln (nI n)) km ks kt ku kl kn cd wt) H := by rw [← e_sz, ← e_st, ← e_us, ← e_mem, ← e_pl, ← e_ln]; exact hP
                      have hD : va_D A (mw cI a (mkZ sz st us pl ln (nI n)) (mkS sz st us pl ln (nI n)) (mkU sz st us pl ln (nI n)) kp ga gl cs (mkM sz st us pl ln mem (nI n)) (mkQ sz st us pl ln (nI n)) (mkL sz st us pl ln (nI n)) km ks kt ku kl kn cd wt) := by rw [← e_sz, ← e_st, ← e_us, ← e_mem, ← e_pl, ← e_ln]; exact hD
                      exact W.iret (v := (nI (gAt st pl ln us))) hx hb hr (fun t ht hW => ⟨⟨(nI (gAt st pl ln us)), (), rfl, (show (nI (gAt st pl ln us)) = mkR sz st us pl ln (nI n) from by unfold mkR; rw [if_neg (fun q => absurd ((nI_ltI n_n (by omega)).mp q) (by omega)), if_neg (by omega), hcl, if_neg (by rw [hmk]; omega), hmk]), by rw [ht]; exact hP, va_K.moved hW.alike hK, hD⟩, hS.F ht⟩) hS.2.2 dX4_make_245
                    · have c_179 : ¬ k ≤ us := fun q => c_179 ((nI_leI (a := k) (b := us) (by omega) (by omega)).mpr q)
                      refine lv_aload_n hx hb dX4_make_182 rfl (lv_at hl 4 rfl) ?_
                      refine va_get (D := (dC, dI)) (ci := 4) (v := .ref (a 2)) (C := RX4) (T := TX4) (N := 18) hx hb hts in_X4 hown hK hP 0 rfl rfl 4 (by decide) lk_7 (fun _ h9 => h9) rfl dX4_make_183 ?_
                      refine lv_iload hx hb dX4_make_186 (lv_at hl 0 rfl) ?_
                      refine lv_aload_n hx hb dX4_make_188 rfl (lv_at hl 4 rfl) ?_
                      refine va_get (D := (dC, dI)) (ci := 4) (v := .ref (a 2)) (C := RX4) (T := TX4) (N := 18) hx hb hts in_X4 hown hK hP 0 rfl rfl 4 (by decide) lk_7 (fun _ h9 => h9) rfl dX4_make_189 ?_
                      refine lv_iload hx hb dX4_make_192 (lv_at hl 0 rfl) ?_
                      refine lv_iconst (v := (nI 1)) hx hb dX4_make_194 (by decide) ?_
                      refine lv_isub hx hb dX4_make_195 ?_
                      refine tpi (pk_sub (by omega)) ?_
                      refine va_iald hx hb hK hP 2 0 rfl rfl (vp_in_nI (by omega) (by omega)) dX4_make_196 ?_
                      refine tpi (nf_at (by omega)) ?_
                      refine va_iast hx hb hK hP hD hS 2 0 rfl rfl (vp_in_nI (by omega) (by omega)) dX4_make_197 (fun H locs hP hD hS => ?_)
                      rw [nf_up (by omega)] at hP hD
                      have hP : va_P (dC, dI) vwCl (mw cI a sz st us kp ga gl cs mem (va_up f k (f (k - 1))) g km ks kt ku kl kn cd wt) H := hP
                      have hD : va_D A (mw cI a sz st us kp ga gl cs mem (va_up f k (f (k - 1))) g km ks kt ku kl kn cd wt) := hD
                      refine lv_aload_n hx hb dX4_make_198 rfl (lv_at hl 4 rfl) ?_
                      refine va_get (D := (dC, dI)) (ci := 4) (v := .ref (a 3)) (C := RX4) (T := TX4) (N := 18) hx hb hts in_X4 hown hK hP 0 rfl rfl 5 (by decide) lk_8 (fun _ h9 => h9) rfl dX4_make_199 ?_
                      refine lv_iload hx hb dX4_make_202 (lv_at hl 0 rfl) ?_
                      refine lv_aload_n hx hb dX4_make_204 rfl (lv_at hl 4 rfl) ?_
                      refine va_get (D := (dC, dI)) (ci := 4) (v := .ref (a 3)) (C := RX4) (T := TX4) (N := 18) hx hb hts in_X4 hown hK hP 0 rfl rfl 5 (by decide) lk_8 (fun _ h9 => h9) rfl dX4_make_205 ?_
                      refine lv_iload hx hb dX4_make_208 (lv_at hl 0 rfl) ?_
                      refine lv_iconst (v := (nI 1)) hx hb dX4_make_210 (by decide) ?_
                      refine lv_isub hx hb dX4_make_211 ?_
                      refine tpi (pk_sub (by omega)) ?_
                      refine va_iald hx hb hK hP 3 0 rfl rfl (vp_in_nI (by omega) (by omega)) dX4_make_212 ?_
                      refine tpi (nf_at (by omega)) ?_
                      refine va_iast hx hb hK hP hD hS 3 0 rfl rfl (vp_in_nI (by omega) (by omega)) dX4_make_213 (fun H locs hP hD hS => ?_)
                      rw [nf_up (by omega)] at hP hD
                      have hP : va_P (dC, dI) vwCl (mw cI a sz st us kp ga gl cs mem (va_up f k (f (k - 1))) (va_up g k (g (k - 1))) km ks kt ku kl kn cd wt) H := hP
                      have hD : va_D A (mw cI a sz st us kp ga gl cs mem (va_up f k (f (k - 1))) (va_up g k (g (k - 1))) km ks kt ku kl kn cd wt) := hD
                      refine lv_iinc (v := (nI (k - 1))) (lv' := [(6, .int (nI (k - 1))), (4, .long (lN (gAt st pl ln us + n))), (2, .int (nI (gAt st pl ln us))), (3, .int (nI us)), (0, .ref (a 0)), (1, .int (nI n))]) hx hb dX4_make_214 hl (k := 0) rfl (nI_dec (by omega)) (by decide) rfl (fun ls hl => ?_)
                      refine lv_goto (tgt := 176) hx hb dX4_make_217 (by decide) ?_
                      exact ih_176 (k - 1, va_up f k (f (k - 1)), va_up g k (g (k - 1))) (⟨by omega, by omega, by rw [hf, shf_s (by omega) hk2], by rw [hg, shf_s (by omega) hk2]⟩) (show (k - 1) < k by omega) H locs ls (hP) (hD) hS (lv_sub hl [0, 1, 2, 3, 4, 5] rfl)
                  · have c_137 : us = us := (nI_eq (a := us) (b := us) (by omega) (by omega)).mp c_137
                    refine lv_lload hx hb dX4_make_140 (lv_at hl 0 rfl) ?_
                    refine lv_aload_n hx hb dX4_make_142 rfl (lv_at hl 3 rfl) ?_
                    refine va_get (D := (dC, dI)) (ci := 4) (v := .int (nI sz)) (C := RX4) (T := TX4) (N := 18) hx hb hts in_X4 hown hK hP 0 rfl rfl 1 (by decide) lk_2 (fun _ h9 => h9) rfl dX4_make_143 ?_
                    refine lv_i2l (v := lN sz) hx hb dX4_make_146 (nI_l (by omega)) ?_
                    refine W.lcmp hx hb dX4_make_147 ?_
                    refine lv_if_le (tgt := 170) hx hb dX4_make_148 (by decide) (fun c_148 => ?_) (fun c_148 => ?_)
                    · have c_148 : gAt st pl ln us + n ≤ sz := (pk_lLE (a := gAt st pl ln us + n) (b := sz) (by omega) (by omega)).mp ((lg_cmp_le _ _).mp c_148)
                      have hG : sz = mkG sz (gAt st pl ln us + n) := by unfold mkG; rw [if_neg (by omega)]
                      refine lv_aload_n hx hb dX4_make_170 rfl (lv_at hl 3 rfl) ?_
                      refine va_get (D := (dC, dI)) (ci := 4) (v := .int (nI us)) (C := RX4) (T := TX4) (N := 18) hx hb hts in_X4 hown hK hP 0 rfl rfl 3 (by decide) lk_1 (fun _ h9 => h9) rfl dX4_make_171 ?_
                      refine lv_istore (lv' := [(6, .int (nI us)), (4, .long (lN (gAt st pl ln us + n))), (2, .int (nI (gAt st pl ln us))), (3, .int (nI us)), (0, .ref (a 0)), (1, .int (nI n))]) hx hb dX4_make_174 hl (by decide) rfl (fun ls hl => ?_)
                      refine lp_world (σ := Nat × (Nat → Nat) × (Nat → Nat)) (fun ⟨k, f, g⟩ => us ≤ k ∧ k ≤ us ∧ f = shf pl k us ∧ g = shf ln k us) (fun ⟨k, f, g⟩ => k) (fun ⟨k, f, g⟩ => [(6, .int (nI k)), (4, .long (lN (gAt st pl ln us + n))), (2, .int (nI (gAt st pl ln us))), (3, .int (nI us)), (0, .ref (a 0)), (1, .int (nI n))]) (fun ⟨k, f, g⟩ => mw cI a sz st us kp ga gl cs mem f g km ks kt ku kl kn cd wt) ?_ ((us, pl, ln)) (⟨by omega, Nat.le_refl _, by rw [shf_0], by rw [shf_0]⟩) (hP) (hD) hS (lv_sub hl [0, 1, 2, 3, 4, 5] rfl)
                      intro ⟨k, f, g⟩ hI ih H locs ls hP hD hS hl
                      have hl : lv_has ls 7 [(6, .int (nI k)), (4, .long (lN (gAt st pl ln us + n))), (2, .int (nI (gAt st pl ln us))), (3, .int (nI us)), (0, .ref (a 0)), (1, .int (nI n))] := hl
                      have hP : va_P (dC, dI) vwCl (mw cI a sz st us kp ga gl cs mem f g km ks kt ku kl kn cd wt) H := hP
                      have hD : va_D A (mw cI a sz st us kp ga gl cs mem f g km ks kt ku kl kn cd wt) := hD
                      have hI : us ≤ k ∧ k ≤ us ∧ f = shf pl k us ∧ g = shf ln k us := hI
                      obtain ⟨hk1, hk2, hf, hg⟩ := hI
                      have ih_176 := ih
                      refine lv_iload hx hb dX4_make_176 (lv_at hl 0 rfl) ?_
                      refine lv_iload_n hx hb dX4_make_178 rfl (lv_at hl 3 rfl) ?_
                      refine lv_icmp_le (tgt := 220) hx hb dX4_make_179 (by decide) (fun c_179 => ?_) (fun c_179 => ?_)
                      · have c_179 : k ≤ us := (nI_leI (a := k) (b := us) (by omega) (by omega)).mp c_179
                        refine lv_aload_n hx hb dX4_make_220 rfl (lv_at hl 4 rfl) ?_
                        refine va_get (D := (dC, dI)) (ci := 4) (v := .ref (a 2)) (C := RX4) (T := TX4) (N := 18) hx hb hts in_X4 hown hK hP 0 rfl rfl 4 (by decide) lk_7 (fun _ h9 => h9) rfl dX4_make_221 ?_
                        refine lv_iload_n hx hb dX4_make_224 rfl (lv_at hl 3 rfl) ?_
                        refine lv_iload_n hx hb dX4_make_225 rfl (lv_at hl 2 rfl) ?_
                        refine va_iast hx hb hK hP hD hS 2 0 rfl rfl (vp_in_nI (by omega) (by omega)) dX4_make_226 (fun H locs hP hD hS => ?_)
                        rw [nf_up (by omega)] at hP hD
                        have hP : va_P (dC, dI) vwCl (mw cI a sz st us kp ga gl cs mem (va_up f us (gAt st pl ln us)) g km ks kt ku kl kn cd wt) H := hP
                        have hD : va_D A (mw cI a sz st us kp ga gl cs mem (va_up f us (gAt st pl ln us)) g km ks kt ku kl kn cd wt) := hD
                        refine lv_aload_n hx hb dX4_make_227 rfl (lv_at hl 4 rfl) ?_
                        refine va_get (D := (dC, dI)) (ci := 4) (v := .ref (a 3)) (C := RX4) (T := TX4) (N := 18) hx hb hts in_X4 hown hK hP 0 rfl rfl 5 (by decide) lk_8 (fun _ h9 => h9) rfl dX4_make_228 ?_
                        refine lv_iload_n hx hb dX4_make_231 rfl (lv_at hl 3 rfl) ?_
                        refine lv_iload_n hx hb dX4_make_232 rfl (lv_at hl 5 rfl) ?_
                        refine va_iast hx hb hK hP hD hS 3 0 rfl rfl (vp_in_nI (by omega) (by omega)) dX4_make_233 (fun H locs hP hD hS => ?_)
                        rw [nf_up (by omega)] at hP hD
                        have hP : va_P (dC, dI) vwCl (mw cI a sz st us kp ga gl cs mem (va_up f us (gAt st pl ln us)) (va_up g us n) km ks kt ku kl kn cd wt) H := hP
                        have hD : va_D A (mw cI a sz st us kp ga gl cs mem (va_up f us (gAt st pl ln us)) (va_up g us n) km ks kt ku kl kn cd wt) := hD
                        refine lv_aload_n hx hb dX4_make_234 rfl (lv_at hl 4 rfl) ?_
                        refine lv_dup hx hb dX4_make_235 rfl ?_
                        refine va_get (D := (dC, dI)) (ci := 4) (v := .int (nI us)) (C := RX4) (T := TX4) (N := 18) hx hb hts in_X4 hown hK hP 0 rfl rfl 3 (by decide) lk_1 (fun _ h9 => h9) rfl dX4_make_236 ?_
                        refine lv_iconst (v := (nI 1)) hx hb dX4_make_239 (by decide) ?_
                        refine lv_iadd hx hb dX4_make_240 ?_
                        refine tpi (nI_add _ _) ?_
                        refine va_put (D := (dC, dI)) (ci := 4) (v := .int (nI (us + 1))) (ty := .int) (C := RX4) (T := TX4) (N := 18) hx hb hts in_X4 tyX4 tyX4_ok nmX4 hown hK hP hD hS 0 rfl rfl 3 (by decide) lk_1 (fun _ h9 => h9) rfl (by decide +kernel) rfl rfl (Nat.le_of_ble_eq_true rfl) dX4_make_241 (fun H locs hP hD hS => ?_)
                        have hP : va_P (dC, dI) vwCl (mw cI a sz st (us + 1) kp ga gl cs mem (va_up f us (gAt st pl ln us)) (va_up g us n) km ks kt ku kl kn cd wt) H := hP
                        have hD : va_D A (mw cI a sz st (us + 1) kp ga gl cs mem (va_up f us (gAt st pl ln us)) (va_up g us n) km ks kt ku kl kn cd wt) := hD
                        refine lv_iload_n hx hb dX4_make_244 rfl (lv_at hl 2 rfl) ?_
                        have e_sz : sz = mkZ sz st us pl ln (nI n) := by unfold mkZ; rw [if_pos hO, hcl, hmk, ← hG]
                        have e_st : st = mkS sz st us pl ln (nI n) := by unfold mkS; rw [if_neg (fun q => absurd q.2 (by omega))]
                        have e_us : us + 1 = mkU sz st us pl ln (nI n) := by unfold mkU; rw [if_pos hO]
                        have e_mem : mem = mkM sz st us pl ln mem (nI n) := by unfold mkM; rw [if_pos hO, hcl, hmk, ← hG, Nat.sub_self, zr_0]
                        have e_pl : va_up f us (gAt st pl ln us) = mkQ sz st us pl ln (nI n) := by unfold mkQ ins; rw [if_pos hO, hcl, hmk, hfit, hf, show k = us by omega]
                        have e_ln : va_up g us n = mkL sz st us pl ln (nI n) := by unfold mkL ins; rw [if_pos hO, hcl, hfit, hg, show k = us by omega]
                        have hP : va_P (dC, dI) vwCl (mw cI a (mkZ sz st us pl ln (nI n)) (mkS sz st us pl ln (nI n)) (mkU sz st us pl ln (nI n)) kp ga gl cs (mkM sz st us pl ln mem (nI n)) (mkQ sz st us pl ln (nI n)) (mkL sz st us pl ln (nI n)) km ks kt ku kl kn cd wt) H := by rw [← e_sz, ← e_st, ← e_us, ← e_mem, ← e_pl, ← e_ln]; exact hP
                        have hD : va_D A (mw cI a (mkZ sz st us pl ln (nI n)) (mkS sz st us pl ln (nI n)) (mkU sz st us pl ln (nI n)) kp ga gl cs (mkM sz st us pl ln mem (nI n)) (mkQ sz st us pl ln (nI n)) (mkL sz st us pl ln (nI n)) km ks kt ku kl kn cd wt) := by rw [← e_sz, ← e_st, ← e_us, ← e_mem, ← e_pl, ← e_ln]; exact hD
                        exact W.iret (v := (nI (gAt st pl ln us))) hx hb hr (fun t ht hW => ⟨⟨(nI (gAt st pl ln us)), (), rfl, (show (nI (gAt st pl ln us)) = mkR sz st us pl ln (nI n) from by unfold mkR; rw [if_neg (fun q => absurd ((nI_ltI n_n (by omega)).mp q) (by omega)), if_neg (by omega), hcl, if_neg (by rw [hmk]; omega), hmk]), by rw [ht]; exact hP, va_K.moved hW.alike hK, hD⟩, hS.F ht⟩) hS.2.2 dX4_make_245
                      · have c_179 : ¬ k ≤ us := fun q => c_179 ((nI_leI (a := k) (b := us) (by omega) (by omega)).mpr q)
                        refine lv_aload_n hx hb dX4_make_182 rfl (lv_at hl 4 rfl) ?_
                        refine va_get (D := (dC, dI)) (ci := 4) (v := .ref (a 2)) (C := RX4) (T := TX4) (N := 18) hx hb hts in_X4 hown hK hP 0 rfl rfl 4 (by decide) lk_7 (fun _ h9 => h9) rfl dX4_make_183 ?_
                        refine lv_iload hx hb dX4_make_186 (lv_at hl 0 rfl) ?_
                        refine lv_aload_n hx hb dX4_make_188 rfl (lv_at hl 4 rfl) ?_
                        refine va_get (D := (dC, dI)) (ci := 4) (v := .ref (a 2)) (C := RX4) (T := TX4) (N := 18) hx hb hts in_X4 hown hK hP 0 rfl rfl 4 (by decide) lk_7 (fun _ h9 => h9) rfl dX4_make_189 ?_
                        refine lv_iload hx hb dX4_make_192 (lv_at hl 0 rfl) ?_
                        refine lv_iconst (v := (nI 1)) hx hb dX4_make_194 (by decide) ?_
                        refine lv_isub hx hb dX4_make_195 ?_
                        refine tpi (pk_sub (by omega)) ?_
                        refine va_iald hx hb hK hP 2 0 rfl rfl (vp_in_nI (by omega) (by omega)) dX4_make_196 ?_
                        refine tpi (nf_at (by omega)) ?_
                        refine va_iast hx hb hK hP hD hS 2 0 rfl rfl (vp_in_nI (by omega) (by omega)) dX4_make_197 (fun H locs hP hD hS => ?_)
                        rw [nf_up (by omega)] at hP hD
                        have hP : va_P (dC, dI) vwCl (mw cI a sz st us kp ga gl cs mem (va_up f k (f (k - 1))) g km ks kt ku kl kn cd wt) H := hP
                        have hD : va_D A (mw cI a sz st us kp ga gl cs mem (va_up f k (f (k - 1))) g km ks kt ku kl kn cd wt) := hD
                        refine lv_aload_n hx hb dX4_make_198 rfl (lv_at hl 4 rfl) ?_
                        refine va_get (D := (dC, dI)) (ci := 4) (v := .ref (a 3)) (C := RX4) (T := TX4) (N := 18) hx hb hts in_X4 hown hK hP 0 rfl rfl 5 (by decide) lk_8 (fun _ h9 => h9) rfl dX4_make_199 ?_
                        refine lv_iload hx hb dX4_make_202 (lv_at hl 0 rfl) ?_
                        refine lv_aload_n hx hb dX4_make_204 rfl (lv_at hl 4 rfl) ?_
                        refine va_get (D := (dC, dI)) (ci := 4) (v := .ref (a 3)) (C := RX4) (T := TX4) (N := 18) hx hb hts in_X4 hown hK hP 0 rfl rfl 5 (by decide) lk_8 (fun _ h9 => h9) rfl dX4_make_205 ?_
                        refine lv_iload hx hb dX4_make_208 (lv_at hl 0 rfl) ?_
                        refine lv_iconst (v := (nI 1)) hx hb dX4_make_210 (by decide) ?_
                        refine lv_isub hx hb dX4_make_211 ?_
                        refine tpi (pk_sub (by omega)) ?_
                        refine va_iald hx hb hK hP 3 0 rfl rfl (vp_in_nI (by omega) (by omega)) dX4_make_212 ?_
                        refine tpi (nf_at (by omega)) ?_
                        refine va_iast hx hb hK hP hD hS 3 0 rfl rfl (vp_in_nI (by omega) (by omega)) dX4_make_213 (fun H locs hP hD hS => ?_)
                        rw [nf_up (by omega)] at hP hD
                        have hP : va_P (dC, dI) vwCl (mw cI a sz st us kp ga gl cs mem (va_up f k (f (k - 1))) (va_up g k (g (k - 1))) km ks kt ku kl kn cd wt) H := hP
                        have hD : va_D A (mw cI a sz st us kp ga gl cs mem (va_up f k (f (k - 1))) (va_up g k (g (k - 1))) km ks kt ku kl kn cd wt) := hD
                        refine lv_iinc (v := (nI (k - 1))) (lv' := [(6, .int (nI (k - 1))), (4, .long (lN (gAt st pl ln us + n))), (2, .int (nI (gAt st pl ln us))), (3, .int (nI us)), (0, .ref (a 0)), (1, .int (nI n))]) hx hb dX4_make_214 hl (k := 0) rfl (nI_dec (by omega)) (by decide) rfl (fun ls hl => ?_)
                        refine lv_goto (tgt := 176) hx hb dX4_make_217 (by decide) ?_
                        exact ih_176 (k - 1, va_up f k (f (k - 1)), va_up g k (g (k - 1))) (⟨by omega, by omega, by rw [hf, shf_s (by omega) hk2], by rw [hg, shf_s (by omega) hk2]⟩) (show (k - 1) < k by omega) H locs ls (hP) (hD) hS (lv_sub hl [0, 1, 2, 3, 4, 5] rfl)
                    · have c_148 : ¬ gAt st pl ln us + n ≤ sz := fun q => c_148 ((lg_cmp_le _ _).mpr ((pk_lLE (a := gAt st pl ln us + n) (b := sz) (by omega) (by omega)).mpr q))
                      refine lv_aload_n hx hb dX4_make_151 rfl (lv_at hl 3 rfl) ?_
                      refine lv_lload hx hb dX4_make_152 (lv_at hl 0 rfl) ?_
                      refine lv_ldc2 (own := RX4) (v := (255)) hx hb hown lk_5 dX4_make_154 ?_
                      refine tpl (show (255 : Int64) = lN 255 from rfl) ?_
                      refine lv_ladd hx hb dX4_make_157 ?_
                      refine tpl (lN_add _ _) ?_
                      refine lv_ldc2 (own := RX4) (v := (256)) hx hb hown lk_6 dX4_make_158 ?_
                      refine tpl (show (256 : Int64) = lN 256 from rfl) ?_
                      refine lv_ldiv hx hb dX4_make_161 (by decide) ?_
                      refine tpl (pk_lDiv (by omega) (by decide) (by decide)) ?_
                      refine lv_ldc2 (own := RX4) (v := (256)) hx hb hown lk_6 dX4_make_162 ?_
                      refine tpl (show (256 : Int64) = lN 256 from rfl) ?_
                      refine lv_lmul hx hb dX4_make_165 ?_
                      refine tpl (lN_mul _ _) ?_
                      refine lv_l2i (v := nI (((gAt st pl ln us + n + 255) / 256) * 256)) hx hb dX4_make_166 (lN_i _) ?_
                      have hFc := va_free (wc := mw cI a sz st us kp ga gl cs mem pl ln km ks kt ku kl kn cd wt) hD hS hA [0, 1, 2, 3, 4, 5, 6, 7, 8, 9, 10, 11] rfl
                      refine va_callv (va_runV (As := [.int (nI (((gAt st pl ln us + n + 255) / 256) * 256))]) (rest := []) ⟨hx, hb, hml, hown, hts⟩ (c_X4_grow l dC dI cI a sz st us kp ga gl cs mem pl ln km ks kt ku kl kn cd wt s.heap.size (((gAt st pl ln us + n + 255) / 256) * 256) (by omega) (by omega)) (cwV 1 hts gX4_make_X4_grow rfl rfl rfl (by decide +kernel) ⟨Nat.le_of_ble_eq_true rfl, Nat.le_of_ble_eq_true rfl⟩) ⟨fun a9 U g9 mk9 q9 => by obtain ⟨q0, q1, qP, qK, qD⟩ := q9; exact ⟨q0, q1, qP, va_K.moved (u := U) (U := U.calling g9 mk9 a9) (Vm.Alike.refl U.vm) qK, qD⟩, va_recv hK hP (ci := 4) (q0 := 0) rfl rfl, fun U hU hW => ⟨rfl, by rw [hU], by rw [hU]; exact hP, va_K.moved hW.alike hK, hD.weaken (fun _ _ _ _ => trivial)⟩⟩ rfl rfl hl.1 rfl (lv_room (Nat.le_of_ble_eq_true rfl)) dX4_make_167 ⟨Nat.zero_le _, Nat.zero_le _⟩) hS (fun q _ h => hFc q h) hFc (fun u t H1 locs ht hvm hw hB hz1 hk1 hS => ?_)
                      obtain ⟨hP1, hK1, hD1⟩ := hB
                      rw [ht] at hP1
                      obtain ⟨hP, hD⟩ := va_join (wr := []) (w1 := mw cI a (((gAt st pl ln us + n + 255) / 256) * 256) st us kp ga gl cs (zr mem sz (((gAt st pl ln us + n + 255) / 256) * 256 - sz)) pl ln km ks kt ku kl kn cd wt) hP hD [0, 1, 2, 3, 4, 5, 6, 7, 8, 9, 10, 11] [] rfl rfl (by decide) (by decide) hk1 hFc hP1 hD1
                      generalize H1 = H at hP hS ⊢
                      have hP : va_P (dC, dI) vwCl (mw cI a (((gAt st pl ln us + n + 255) / 256) * 256) st us kp ga gl cs (zr mem sz (((gAt st pl ln us + n + 255) / 256) * 256 - sz)) pl ln km ks kt ku kl kn cd wt) H := hP
                      have hD : va_D A (mw cI a (((gAt st pl ln us + n + 255) / 256) * 256) st us kp ga gl cs (zr mem sz (((gAt st pl ln us + n + 255) / 256) * 256 - sz)) pl ln km ks kt ku kl kn cd wt) := hD
                      have hG : (gAt st pl ln us + n + 255) / 256 * 256 = mkG sz (gAt st pl ln us + n) := by unfold mkG; rw [if_pos (by omega)]
                      refine lv_aload_n hx hb dX4_make_170 rfl (lv_at hl 3 rfl) ?_
                      refine va_get (D := (dC, dI)) (ci := 4) (v := .int (nI us)) (C := RX4) (T := TX4) (N := 18) hx hb hts in_X4 hown hK hP 0 rfl rfl 3 (by decide) lk_1 (fun _ h9 => h9) rfl dX4_make_171 ?_
                      refine lv_istore (lv' := [(6, .int (nI us)), (4, .long (lN (gAt st pl ln us + n))), (2, .int (nI (gAt st pl ln us))), (3, .int (nI us)), (0, .ref (a 0)), (1, .int (nI n))]) hx hb dX4_make_174 hl (by decide) rfl (fun ls hl => ?_)
                      refine lp_world (σ := Nat × (Nat → Nat) × (Nat → Nat)) (fun ⟨k, f, g⟩ => us ≤ k ∧ k ≤ us ∧ f = shf pl k us ∧ g = shf ln k us) (fun ⟨k, f, g⟩ => k) (fun ⟨k, f, g⟩ => [(6, .int (nI k)), (4, .long (lN (gAt st pl ln us + n))), (2, .int (nI (gAt st pl ln us))), (3, .int (nI us)), (0, .ref (a 0)), (1, .int (nI n))]) (fun ⟨k, f, g⟩ => mw cI a (((gAt st pl ln us + n + 255) / 256) * 256) st us kp ga gl cs (zr mem sz (((gAt st pl ln us + n + 255) / 256) * 256 - sz)) f g km ks kt ku kl kn cd wt) ?_ ((us, pl, ln)) (⟨by omega, Nat.le_refl _, by rw [shf_0], by rw [shf_0]⟩) (hP) (hD) hS (lv_sub hl [0, 1, 2, 3, 4, 5] rfl)
                      intro ⟨k, f, g⟩ hI ih H locs ls hP hD hS hl
                      have hl : lv_has ls 7 [(6, .int (nI k)), (4, .long (lN (gAt st pl ln us + n))), (2, .int (nI (gAt st pl ln us))), (3, .int (nI us)), (0, .ref (a 0)), (1, .int (nI n))] := hl
                      have hP : va_P (dC, dI) vwCl (mw cI a (((gAt st pl ln us + n + 255) / 256) * 256) st us kp ga gl cs (zr mem sz (((gAt st pl ln us + n + 255) / 256) * 256 - sz)) f g km ks kt ku kl kn cd wt) H := hP
                      have hD : va_D A (mw cI a (((gAt st pl ln us + n + 255) / 256) * 256) st us kp ga gl cs (zr mem sz (((gAt st pl ln us + n + 255) / 256) * 256 - sz)) f g km ks kt ku kl kn cd wt) := hD
                      have hI : us ≤ k ∧ k ≤ us ∧ f = shf pl k us ∧ g = shf ln k us := hI
                      obtain ⟨hk1, hk2, hf, hg⟩ := hI
                      have ih_176 := ih
                      refine lv_iload hx hb dX4_make_176 (lv_at hl 0 rfl) ?_
                      refine lv_iload_n hx hb dX4_make_178 rfl (lv_at hl 3 rfl) ?_
                      refine lv_icmp_le (tgt := 220) hx hb dX4_make_179 (by decide) (fun c_179 => ?_) (fun c_179 => ?_)
                      · have c_179 : k ≤ us := (nI_leI (a := k) (b := us) (by omega) (by omega)).mp c_179
                        refine lv_aload_n hx hb dX4_make_220 rfl (lv_at hl 4 rfl) ?_
                        refine va_get (D := (dC, dI)) (ci := 4) (v := .ref (a 2)) (C := RX4) (T := TX4) (N := 18) hx hb hts in_X4 hown hK hP 0 rfl rfl 4 (by decide) lk_7 (fun _ h9 => h9) rfl dX4_make_221 ?_
                        refine lv_iload_n hx hb dX4_make_224 rfl (lv_at hl 3 rfl) ?_
                        refine lv_iload_n hx hb dX4_make_225 rfl (lv_at hl 2 rfl) ?_
                        refine va_iast hx hb hK hP hD hS 2 0 rfl rfl (vp_in_nI (by omega) (by omega)) dX4_make_226 (fun H locs hP hD hS => ?_)
                        rw [nf_up (by omega)] at hP hD
                        have hP : va_P (dC, dI) vwCl (mw cI a (((gAt st pl ln us + n + 255) / 256) * 256) st us kp ga gl cs (zr mem sz (((gAt st pl ln us + n + 255) / 256) * 256 - sz)) (va_up f us (gAt st pl ln us)) g km ks kt ku kl kn cd wt) H := hP
                        have hD : va_D A (mw cI a (((gAt st pl ln us + n + 255) / 256) * 256) st us kp ga gl cs (zr mem sz (((gAt st pl ln us + n + 255) / 256) * 256 - sz)) (va_up f us (gAt st pl ln us)) g km ks kt ku kl kn cd wt) := hD
                        refine lv_aload_n hx hb dX4_make_227 rfl (lv_at hl 4 rfl) ?_
                        refine va_get (D := (dC, dI)) (ci := 4) (v := .ref (a 3)) (C := RX4) (T := TX4) (N := 18) hx hb hts in_X4 hown hK hP 0 rfl rfl 5 (by decide) lk_8 (fun _ h9 => h9) rfl dX4_make_228 ?_
                        refine lv_iload_n hx hb dX4_make_231 rfl (lv_at hl 3 rfl) ?_
                        refine lv_iload_n hx hb dX4_make_232 rfl (lv_at hl 5 rfl) ?_
                        refine va_iast hx hb hK hP hD hS 3 0 rfl rfl (vp_in_nI (by omega) (by omega)) dX4_make_233 (fun H locs hP hD hS => ?_)
                        rw [nf_up (by omega)] at hP hD
                        have hP : va_P (dC, dI) vwCl (mw cI a (((gAt st pl ln us + n + 255) / 256) * 256) st us kp ga gl cs (zr mem sz (((gAt st pl ln us + n + 255) / 256) * 256 - sz)) (va_up f us (gAt st pl ln us)) (va_up g us n) km ks kt ku kl kn cd wt) H := hP
                        have hD : va_D A (mw cI a (((gAt st pl ln us + n + 255) / 256) * 256) st us kp ga gl cs (zr mem sz (((gAt st pl ln us + n + 255) / 256) * 256 - sz)) (va_up f us (gAt st pl ln us)) (va_up g us n) km ks kt ku kl kn cd wt) := hD
                        refine lv_aload_n hx hb dX4_make_234 rfl (lv_at hl 4 rfl) ?_
                        refine lv_dup hx hb dX4_make_235 rfl ?_
                        refine va_get (D := (dC, dI)) (ci := 4) (v := .int (nI us)) (C := RX4) (T := TX4) (N := 18) hx hb hts in_X4 hown hK hP 0 rfl rfl 3 (by decide) lk_1 (fun _ h9 => h9) rfl dX4_make_236 ?_
                        refine lv_iconst (v := (nI 1)) hx hb dX4_make_239 (by decide) ?_
                        refine lv_iadd hx hb dX4_make_240 ?_
                        refine tpi (nI_add _ _) ?_
                        refine va_put (D := (dC, dI)) (ci := 4) (v := .int (nI (us + 1))) (ty := .int) (C := RX4) (T := TX4) (N := 18) hx hb hts in_X4 tyX4 tyX4_ok nmX4 hown hK hP hD hS 0 rfl rfl 3 (by decide) lk_1 (fun _ h9 => h9) rfl (by decide +kernel) rfl rfl (Nat.le_of_ble_eq_true rfl) dX4_make_241 (fun H locs hP hD hS => ?_)
                        have hP : va_P (dC, dI) vwCl (mw cI a (((gAt st pl ln us + n + 255) / 256) * 256) st (us + 1) kp ga gl cs (zr mem sz (((gAt st pl ln us + n + 255) / 256) * 256 - sz)) (va_up f us (gAt st pl ln us)) (va_up g us n) km ks kt ku kl kn cd wt) H := hP
                        have hD : va_D A (mw cI a (((gAt st pl ln us + n + 255) / 256) * 256) st (us + 1) kp ga gl cs (zr mem sz (((gAt st pl ln us + n + 255) / 256) * 256 - sz)) (va_up f us (gAt st pl ln us)) (va_up g us n) km ks kt ku kl kn cd wt) := hD
                        refine lv_iload_n hx hb dX4_make_244 rfl (lv_at hl 2 rfl) ?_
                        have e_sz : ((gAt st pl ln us + n + 255) / 256) * 256 = mkZ sz st us pl ln (nI n) := by unfold mkZ; rw [if_pos hO, hcl, hmk, ← hG]
                        have e_st : st = mkS sz st us pl ln (nI n) := by unfold mkS; rw [if_neg (fun q => absurd q.2 (by omega))]
                        have e_us : us + 1 = mkU sz st us pl ln (nI n) := by unfold mkU; rw [if_pos hO]
                        have e_mem : zr mem sz (((gAt st pl ln us + n + 255) / 256) * 256 - sz) = mkM sz st us pl ln mem (nI n) := by unfold mkM; rw [if_pos hO, hcl, hmk, ← hG]
                        have e_pl : va_up f us (gAt st pl ln us) = mkQ sz st us pl ln (nI n) := by unfold mkQ ins; rw [if_pos hO, hcl, hmk, hfit, hf, show k = us by omega]
                        have e_ln : va_up g us n = mkL sz st us pl ln (nI n) := by unfold mkL ins; rw [if_pos hO, hcl, hfit, hg, show k = us by omega]
                        have hP : va_P (dC, dI) vwCl (mw cI a (mkZ sz st us pl ln (nI n)) (mkS sz st us pl ln (nI n)) (mkU sz st us pl ln (nI n)) kp ga gl cs (mkM sz st us pl ln mem (nI n)) (mkQ sz st us pl ln (nI n)) (mkL sz st us pl ln (nI n)) km ks kt ku kl kn cd wt) H := by rw [← e_sz, ← e_st, ← e_us, ← e_mem, ← e_pl, ← e_ln]; exact hP
                        have hD : va_D A (mw cI a (mkZ sz st us pl ln (nI n)) (mkS sz st us pl ln (nI n)) (mkU sz st us pl ln (nI n)) kp ga gl cs (mkM sz st us pl ln mem (nI n)) (mkQ sz st us pl ln (nI n)) (mkL sz st us pl ln (nI n)) km ks kt ku kl kn cd wt) := by rw [← e_sz, ← e_st, ← e_us, ← e_mem, ← e_pl, ← e_ln]; exact hD
                        exact W.iret (v := (nI (gAt st pl ln us))) hx hb hr (fun t ht hW => ⟨⟨(nI (gAt st pl ln us)), (), rfl, (show (nI (gAt st pl ln us)) = mkR sz st us pl ln (nI n) from by unfold mkR; rw [if_neg (fun q => absurd ((nI_ltI n_n (by omega)).mp q) (by omega)), if_neg (by omega), hcl, if_neg (by rw [hmk]; omega), hmk]), by rw [ht]; exact hP, va_K.moved hW.alike hK, hD⟩, hS.F ht⟩) hS.2.2 dX4_make_245
                      · have c_179 : ¬ k ≤ us := fun q => c_179 ((nI_leI (a := k) (b := us) (by omega) (by omega)).mpr q)
                        refine lv_aload_n hx hb dX4_make_182 rfl (lv_at hl 4 rfl) ?_
                        refine va_get (D := (dC, dI)) (ci := 4) (v := .ref (a 2)) (C := RX4) (T := TX4) (N := 18) hx hb hts in_X4 hown hK hP 0 rfl rfl 4 (by decide) lk_7 (fun _ h9 => h9) rfl dX4_make_183 ?_
                        refine lv_iload hx hb dX4_make_186 (lv_at hl 0 rfl) ?_
                        refine lv_aload_n hx hb dX4_make_188 rfl (lv_at hl 4 rfl) ?_
                        refine va_get (D := (dC, dI)) (ci := 4) (v := .ref (a 2)) (C := RX4) (T := TX4) (N := 18) hx hb hts in_X4 hown hK hP 0 rfl rfl 4 (by decide) lk_7 (fun _ h9 => h9) rfl dX4_make_189 ?_
                        refine lv_iload hx hb dX4_make_192 (lv_at hl 0 rfl) ?_
                        refine lv_iconst (v := (nI 1)) hx hb dX4_make_194 (by decide) ?_
                        refine lv_isub hx hb dX4_make_195 ?_
                        refine tpi (pk_sub (by omega)) ?_
                        refine va_iald hx hb hK hP 2 0 rfl rfl (vp_in_nI (by omega) (by omega)) dX4_make_196 ?_
                        refine tpi (nf_at (by omega)) ?_
                        refine va_iast hx hb hK hP hD hS 2 0 rfl rfl (vp_in_nI (by omega) (by omega)) dX4_make_197 (fun H locs hP hD hS => ?_)
                        rw [nf_up (by omega)] at hP hD
                        have hP : va_P (dC, dI) vwCl (mw cI a (((gAt st pl ln us + n + 255) / 256) * 256) st us kp ga gl cs (zr mem sz (((gAt st pl ln us + n + 255) / 256) * 256 - sz)) (va_up f k (f (k - 1))) g km ks kt ku kl kn cd wt) H := hP
                        have hD : va_D A (mw cI a (((gAt st pl ln us + n + 255) / 256) * 256) st us kp ga gl cs (zr mem sz (((gAt st pl ln us + n + 255) / 256) * 256 - sz)) (va_up f k (f (k - 1))) g km ks kt ku kl kn cd wt) := hD
                        refine lv_aload_n hx hb dX4_make_198 rfl (lv_at hl 4 rfl) ?_
                        refine va_get (D := (dC, dI)) (ci := 4) (v := .ref (a 3)) (C := RX4) (T := TX4) (N := 18) hx hb hts in_X4 hown hK hP 0 rfl rfl 5 (by decide) lk_8 (fun _ h9 => h9) rfl dX4_make_199 ?_
                        refine lv_iload hx hb dX4_make_202 (lv_at hl 0 rfl) ?_
                        refine lv_aload_n hx hb dX4_make_204 rfl (lv_at hl 4 rfl) ?_
                        refine va_get (D := (dC, dI)) (ci := 4) (v := .ref (a 3)) (C := RX4) (T := TX4) (N := 18) hx hb hts in_X4 hown hK hP 0 rfl rfl 5 (by decide) lk_8 (fun _ h9 => h9) rfl dX4_make_205 ?_
                        refine lv_iload hx hb dX4_make_208 (lv_at hl 0 rfl) ?_
                        refine lv_iconst (v := (nI 1)) hx hb dX4_make_210 (by decide) ?_
                        refine lv_isub hx hb dX4_make_211 ?_
                        refine tpi (pk_sub (by omega)) ?_
                        refine va_iald hx hb hK hP 3 0 rfl rfl (vp_in_nI (by omega) (by omega)) dX4_make_212 ?_
                        refine tpi (nf_at (by omega)) ?_
                        refine va_iast hx hb hK hP hD hS 3 0 rfl rfl (vp_in_nI (by omega) (by omega)) dX4_make_213 (fun H locs hP hD hS => ?_)
                        rw [nf_up (by omega)] at hP hD
                        have hP : va_P (dC, dI) vwCl (mw cI a (((gAt st pl ln us + n + 255) / 256) * 256) st us kp ga gl cs (zr mem sz (((gAt st pl ln us + n + 255) / 256) * 256 - sz)) (va_up f k (f (k - 1))) (va_up g k (g (k - 1))) km ks kt ku kl kn cd wt) H := hP
                        have hD : va_D A (mw cI a (((gAt st pl ln us + n + 255) / 256) * 256) st us kp ga gl cs (zr mem sz (((gAt st pl ln us + n + 255) / 256) * 256 - sz)) (va_up f k (f (k - 1))) (va_up g k (g (k - 1))) km ks kt ku kl kn cd wt) := hD
                        refine lv_iinc (v := (nI (k - 1))) (lv' := [(6, .int (nI (k - 1))), (4, .long (lN (gAt st pl ln us + n))), (2, .int (nI (gAt st pl ln us))), (3, .int (nI us)), (0, .ref (a 0)), (1, .int (nI n))]) hx hb dX4_make_214 hl (k := 0) rfl (nI_dec (by omega)) (by decide) rfl (fun ls hl => ?_)
                        refine lv_goto (tgt := 176) hx hb dX4_make_217 (by decide) ?_
                        exact ih_176 (k - 1, va_up f k (f (k - 1)), va_up g k (g (k - 1))) (⟨by omega, by omega, by rw [hf, shf_s (by omega) hk2], by rw [hg, shf_s (by omega) hk2]⟩) (show (k - 1) < k by omega) H locs ls (hP) (hD) hS (lv_sub hl [0, 1, 2, 3, 4, 5] rfl)
                · have c_121 : us = 0 := (nZ_eq (by omega)).mp c_121
                  omega
              · have c_112 : ¬ gAt st pl ln us + n ≤ 8192 := fun q => c_112 ((lg_cmp_le _ _).mpr ((pk_lLE (a := gAt st pl ln us + n) (b := 8192) (by omega) (by omega)).mpr q))
                refine lv_iconst (v := (nI 0)) hx hb dX4_make_115 (by decide) ?_
                have e_sz : sz = mkZ sz st us pl ln (nI n) := by unfold mkZ; rw [if_neg (fun q => q.2.2 (by rw [hcl, hmk]; omega))]
                have e_st : st = mkS sz st us pl ln (nI n) := by unfold mkS; rw [if_neg (fun q => (fun q => q.2.2 (by rw [hcl, hmk]; omega)) q.1)]
                have e_us : us = mkU sz st us pl ln (nI n) := by unfold mkU; rw [if_neg (fun q => q.2.2 (by rw [hcl, hmk]; omega))]
                have e_mem : mem = mkM sz st us pl ln mem (nI n) := by unfold mkM; rw [if_neg (fun q => q.2.2 (by rw [hcl, hmk]; omega))]
                have e_pl : pl = mkQ sz st us pl ln (nI n) := by unfold mkQ; rw [if_neg (fun q => q.2.2 (by rw [hcl, hmk]; omega))]
                have e_ln : ln = mkL sz st us pl ln (nI n) := by unfold mkL; rw [if_neg (fun q => q.2.2 (by rw [hcl, hmk]; omega))]
                have hP : va_P (dC, dI) vwCl (mw cI a (mkZ sz st us pl ln (nI n)) (mkS sz st us pl ln (nI n)) (mkU sz st us pl ln (nI n)) kp ga gl cs (mkM sz st us pl ln mem (nI n)) (mkQ sz st us pl ln (nI n)) (mkL sz st us pl ln (nI n)) km ks kt ku kl kn cd wt) s.heap := by rw [← e_sz, ← e_st, ← e_us, ← e_mem, ← e_pl, ← e_ln]; exact hP
                have hD : va_D A (mw cI a (mkZ sz st us pl ln (nI n)) (mkS sz st us pl ln (nI n)) (mkU sz st us pl ln (nI n)) kp ga gl cs (mkM sz st us pl ln mem (nI n)) (mkQ sz st us pl ln (nI n)) (mkL sz st us pl ln (nI n)) km ks kt ku kl kn cd wt) := by rw [← e_sz, ← e_st, ← e_us, ← e_mem, ← e_pl, ← e_ln]; exact hD
                exact W.iret (v := (nI 0)) hx hb hr (fun t ht hW => ⟨⟨(nI 0), (), rfl, (show (nI 0) = mkR sz st us pl ln (nI n) from by unfold mkR; rw [if_neg (fun q => absurd ((nI_ltI n_n (by omega)).mp q) (by omega)), if_neg (by omega), hcl, if_pos (by rw [hmk]; omega)]), by rw [ht]; exact hP, va_K.moved hW.alike hK, hD⟩, hS.F ht⟩) hS.2.2 dX4_make_116
          · have c_52 : ¬ us < i := fun q => c_52 ((nI_ltI (a := us) (b := i) (by omega) (by omega)).mpr q)
            refine lv_aload_n hx hb dX4_make_55 rfl (lv_at hl 2 rfl) ?_
            refine lv_iload_n hx hb dX4_make_56 rfl (lv_at hl 0 rfl) ?_
            refine vp_callSi (W.runV (As := [.int (nI i)]) (rest := []) ⟨hx, hb, hml, hown, hts⟩ (c_X4_gapEnd l dC dI cI a sz st us kp ga gl cs mem pl ln km ks kt ku kl kn cd wt i (by omega) (by omega)) (cwV 1 hts gX4_make_X4_gapEnd rfl rfl rfl (by decide +kernel) ⟨Nat.le_of_ble_eq_true rfl, Nat.le_of_ble_eq_true rfl⟩) ⟨fun a9 U g9 mk9 q9 => by obtain ⟨q0, qP, qK⟩ := q9; exact ⟨q0, qP, va_K.moved (u := U) (U := U.calling g9 mk9 a9) (Vm.Alike.refl U.vm) qK⟩, va_recv hK hP (ci := 4) (q0 := 0) rfl rfl, fun U hU hW => ⟨rfl, by rw [hU]; exact hP, va_K.moved hW.alike hK⟩⟩ rfl rfl hl.1 rfl (lv_room (Nat.le_of_ble_eq_true rfl)) dX4_make_57 ⟨Nat.zero_le _, Nat.zero_le _⟩) (fun r_57 hw => ?_)
            try dsimp only at hw
            subst hw
            have we_57 := gEn_le gw (i := i) (by omega)
            refine lv_aload_n hx hb dX4_make_60 rfl (lv_at hl 2 rfl) ?_
            refine lv_iload_n hx hb dX4_make_61 rfl (lv_at hl 0 rfl) ?_
            refine vp_callSi (W.runV (As := [.int (nI i)]) (rest := [.int (nI (gEn sz us pl i))]) ⟨hx, hb, hml, hown, hts⟩ (c_X4_gapAt l dC dI cI a sz st us kp ga gl cs mem pl ln km ks kt ku kl kn cd wt i (by omega)) (cwV 1 hts gX4_make_X4_gapAt rfl rfl rfl (by decide +kernel) ⟨Nat.le_of_ble_eq_true rfl, Nat.le_of_ble_eq_true rfl⟩) ⟨fun a9 U g9 mk9 q9 => by obtain ⟨q0, qP, qK⟩ := q9; exact ⟨q0, qP, va_K.moved (u := U) (U := U.calling g9 mk9 a9) (Vm.Alike.refl U.vm) qK⟩, va_recv hK hP (ci := 4) (q0 := 0) rfl rfl, fun U hU hW => ⟨rfl, by rw [hU]; exact hP, va_K.moved hW.alike hK⟩⟩ rfl rfl hl.1 rfl (lv_room (Nat.le_of_ble_eq_true rfl)) dX4_make_62 ⟨Nat.zero_le _, Nat.zero_le _⟩) (fun r_62 hw => ?_)
            try dsimp only at hw
            subst hw
            have wg_62 := gAt_le gw (i := i) (by omega)
            have wo_62 := gap_le gw (i := i) (by omega) (by omega)
            refine lv_isub hx hb dX4_make_65 ?_
            refine tpi (pk_sub (by omega)) ?_
            refine lv_iload_n hx hb dX4_make_66 rfl (lv_at hl 3 rfl) ?_
            refine lv_icmp_ge (tgt := 76) hx hb dX4_make_67 (by decide) (fun c_67 => ?_) (fun c_67 => ?_)
            · have c_67 : n ≤ gEn sz us pl i - (gAt st pl ln i) := (nI_leI (a := n) (b := gEn sz us pl i - (gAt st pl ln i)) (by omega) (by omega)).mp c_67
              refine lv_iload_n hx hb dX4_make_76 rfl (lv_at hl 0 rfl) ?_
              refine lv_aload_n hx hb dX4_make_77 rfl (lv_at hl 2 rfl) ?_
              refine va_get (D := (dC, dI)) (ci := 4) (v := .int (nI us)) (C := RX4) (T := TX4) (N := 18) hx hb hts in_X4 hown hK hP 0 rfl rfl 3 (by decide) lk_1 (fun _ h9 => h9) rfl dX4_make_78 ?_
              refine lv_icmp_le (tgt := 91) hx hb dX4_make_81 (by decide) (fun c_81 => ?_) (fun c_81 => ?_)
              · have c_81 : i ≤ us := (nI_leI (a := i) (b := us) (by omega) (by omega)).mp c_81
                refine lv_iload_n hx hb dX4_make_91 rfl (lv_at hl 0 rfl) ?_
                refine lv_istore_n (lv' := [(3, .int (nI i)), (2, .int (nI st)), (0, .ref (a 0)), (1, .int (nI n))]) hx hb dX4_make_92 rfl hl (by decide) rfl (fun ls hl => ?_)
                refine lv_aload_n hx hb dX4_make_93 rfl (lv_at hl 2 rfl) ?_
                refine lv_iload_n hx hb dX4_make_94 rfl (lv_at hl 0 rfl) ?_
                refine vp_callSi (W.runV (As := [.int (nI i)]) (rest := []) ⟨hx, hb, hml, hown, hts⟩ (c_X4_gapAt l dC dI cI a sz st us kp ga gl cs mem pl ln km ks kt ku kl kn cd wt i (by omega)) (cwV 1 hts gX4_make_X4_gapAt rfl rfl rfl (by decide +kernel) ⟨Nat.le_of_ble_eq_true rfl, Nat.le_of_ble_eq_true rfl⟩) ⟨fun a9 U g9 mk9 q9 => by obtain ⟨q0, qP, qK⟩ := q9; exact ⟨q0, qP, va_K.moved (u := U) (U := U.calling g9 mk9 a9) (Vm.Alike.refl U.vm) qK⟩, va_recv hK hP (ci := 4) (q0 := 0) rfl rfl, fun U hU hW => ⟨rfl, by rw [hU]; exact hP, va_K.moved hW.alike hK⟩⟩ rfl rfl hl.1 rfl (lv_room (Nat.le_of_ble_eq_true rfl)) dX4_make_95 ⟨Nat.zero_le _, Nat.zero_le _⟩) (fun r_95 hw => ?_)
                try dsimp only at hw
                subst hw
                have wg_95 := gAt_le gw (i := i) (by omega)
                have wo_95 := gap_le gw (i := i) (by omega) (by omega)
                refine lv_istore_n (lv' := [(2, .int (nI (gAt st pl ln i))), (3, .int (nI i)), (0, .ref (a 0)), (1, .int (nI n))]) hx hb dX4_make_98 rfl hl (by decide) rfl (fun ls hl => ?_)
                have hfit : fit sz st us pl ln n = i := by rw [hv]; exact if h : i < us then by rw [fitF_step h, if_pos (by omega)] else by rw [fitF_end (by omega)]; omega
                have hmk : mkP sz st us pl ln n = gAt st pl ln i := by unfold mkP; rw [if_neg (by omega), hfit]
                have wg := gAt_le gw (i := i) (by omega)
                have hi3 : i ≤ us := by omega
                have hb2 : gAt st pl ln i ≤ sz := by omega
                refine lv_iload_n hx hb dX4_make_99 rfl (lv_at hl 0 rfl) ?_
                refine lv_i2l (v := lN (gAt st pl ln i)) hx hb dX4_make_100 (nI_l (by omega)) ?_
                refine lv_iload_n hx hb dX4_make_101 rfl (lv_at hl 3 rfl) ?_
                refine lv_i2l (v := lN n) hx hb dX4_make_102 (nI_l (by omega)) ?_
                refine lv_ladd hx hb dX4_make_103 ?_
                refine tpl (lN_add _ _) ?_
                refine lv_lstore (lv' := [(4, .long (lN (gAt st pl ln i + n))), (2, .int (nI (gAt st pl ln i))), (3, .int (nI i)), (0, .ref (a 0)), (1, .int (nI n))]) hx hb dX4_make_104 hl (by decide) rfl (fun ls hl => ?_)
                refine lv_lload hx hb dX4_make_106 (lv_at hl 0 rfl) ?_
                refine lv_ldc2 (own := RX4) (v := (8192)) hx hb hown lk_4 dX4_make_108 ?_
                refine tpl (show (8192 : Int64) = lN 8192 from rfl) ?_
                refine W.lcmp hx hb dX4_make_111 ?_
                refine lv_if_le (tgt := 117) hx hb dX4_make_112 (by decide) (fun c_112 => ?_) (fun c_112 => ?_)
                · have c_112 : gAt st pl ln i + n ≤ 8192 := (pk_lLE (a := gAt st pl ln i + n) (b := 8192) (by omega) (by omega)).mp ((lg_cmp_le _ _).mp c_112)
                  have hO : mkO sz st us pl ln (nI n) := ⟨fun q => absurd ((nI_ltI n_n (by omega)).mp q) (by omega), by omega, by rw [hcl, hmk]; omega⟩
                  refine lv_aload_n hx hb dX4_make_117 rfl (lv_at hl 3 rfl) ?_
                  refine va_get (D := (dC, dI)) (ci := 4) (v := .int (nI us)) (C := RX4) (T := TX4) (N := 18) hx hb hts in_X4 hown hK hP 0 rfl rfl 3 (by decide) lk_1 (fun _ h9 => h9) rfl dX4_make_118 ?_
                  refine lv_if_ne (tgt := 132) hx hb dX4_make_121 (by decide) (fun c_121 => ?_) (fun c_121 => ?_)
                  · have c_121 : ¬ us = 0 := fun q => c_121 ((nZ_eq (by omega)).mpr q)
                    refine lv_iload_n hx hb dX4_make_132 rfl (lv_at hl 2 rfl) ?_
                    refine lv_aload_n hx hb dX4_make_133 rfl (lv_at hl 3 rfl) ?_
                    refine va_get (D := (dC, dI)) (ci := 4) (v := .int (nI us)) (C := RX4) (T := TX4) (N := 18) hx hb hts in_X4 hown hK hP 0 rfl rfl 3 (by decide) lk_1 (fun _ h9 => h9) rfl dX4_make_134 ?_
                    refine lv_icmp_ne (tgt := 170) hx hb dX4_make_137 (by decide) (fun c_137 => ?_) (fun c_137 => ?_)
                    · have c_137 : ¬ i = us := fun q => c_137 ((nI_eq (a := i) (b := us) (by omega) (by omega)).mpr q)
                      have hgp := fit_gap (sz := sz) (st := st) (us := us) (pl := pl) (ln := ln) (n := n) (by rw [hfit]; omega)
                      rw [hfit] at hgp
                      have wen := gEn_le gw (i := i) (by omega)
                      have hG : sz = mkG sz (gAt st pl ln i + n) := by unfold mkG; rw [if_neg (by omega)]
                      refine lv_aload_n hx hb dX4_make_170 rfl (lv_at hl 3 rfl) ?_
                      refine va_get (D := (dC, dI)) (ci := 4) (v := .int (nI us)) (C := RX4) (T := TX4) (N := 18) hx hb hts in_X4 hown hK hP 0 rfl rfl 3 (by decide) lk_1 (fun _ h9 => h9) rfl dX4_make_171 ?_
                      refine lv_istore (lv' := [(6, .int (nI us)), (4, .long (lN (gAt st pl ln i + n))), (2, .int (nI (gAt st pl ln i))), (3, .int (nI i)), (0, .ref (a 0)), (1, .int (nI n))]) hx hb dX4_make_174 hl (by decide) rfl (fun ls hl => ?_)
                      refine lp_world (σ := Nat × (Nat → Nat) × (Nat → Nat)) (fun ⟨k, f, g⟩ => i ≤ k ∧ k ≤ us ∧ f = shf pl k us ∧ g = shf ln k us) (fun ⟨k, f, g⟩ => k) (fun ⟨k, f, g⟩ => [(6, .int (nI k)), (4, .long (lN (gAt st pl ln i + n))), (2, .int (nI (gAt st pl ln i))), (3, .int (nI i)), (0, .ref (a 0)), (1, .int (nI n))]) (fun ⟨k, f, g⟩ => mw cI a sz st us kp ga gl cs mem f g km ks kt ku kl kn cd wt) ?_ ((us, pl, ln)) (⟨by omega, Nat.le_refl _, by rw [shf_0], by rw [shf_0]⟩) (hP) (hD) hS (lv_sub hl [0, 1, 2, 3, 4, 5] rfl)
                      intro ⟨k, f, g⟩ hI ih H locs ls hP hD hS hl
                      have hl : lv_has ls 7 [(6, .int (nI k)), (4, .long (lN (gAt st pl ln i + n))), (2, .int (nI (gAt st pl ln i))), (3, .int (nI i)), (0, .ref (a 0)), (1, .int (nI n))] := hl
                      have hP : va_P (dC, dI) vwCl (mw cI a sz st us kp ga gl cs mem f g km ks kt ku kl kn cd wt) H := hP
                      have hD : va_D A (mw cI a sz st us kp ga gl cs mem f g km ks kt ku kl kn cd wt) := hD
                      have hI : i ≤ k ∧ k ≤ us ∧ f = shf pl k us ∧ g = shf ln k us := hI
                      obtain ⟨hk1, hk2, hf, hg⟩ := hI
                      have ih_176 := ih
                      refine lv_iload hx hb dX4_make_176 (lv_at hl 0 rfl) ?_
                      refine lv_iload_n hx hb dX4_make_178 rfl (lv_at hl 3 rfl) ?_
                      refine lv_icmp_le (tgt := 220) hx hb dX4_make_179 (by decide) (fun c_179 => ?_) (fun c_179 => ?_)
                      · have c_179 : k ≤ i := (nI_leI (a := k) (b := i) (by omega) (by omega)).mp c_179
                        refine lv_aload_n hx hb dX4_make_220 rfl (lv_at hl 4 rfl) ?_
                        refine va_get (D := (dC, dI)) (ci := 4) (v := .ref (a 2)) (C := RX4) (T := TX4) (N := 18) hx hb hts in_X4 hown hK hP 0 rfl rfl 4 (by decide) lk_7 (fun _ h9 => h9) rfl dX4_make_221 ?_
                        refine lv_iload_n hx hb dX4_make_224 rfl (lv_at hl 3 rfl) ?_
                        refine lv_iload_n hx hb dX4_make_225 rfl (lv_at hl 2 rfl) ?_
                        refine va_iast hx hb hK hP hD hS 2 0 rfl rfl (vp_in_nI (by omega) (by omega)) dX4_make_226 (fun H locs hP hD hS => ?_)
                        rw [nf_up (by omega)] at hP hD
                        have hP : va_P (dC, dI) vwCl (mw cI a sz st us kp ga gl cs mem (va_up f i (gAt st pl ln i)) g km ks kt ku kl kn cd wt) H := hP
                        have hD : va_D A (mw cI a sz st us kp ga gl cs mem (va_up f i (gAt st pl ln i)) g km ks kt ku kl kn cd wt) := hD
                        refine lv_aload_n hx hb dX4_make_227 rfl (lv_at hl 4 rfl) ?_
                        refine va_get (D := (dC, dI)) (ci := 4) (v := .ref (a 3)) (C := RX4) (T := TX4) (N := 18) hx hb hts in_X4 hown hK hP 0 rfl rfl 5 (by decide) lk_8 (fun _ h9 => h9) rfl dX4_make_228 ?_
                        refine lv_iload_n hx hb dX4_make_231 rfl (lv_at hl 3 rfl) ?_
                        refine lv_iload_n hx hb dX4_make_232 rfl (lv_at hl 5 rfl) ?_
                        refine va_iast hx hb hK hP hD hS 3 0 rfl rfl (vp_in_nI (by omega) (by omega)) dX4_make_233 (fun H locs hP hD hS => ?_)
                        rw [nf_up (by omega)] at hP hD
                        have hP : va_P (dC, dI) vwCl (mw cI a sz st us kp ga gl cs mem (va_up f i (gAt st pl ln i)) (va_up g i n) km ks kt ku kl kn cd wt) H := hP
                        have hD : va_D A (mw cI a sz st us kp ga gl cs mem (va_up f i (gAt st pl ln i)) (va_up g i n) km ks kt ku kl kn cd wt) := hD
                        refine lv_aload_n hx hb dX4_make_234 rfl (lv_at hl 4 rfl) ?_
                        refine lv_dup hx hb dX4_make_235 rfl ?_
                        refine va_get (D := (dC, dI)) (ci := 4) (v := .int (nI us)) (C := RX4) (T := TX4) (N := 18) hx hb hts in_X4 hown hK hP 0 rfl rfl 3 (by decide) lk_1 (fun _ h9 => h9) rfl dX4_make_236 ?_
                        refine lv_iconst (v := (nI 1)) hx hb dX4_make_239 (by decide) ?_
                        refine lv_iadd hx hb dX4_make_240 ?_
                        refine tpi (nI_add _ _) ?_
                        refine va_put (D := (dC, dI)) (ci := 4) (v := .int (nI (us + 1))) (ty := .int) (C := RX4) (T := TX4) (N := 18) hx hb hts in_X4 tyX4 tyX4_ok nmX4 hown hK hP hD hS 0 rfl rfl 3 (by decide) lk_1 (fun _ h9 => h9) rfl (by decide +kernel) rfl rfl (Nat.le_of_ble_eq_true rfl) dX4_make_241 (fun H locs hP hD hS => ?_)
                        have hP : va_P (dC, dI) vwCl (mw cI a sz st (us + 1) kp ga gl cs mem (va_up f i (gAt st pl ln i)) (va_up g i n) km ks kt ku kl kn cd wt) H := hP
                        have hD : va_D A (mw cI a sz st (us + 1) kp ga gl cs mem (va_up f i (gAt st pl ln i)) (va_up g i n) km ks kt ku kl kn cd wt) := hD
                        refine lv_iload_n hx hb dX4_make_244 rfl (lv_at hl 2 rfl) ?_
                        have e_sz : sz = mkZ sz st us pl ln (nI n) := by unfold mkZ; rw [if_pos hO, hcl, hmk, ← hG]
                        have e_st : st = mkS sz st us pl ln (nI n) := by unfold mkS; rw [if_neg (fun q => absurd q.2 (by omega))]
                        have e_us : us + 1 = mkU sz st us pl ln (nI n) := by unfold mkU; rw [if_pos hO]
                        have e_mem : mem = mkM sz st us pl ln mem (nI n) := by unfold mkM; rw [if_pos hO, hcl, hmk, ← hG, Nat.sub_self, zr_0]
                        have e_pl : va_up f i (gAt st pl ln i) = mkQ sz st us pl ln (nI n) := by unfold mkQ ins; rw [if_pos hO, hcl, hmk, hfit, hf, show k = i by omega]
                        have e_ln : va_up g i n = mkL sz st us pl ln (nI n) := by unfold mkL ins; rw [if_pos hO, hcl, hfit, hg, show k = i by omega]
                        have hP : va_P (dC, dI) vwCl (mw cI a (mkZ sz st us pl ln (nI n)) (mkS sz st us pl ln (nI n)) (mkU sz st us pl ln (nI n)) kp ga gl cs (mkM sz st us pl ln mem (nI n)) (mkQ sz st us pl ln (nI n)) (mkL sz st us pl ln (nI n)) km ks kt ku kl kn cd wt) H := by rw [← e_sz, ← e_st, ← e_us, ← e_mem, ← e_pl, ← e_ln]; exact hP
                        have hD : va_D A (mw cI a (mkZ sz st us pl ln (nI n)) (mkS sz st us pl ln (nI n)) (mkU sz st us pl ln (nI n)) kp ga gl cs (mkM sz st us pl ln mem (nI n)) (mkQ sz st us pl ln (nI n)) (mkL sz st us pl ln (nI n)) km ks kt ku kl kn cd wt) := by rw [← e_sz, ← e_st, ← e_us, ← e_mem, ← e_pl, ← e_ln]; exact hD
                        exact W.iret (v := (nI (gAt st pl ln i))) hx hb hr (fun t ht hW => ⟨⟨(nI (gAt st pl ln i)), (), rfl, (show (nI (gAt st pl ln i)) = mkR sz st us pl ln (nI n) from by unfold mkR; rw [if_neg (fun q => absurd ((nI_ltI n_n (by omega)).mp q) (by omega)), if_neg (by omega), hcl, if_neg (by rw [hmk]; omega), hmk]), by rw [ht]; exact hP, va_K.moved hW.alike hK, hD⟩, hS.F ht⟩) hS.2.2 dX4_make_245
                      · have c_179 : ¬ k ≤ i := fun q => c_179 ((nI_leI (a := k) (b := i) (by omega) (by omega)).mpr q)
                        refine lv_aload_n hx hb dX4_make_182 rfl (lv_at hl 4 rfl) ?_
                        refine va_get (D := (dC, dI)) (ci := 4) (v := .ref (a 2)) (C := RX4) (T := TX4) (N := 18) hx hb hts in_X4 hown hK hP 0 rfl rfl 4 (by decide) lk_7 (fun _ h9 => h9) rfl dX4_make_183 ?_
                        refine lv_iload hx hb dX4_make_186 (lv_at hl 0 rfl) ?_
                        refine lv_aload_n hx hb dX4_make_188 rfl (lv_at hl 4 rfl) ?_
                        refine va_get (D := (dC, dI)) (ci := 4) (v := .ref (a 2)) (C := RX4) (T := TX4) (N := 18) hx hb hts in_X4 hown hK hP 0 rfl rfl 4 (by decide) lk_7 (fun _ h9 => h9) rfl dX4_make_189 ?_
                        refine lv_iload hx hb dX4_make_192 (lv_at hl 0 rfl) ?_
                        refine lv_iconst (v := (nI 1)) hx hb dX4_make_194 (by decide) ?_
                        refine lv_isub hx hb dX4_make_195 ?_
                        refine tpi (pk_sub (by omega)) ?_
                        refine va_iald hx hb hK hP 2 0 rfl rfl (vp_in_nI (by omega) (by omega)) dX4_make_196 ?_
                        refine tpi (nf_at (by omega)) ?_
                        refine va_iast hx hb hK hP hD hS 2 0 rfl rfl (vp_in_nI (by omega) (by omega)) dX4_make_197 (fun H locs hP hD hS => ?_)
                        rw [nf_up (by omega)] at hP hD
                        have hP : va_P (dC, dI) vwCl (mw cI a sz st us kp ga gl cs mem (va_up f k (f (k - 1))) g km ks kt ku kl kn cd wt) H := hP
                        have hD : va_D A (mw cI a sz st us kp ga gl cs mem (va_up f k (f (k - 1))) g km ks kt ku kl kn cd wt) := hD
                        refine lv_aload_n hx hb dX4_make_198 rfl (lv_at hl 4 rfl) ?_
                        refine va_get (D := (dC, dI)) (ci := 4) (v := .ref (a 3)) (C := RX4) (T := TX4) (N := 18) hx hb hts in_X4 hown hK hP 0 rfl rfl 5 (by decide) lk_8 (fun _ h9 => h9) rfl dX4_make_199 ?_
                        refine lv_iload hx hb dX4_make_202 (lv_at hl 0 rfl) ?_
                        refine lv_aload_n hx hb dX4_make_204 rfl (lv_at hl 4 rfl) ?_
                        refine va_get (D := (dC, dI)) (ci := 4) (v := .ref (a 3)) (C := RX4) (T := TX4) (N := 18) hx hb hts in_X4 hown hK hP 0 rfl rfl 5 (by decide) lk_8 (fun _ h9 => h9) rfl dX4_make_205 ?_
                        refine lv_iload hx hb dX4_make_208 (lv_at hl 0 rfl) ?_
                        refine lv_iconst (v := (nI 1)) hx hb dX4_make_210 (by decide) ?_
                        refine lv_isub hx hb dX4_make_211 ?_
                        refine tpi (pk_sub (by omega)) ?_
                        refine va_iald hx hb hK hP 3 0 rfl rfl (vp_in_nI (by omega) (by omega)) dX4_make_212 ?_
                        refine tpi (nf_at (by omega)) ?_
                        refine va_iast hx hb hK hP hD hS 3 0 rfl rfl (vp_in_nI (by omega) (by omega)) dX4_make_213 (fun H locs hP hD hS => ?_)
                        rw [nf_up (by omega)] at hP hD
                        have hP : va_P (dC, dI) vwCl (mw cI a sz st us kp ga gl cs mem (va_up f k (f (k - 1))) (va_up g k (g (k - 1))) km ks kt ku kl kn cd wt) H := hP
                        have hD : va_D A (mw cI a sz st us kp ga gl cs mem (va_up f k (f (k - 1))) (va_up g k (g (k - 1))) km ks kt ku kl kn cd wt) := hD
                        refine lv_iinc (v := (nI (k - 1))) (lv' := [(6, .int (nI (k - 1))), (4, .long (lN (gAt st pl ln i + n))), (2, .int (nI (gAt st pl ln i))), (3, .int (nI i)), (0, .ref (a 0)), (1, .int (nI n))]) hx hb dX4_make_214 hl (k := 0) rfl (nI_dec (by omega)) (by decide) rfl (fun ls hl => ?_)
                        refine lv_goto (tgt := 176) hx hb dX4_make_217 (by decide) ?_
                        exact ih_176 (k - 1, va_up f k (f (k - 1)), va_up g k (g (k - 1))) (⟨by omega, by omega, by rw [hf, shf_s (by omega) hk2], by rw [hg, shf_s (by omega) hk2]⟩) (show (k - 1) < k by omega) H locs ls (hP) (hD) hS (lv_sub hl [0, 1, 2, 3, 4, 5] rfl)
                    · have c_137 : i = us := (nI_eq (a := i) (b := us) (by omega) (by omega)).mp c_137
                      refine lv_lload hx hb dX4_make_140 (lv_at hl 0 rfl) ?_
                      refine lv_aload_n hx hb dX4_make_142 rfl (lv_at hl 3 rfl) ?_
                      refine va_get (D := (dC, dI)) (ci := 4) (v := .int (nI sz)) (C := RX4) (T := TX4) (N := 18) hx hb hts in_X4 hown hK hP 0 rfl rfl 1 (by decide) lk_2 (fun _ h9 => h9) rfl dX4_make_143 ?_
                      refine lv_i2l (v := lN sz) hx hb dX4_make_146 (nI_l (by omega)) ?_
                      refine W.lcmp hx hb dX4_make_147 ?_
                      refine lv_if_le (tgt := 170) hx hb dX4_make_148 (by decide) (fun c_148 => ?_) (fun c_148 => ?_)
                      · have c_148 : gAt st pl ln i + n ≤ sz := (pk_lLE (a := gAt st pl ln i + n) (b := sz) (by omega) (by omega)).mp ((lg_cmp_le _ _).mp c_148)
                        have hG : sz = mkG sz (gAt st pl ln i + n) := by unfold mkG; rw [if_neg (by omega)]
                        refine lv_aload_n hx hb dX4_make_170 rfl (lv_at hl 3 rfl) ?_
                        refine va_get (D := (dC, dI)) (ci := 4) (v := .int (nI us)) (C := RX4) (T := TX4) (N := 18) hx hb hts in_X4 hown hK hP 0 rfl rfl 3 (by decide) lk_1 (fun _ h9 => h9) rfl dX4_make_171 ?_
                        refine lv_istore (lv' := [(6, .int (nI us)), (4, .long (lN (gAt st pl ln i + n))), (2, .int (nI (gAt st pl ln i))), (3, .int (nI i)), (0, .ref (a 0)), (1, .int (nI n))]) hx hb dX4_make_174 hl (by decide) rfl (fun ls hl => ?_)
                        refine lp_world (σ := Nat × (Nat → Nat) × (Nat → Nat)) (fun ⟨k, f, g⟩ => i ≤ k ∧ k ≤ us ∧ f = shf pl k us ∧ g = shf ln k us) (fun ⟨k, f, g⟩ => k) (fun ⟨k, f, g⟩ => [(6, .int (nI k)), (4, .long (lN (gAt st pl ln i + n))), (2, .int (nI (gAt st pl ln i))), (3, .int (nI i)), (0, .ref (a 0)), (1, .int (nI n))]) (fun ⟨k, f, g⟩ => mw cI a sz st us kp ga gl cs mem f g km ks kt ku kl kn cd wt) ?_ ((us, pl, ln)) (⟨by omega, Nat.le_refl _, by rw [shf_0], by rw [shf_0]⟩) (hP) (hD) hS (lv_sub hl [0, 1, 2, 3, 4, 5] rfl)
                        intro ⟨k, f, g⟩ hI ih H locs ls hP hD hS hl
                        have hl : lv_has ls 7 [(6, .int (nI k)), (4, .long (lN (gAt st pl ln i + n))), (2, .int (nI (gAt st pl ln i))), (3, .int (nI i)), (0, .ref (a 0)), (1, .int (nI n))] := hl
                        have hP : va_P (dC, dI) vwCl (mw cI a sz st us kp ga gl cs mem f g km ks kt ku kl kn cd wt) H := hP
                        have hD : va_D A (mw cI a sz st us kp ga gl cs mem f g km ks kt ku kl kn cd wt) := hD
                        have hI : i ≤ k ∧ k ≤ us ∧ f = shf pl k us ∧ g = shf ln k us := hI
                        obtain ⟨hk1, hk2, hf, hg⟩ := hI
                        have ih_176 := ih
                        refine lv_iload hx hb dX4_make_176 (lv_at hl 0 rfl) ?_
                        refine lv_iload_n hx hb dX4_make_178 rfl (lv_at hl 3 rfl) ?_
                        refine lv_icmp_le (tgt := 220) hx hb dX4_make_179 (by decide) (fun c_179 => ?_) (fun c_179 => ?_)
                        · have c_179 : k ≤ i := (nI_leI (a := k) (b := i) (by omega) (by omega)).mp c_179
                          refine lv_aload_n hx hb dX4_make_220 rfl (lv_at hl 4 rfl) ?_
                          refine va_get (D := (dC, dI)) (ci := 4) (v := .ref (a 2)) (C := RX4) (T := TX4) (N := 18) hx hb hts in_X4 hown hK hP 0 rfl rfl 4 (by decide) lk_7 (fun _ h9 => h9) rfl dX4_make_221 ?_
                          refine lv_iload_n hx hb dX4_make_224 rfl (lv_at hl 3 rfl) ?_
                          refine lv_iload_n hx hb dX4_make_225 rfl (lv_at hl 2 rfl) ?_
                          refine va_iast hx hb hK hP hD hS 2 0 rfl rfl (vp_in_nI (by omega) (by omega)) dX4_make_226 (fun H locs hP hD hS => ?_)
                          rw [nf_up (by omega)] at hP hD
                          have hP : va_P (dC, dI) vwCl (mw cI a sz st us kp ga gl cs mem (va_up f i (gAt st pl ln i)) g km ks kt ku kl kn cd wt) H := hP
                          have hD : va_D A (mw cI a sz st us kp ga gl cs mem (va_up f i (gAt st pl ln i)) g km ks kt ku kl kn cd wt) := hD
                          refine lv_aload_n hx hb dX4_make_227 rfl (lv_at hl 4 rfl) ?_
                          refine va_get (D := (dC, dI)) (ci := 4) (v := .ref (a 3)) (C := RX4) (T := TX4) (N := 18) hx hb hts in_X4 hown hK hP 0 rfl rfl 5 (by decide) lk_8 (fun _ h9 => h9) rfl dX4_make_228 ?_
                          refine lv_iload_n hx hb dX4_make_231 rfl (lv_at hl 3 rfl) ?_
                          refine lv_iload_n hx hb dX4_make_232 rfl (lv_at hl 5 rfl) ?_
                          refine va_iast hx hb hK hP hD hS 3 0 rfl rfl (vp_in_nI (by omega) (by omega)) dX4_make_233 (fun H locs hP hD hS => ?_)
                          rw [nf_up (by omega)] at hP hD
                          have hP : va_P (dC, dI) vwCl (mw cI a sz st us kp ga gl cs mem (va_up f i (gAt st pl ln i)) (va_up g i n) km ks kt ku kl kn cd wt) H := hP
                          have hD : va_D A (mw cI a sz st us kp ga gl cs mem (va_up f i (gAt st pl ln i)) (va_up g i n) km ks kt ku kl kn cd wt) := hD
                          refine lv_aload_n hx hb dX4_make_234 rfl (lv_at hl 4 rfl) ?_
                          refine lv_dup hx hb dX4_make_235 rfl ?_
                          refine va_get (D := (dC, dI)) (ci := 4) (v := .int (nI us)) (C := RX4) (T := TX4) (N := 18) hx hb hts in_X4 hown hK hP 0 rfl rfl 3 (by decide) lk_1 (fun _ h9 => h9) rfl dX4_make_236 ?_
                          refine lv_iconst (v := (nI 1)) hx hb dX4_make_239 (by decide) ?_
                          refine lv_iadd hx hb dX4_make_240 ?_
                          refine tpi (nI_add _ _) ?_
                          refine va_put (D := (dC, dI)) (ci := 4) (v := .int (nI (us + 1))) (ty := .int) (C := RX4) (T := TX4) (N := 18) hx hb hts in_X4 tyX4 tyX4_ok nmX4 hown hK hP hD hS 0 rfl rfl 3 (by decide) lk_1 (fun _ h9 => h9) rfl (by decide +kernel) rfl rfl (Nat.le_of_ble_eq_true rfl) dX4_make_241 (fun H locs hP hD hS => ?_)
                          have hP : va_P (dC, dI) vwCl (mw cI a sz st (us + 1) kp ga gl cs mem (va_up f i (gAt st pl ln i)) (va_up g i n) km ks kt ku kl kn cd wt) H := hP
                          have hD : va_D A (mw cI a sz st (us + 1) kp ga gl cs mem (va_up f i (gAt st pl ln i)) (va_up g i n) km ks kt ku kl kn cd wt) := hD
                          refine lv_iload_n hx hb dX4_make_244 rfl (lv_at hl 2 rfl) ?_
                          have e_sz : sz = mkZ sz st us pl ln (nI n) := by unfold mkZ; rw [if_pos hO, hcl, hmk, ← hG]
                          have e_st : st = mkS sz st us pl ln (nI n) := by unfold mkS; rw [if_neg (fun q => absurd q.2 (by omega))]
                          have e_us : us + 1 = mkU sz st us pl ln (nI n) := by unfold mkU; rw [if_pos hO]
                          have e_mem : mem = mkM sz st us pl ln mem (nI n) := by unfold mkM; rw [if_pos hO, hcl, hmk, ← hG, Nat.sub_self, zr_0]
                          have e_pl : va_up f i (gAt st pl ln i) = mkQ sz st us pl ln (nI n) := by unfold mkQ ins; rw [if_pos hO, hcl, hmk, hfit, hf, show k = i by omega]
                          have e_ln : va_up g i n = mkL sz st us pl ln (nI n) := by unfold mkL ins; rw [if_pos hO, hcl, hfit, hg, show k = i by omega]
                          have hP : va_P (dC, dI) vwCl (mw cI a (mkZ sz st us pl ln (nI n)) (mkS sz st us pl ln (nI n)) (mkU sz st us pl ln (nI n)) kp ga gl cs (mkM sz st us pl ln mem (nI n)) (mkQ sz st us pl ln (nI n)) (mkL sz st us pl ln (nI n)) km ks kt ku kl kn cd wt) H := by rw [← e_sz, ← e_st, ← e_us, ← e_mem, ← e_pl, ← e_ln]; exact hP
                          have hD : va_D A (mw cI a (mkZ sz st us pl ln (nI n)) (mkS sz st us pl ln (nI n)) (mkU sz st us pl ln (nI n)) kp ga gl cs (mkM sz st us pl ln mem (nI n)) (mkQ sz st us pl ln (nI n)) (mkL sz st us pl ln (nI n)) km ks kt ku kl kn cd wt) := by rw [← e_sz, ← e_st, ← e_us, ← e_mem, ← e_pl, ← e_ln]; exact hD
                          exact W.iret (v := (nI (gAt st pl ln i))) hx hb hr (fun t ht hW => ⟨⟨(nI (gAt st pl ln i)), (), rfl, (show (nI (gAt st pl ln i)) = mkR sz st us pl ln (nI n) from by unfold mkR; rw [if_neg (fun q => absurd ((nI_ltI n_n (by omega)).mp q) (by omega)), if_neg (by omega), hcl, if_neg (by rw [hmk]; omega), hmk]), by rw [ht]; exact hP, va_K.moved hW.alike hK, hD⟩, hS.F ht⟩) hS.2.2 dX4_make_245
                        · have c_179 : ¬ k ≤ i := fun q => c_179 ((nI_leI (a := k) (b := i) (by omega) (by omega)).mpr q)
                          refine lv_aload_n hx hb dX4_make_182 rfl (lv_at hl 4 rfl) ?_
                          refine va_get (D := (dC, dI)) (ci := 4) (v := .ref (a 2)) (C := RX4) (T := TX4) (N := 18) hx hb hts in_X4 hown hK hP 0 rfl rfl 4 (by decide) lk_7 (fun _ h9 => h9) rfl dX4_make_183 ?_
                          refine lv_iload hx hb dX4_make_186 (lv_at hl 0 rfl) ?_
                          refine lv_aload_n hx hb dX4_make_188 rfl (lv_at hl 4 rfl) ?_
                          refine va_get (D := (dC, dI)) (ci := 4) (v := .ref (a 2)) (C := RX4) (T := TX4) (N := 18) hx hb hts in_X4 hown hK hP 0 rfl rfl 4 (by decide) lk_7 (fun _ h9 => h9) rfl dX4_make_189 ?_
                          refine lv_iload hx hb dX4_make_192 (lv_at hl 0 rfl) ?_
                          refine lv_iconst (v := (nI 1)) hx hb dX4_make_194 (by decide) ?_
                          refine lv_isub hx hb dX4_make_195 ?_
                          refine tpi (pk_sub (by omega)) ?_
                          refine va_iald hx hb hK hP 2 0 rfl rfl (vp_in_nI (by omega) (by omega)) dX4_make_196 ?_
                          refine tpi (nf_at (by omega)) ?_
                          refine va_iast hx hb hK hP hD hS 2 0 rfl rfl (vp_in_nI (by omega) (by omega)) dX4_make_197 (fun H locs hP hD hS => ?_)
                          rw [nf_up (by omega)] at hP hD
                          have hP : va_P (dC, dI) vwCl (mw cI a sz st us kp ga gl cs mem (va_up f k (f (k - 1))) g km ks kt ku kl kn cd wt) H := hP
                          have hD : va_D A (mw cI a sz st us kp ga gl cs mem (va_up f k (f (k - 1))) g km ks kt ku kl kn cd wt) := hD
                          refine lv_aload_n hx hb dX4_make_198 rfl (lv_at hl 4 rfl) ?_
                          refine va_get (D := (dC, dI)) (ci := 4) (v := .ref (a 3)) (C := RX4) (T := TX4) (N := 18) hx hb hts in_X4 hown hK hP 0 rfl rfl 5 (by decide) lk_8 (fun _ h9 => h9) rfl dX4_make_199 ?_
                          refine lv_iload hx hb dX4_make_202 (lv_at hl 0 rfl) ?_
                          refine lv_aload_n hx hb dX4_make_204 rfl (lv_at hl 4 rfl) ?_
                          refine va_get (D := (dC, dI)) (ci := 4) (v := .ref (a 3)) (C := RX4) (T := TX4) (N := 18) hx hb hts in_X4 hown hK hP 0 rfl rfl 5 (by decide) lk_8 (fun _ h9 => h9) rfl dX4_make_205 ?_
                          refine lv_iload hx hb dX4_make_208 (lv_at hl 0 rfl) ?_
                          refine lv_iconst (v := (nI 1)) hx hb dX4_make_210 (by decide) ?_
                          refine lv_isub hx hb dX4_make_211 ?_
                          refine tpi (pk_sub (by omega)) ?_
                          refine va_iald hx hb hK hP 3 0 rfl rfl (vp_in_nI (by omega) (by omega)) dX4_make_212 ?_
                          refine tpi (nf_at (by omega)) ?_
                          refine va_iast hx hb hK hP hD hS 3 0 rfl rfl (vp_in_nI (by omega) (by omega)) dX4_make_213 (fun H locs hP hD hS => ?_)
                          rw [nf_up (by omega)] at hP hD
                          have hP : va_P (dC, dI) vwCl (mw cI a sz st us kp ga gl cs mem (va_up f k (f (k - 1))) (va_up g k (g (k - 1))) km ks kt ku kl kn cd wt) H := hP
                          have hD : va_D A (mw cI a sz st us kp ga gl cs mem (va_up f k (f (k - 1))) (va_up g k (g (k - 1))) km ks kt ku kl kn cd wt) := hD
                          refine lv_iinc (v := (nI (k - 1))) (lv' := [(6, .int (nI (k - 1))), (4, .long (lN (gAt st pl ln i + n))), (2, .int (nI (gAt st pl ln i))), (3, .int (nI i)), (0, .ref (a 0)), (1, .int (nI n))]) hx hb dX4_make_214 hl (k := 0) rfl (nI_dec (by omega)) (by decide) rfl (fun ls hl => ?_)
                          refine lv_goto (tgt := 176) hx hb dX4_make_217 (by decide) ?_
                          exact ih_176 (k - 1, va_up f k (f (k - 1)), va_up g k (g (k - 1))) (⟨by omega, by omega, by rw [hf, shf_s (by omega) hk2], by rw [hg, shf_s (by omega) hk2]⟩) (show (k - 1) < k by omega) H locs ls (hP) (hD) hS (lv_sub hl [0, 1, 2, 3, 4, 5] rfl)
                      · have c_148 : ¬ gAt st pl ln i + n ≤ sz := fun q => c_148 ((lg_cmp_le _ _).mpr ((pk_lLE (a := gAt st pl ln i + n) (b := sz) (by omega) (by omega)).mpr q))
                        refine lv_aload_n hx hb dX4_make_151 rfl (lv_at hl 3 rfl) ?_
                        refine lv_lload hx hb dX4_make_152 (lv_at hl 0 rfl) ?_
                        refine lv_ldc2 (own := RX4) (v := (255)) hx hb hown lk_5 dX4_make_154 ?_
                        refine tpl (show (255 : Int64) = lN 255 from rfl) ?_
                        refine lv_ladd hx hb dX4_make_157 ?_
                        refine tpl (lN_add _ _) ?_
                        refine lv_ldc2 (own := RX4) (v := (256)) hx hb hown lk_6 dX4_make_158 ?_
                        refine tpl (show (256 : Int64) = lN 256 from rfl) ?_
                        refine lv_ldiv hx hb dX4_make_161 (by decide) ?_
                        refine tpl (pk_lDiv (by omega) (by decide) (by decide)) ?_
                        refine lv_ldc2 (own := RX4) (v := (256)) hx hb hown lk_6 dX4_make_162 ?_
                        refine tpl (show (256 : Int64) = lN 256 from rfl) ?_
                        refine lv_lmul hx hb dX4_make_165 ?_
                        refine tpl (lN_mul _ _) ?_
                        refine lv_l2i (v := nI (((gAt st pl ln i + n + 255) / 256) * 256)) hx hb dX4_make_166 (lN_i _) ?_
                        have hFc := va_free (wc := mw cI a sz st us kp ga gl cs mem pl ln km ks kt ku kl kn cd wt) hD hS hA [0, 1, 2, 3, 4, 5, 6, 7, 8, 9, 10, 11] rfl
                        refine va_callv (va_runV (As := [.int (nI (((gAt st pl ln i + n + 255) / 256) * 256))]) (rest := []) ⟨hx, hb, hml, hown, hts⟩ (c_X4_grow l dC dI cI a sz st us kp ga gl cs mem pl ln km ks kt ku kl kn cd wt s.heap.size (((gAt st pl ln i + n + 255) / 256) * 256) (by omega) (by omega)) (cwV 1 hts gX4_make_X4_grow rfl rfl rfl (by decide +kernel) ⟨Nat.le_of_ble_eq_true rfl, Nat.le_of_ble_eq_true rfl⟩) ⟨fun a9 U g9 mk9 q9 => by obtain ⟨q0, q1, qP, qK, qD⟩ := q9; exact ⟨q0, q1, qP, va_K.moved (u := U) (U := U.calling g9 mk9 a9) (Vm.Alike.refl U.vm) qK, qD⟩, va_recv hK hP (ci := 4) (q0 := 0) rfl rfl, fun U hU hW => ⟨rfl, by rw [hU], by rw [hU]; exact hP, va_K.moved hW.alike hK, hD.weaken (fun _ _ _ _ => trivial)⟩⟩ rfl rfl hl.1 rfl (lv_room (Nat.le_of_ble_eq_true rfl)) dX4_make_167 ⟨Nat.zero_le _, Nat.zero_le _⟩) hS (fun q _ h => hFc q h) hFc (fun u t H1 locs ht hvm hw hB hz1 hk1 hS => ?_)
                        obtain ⟨hP1, hK1, hD1⟩ := hB
                        rw [ht] at hP1
                        obtain ⟨hP, hD⟩ := va_join (wr := []) (w1 := mw cI a (((gAt st pl ln i + n + 255) / 256) * 256) st us kp ga gl cs (zr mem sz (((gAt st pl ln i + n + 255) / 256) * 256 - sz)) pl ln km ks kt ku kl kn cd wt) hP hD [0, 1, 2, 3, 4, 5, 6, 7, 8, 9, 10, 11] [] rfl rfl (by decide) (by decide) hk1 hFc hP1 hD1
                        generalize H1 = H at hP hS ⊢
                        have hP : va_P (dC, dI) vwCl (mw cI a (((gAt st pl ln i + n + 255) / 256) * 256) st us kp ga gl cs (zr mem sz (((gAt st pl ln i + n + 255) / 256) * 256 - sz)) pl ln km ks kt ku kl kn cd wt) H := hP
                        have hD : va_D A (mw cI a (((gAt st pl ln i + n + 255) / 256) * 256) st us kp ga gl cs (zr mem sz (((gAt st pl ln i + n + 255) / 256) * 256 - sz)) pl ln km ks kt ku kl kn cd wt) := hD
                        have hG : (gAt st pl ln i + n + 255) / 256 * 256 = mkG sz (gAt st pl ln i + n) := by unfold mkG; rw [if_pos (by omega)]
                        refine lv_aload_n hx hb dX4_make_170 rfl (lv_at hl 3 rfl) ?_
                        refine va_get (D := (dC, dI)) (ci := 4) (v := .int (nI us)) (C := RX4) (T := TX4) (N := 18) hx hb hts in_X4 hown hK hP 0 rfl rfl 3 (by decide) lk_1 (fun _ h9 => h9) rfl dX4_make_171 ?_
                        refine lv_istore (lv' := [(6, .int (nI us)), (4, .long (lN (gAt st pl ln i + n))), (2, .int (nI (gAt st pl ln i))), (3, .int (nI i)), (0, .ref (a 0)), (1, .int (nI n))]) hx hb dX4_make_174 hl (by decide) rfl (fun ls hl => ?_)
                        refine lp_world (σ := Nat × (Nat → Nat) × (Nat → Nat)) (fun ⟨k, f, g⟩ => i ≤ k ∧ k ≤ us ∧ f = shf pl k us ∧ g = shf ln k us) (fun ⟨k, f, g⟩ => k) (fun ⟨k, f, g⟩ => [(6, .int (nI k)), (4, .long (lN (gAt st pl ln i + n))), (2, .int (nI (gAt st pl ln i))), (3, .int (nI i)), (0, .ref (a 0)), (1, .int (nI n))]) (fun ⟨k, f, g⟩ => mw cI a (((gAt st pl ln i + n + 255) / 256) * 256) st us kp ga gl cs (zr mem sz (((gAt st pl ln i + n + 255) / 256) * 256 - sz)) f g km ks kt ku kl kn cd wt) ?_ ((us, pl, ln)) (⟨by omega, Nat.le_refl _, by rw [shf_0], by rw [shf_0]⟩) (hP) (hD) hS (lv_sub hl [0, 1, 2, 3, 4, 5] rfl)
                        intro ⟨k, f, g⟩ hI ih H locs ls hP hD hS hl
                        have hl : lv_has ls 7 [(6, .int (nI k)), (4, .long (lN (gAt st pl ln i + n))), (2, .int (nI (gAt st pl ln i))), (3, .int (nI i)), (0, .ref (a 0)), (1, .int (nI n))] := hl
                        have hP : va_P (dC, dI) vwCl (mw cI a (((gAt st pl ln i + n + 255) / 256) * 256) st us kp ga gl cs (zr mem sz (((gAt st pl ln i + n + 255) / 256) * 256 - sz)) f g km ks kt ku kl kn cd wt) H := hP
                        have hD : va_D A (mw cI a (((gAt st pl ln i + n + 255) / 256) * 256) st us kp ga gl cs (zr mem sz (((gAt st pl ln i + n + 255) / 256) * 256 - sz)) f g km ks kt ku kl kn cd wt) := hD
                        have hI : i ≤ k ∧ k ≤ us ∧ f = shf pl k us ∧ g = shf ln k us := hI
                        obtain ⟨hk1, hk2, hf, hg⟩ := hI
                        have ih_176 := ih
                        refine lv_iload hx hb dX4_make_176 (lv_at hl 0 rfl) ?_
                        refine lv_iload_n hx hb dX4_make_178 rfl (lv_at hl 3 rfl) ?_
                        refine lv_icmp_le (tgt := 220) hx hb dX4_make_179 (by decide) (fun c_179 => ?_) (fun c_179 => ?_)
                        · have c_179 : k ≤ i := (nI_leI (a := k) (b := i) (by omega) (by omega)).mp c_179
                          refine lv_aload_n hx hb dX4_make_220 rfl (lv_at hl 4 rfl) ?_
                          refine va_get (D := (dC, dI)) (ci := 4) (v := .ref (a 2)) (C := RX4) (T := TX4) (N := 18) hx hb hts in_X4 hown hK hP 0 rfl rfl 4 (by decide) lk_7 (fun _ h9 => h9) rfl dX4_make_221 ?_
                          refine lv_iload_n hx hb dX4_make_224 rfl (lv_at hl 3 rfl) ?_
                          refine lv_iload_n hx hb dX4_make_225 rfl (lv_at hl 2 rfl) ?_
                          refine va_iast hx hb hK hP hD hS 2 0 rfl rfl (vp_in_nI (by omega) (by omega)) dX4_make_226 (fun H locs hP hD hS => ?_)
                          rw [nf_up (by omega)] at hP hD
                          have hP : va_P (dC, dI) vwCl (mw cI a (((gAt st pl ln i + n + 255) / 256) * 256) st us kp ga gl cs (zr mem sz (((gAt st pl ln i + n + 255) / 256) * 256 - sz)) (va_up f i (gAt st pl ln i)) g km ks kt ku kl kn cd wt) H := hP
                          have hD : va_D A (mw cI a (((gAt st pl ln i + n + 255) / 256) * 256) st us kp ga gl cs (zr mem sz (((gAt st pl ln i + n + 255) / 256) * 256 - sz)) (va_up f i (gAt st pl ln i)) g km ks kt ku kl kn cd wt) := hD
                          refine lv_aload_n hx hb dX4_make_227 rfl (lv_at hl 4 rfl) ?_
                          refine va_get (D := (dC, dI)) (ci := 4) (v := .ref (a 3)) (C := RX4) (T := TX4) (N := 18) hx hb hts in_X4 hown hK hP 0 rfl rfl 5 (by decide) lk_8 (fun _ h9 => h9) rfl dX4_make_228 ?_
                          refine lv_iload_n hx hb dX4_make_231 rfl (lv_at hl 3 rfl) ?_
                          refine lv_iload_n hx hb dX4_make_232 rfl (lv_at hl 5 rfl) ?_
                          refine va_iast hx hb hK hP hD hS 3 0 rfl rfl (vp_in_nI (by omega) (by omega)) dX4_make_233 (fun H locs hP hD hS => ?_)
                          rw [nf_up (by omega)] at hP hD
                          have hP : va_P (dC, dI) vwCl (mw cI a (((gAt st pl ln i + n + 255) / 256) * 256) st us kp ga gl cs (zr mem sz (((gAt st pl ln i + n + 255) / 256) * 256 - sz)) (va_up f i (gAt st pl ln i)) (va_up g i n) km ks kt ku kl kn cd wt) H := hP
                          have hD : va_D A (mw cI a (((gAt st pl ln i + n + 255) / 256) * 256) st us kp ga gl cs (zr mem sz (((gAt st pl ln i + n + 255) / 256) * 256 - sz)) (va_up f i (gAt st pl ln i)) (va_up g i n) km ks kt ku kl kn cd wt) := hD
                          refine lv_aload_n hx hb dX4_make_234 rfl (lv_at hl 4 rfl) ?_
                          refine lv_dup hx hb dX4_make_235 rfl ?_
                          refine va_get (D := (dC, dI)) (ci := 4) (v := .int (nI us)) (C := RX4) (T := TX4) (N := 18) hx hb hts in_X4 hown hK hP 0 rfl rfl 3 (by decide) lk_1 (fun _ h9 => h9) rfl dX4_make_236 ?_
                          refine lv_iconst (v := (nI 1)) hx hb dX4_make_239 (by decide) ?_
                          refine lv_iadd hx hb dX4_make_240 ?_
                          refine tpi (nI_add _ _) ?_
                          refine va_put (D := (dC, dI)) (ci := 4) (v := .int (nI (us + 1))) (ty := .int) (C := RX4) (T := TX4) (N := 18) hx hb hts in_X4 tyX4 tyX4_ok nmX4 hown hK hP hD hS 0 rfl rfl 3 (by decide) lk_1 (fun _ h9 => h9) rfl (by decide +kernel) rfl rfl (Nat.le_of_ble_eq_true rfl) dX4_make_241 (fun H locs hP hD hS => ?_)
                          have hP : va_P (dC, dI) vwCl (mw cI a (((gAt st pl ln i + n + 255) / 256) * 256) st (us + 1) kp ga gl cs (zr mem sz (((gAt st pl ln i + n + 255) / 256) * 256 - sz)) (va_up f i (gAt st pl ln i)) (va_up g i n) km ks kt ku kl kn cd wt) H := hP
                          have hD : va_D A (mw cI a (((gAt st pl ln i + n + 255) / 256) * 256) st (us + 1) kp ga gl cs (zr mem sz (((gAt st pl ln i + n + 255) / 256) * 256 - sz)) (va_up f i (gAt st pl ln i)) (va_up g i n) km ks kt ku kl kn cd wt) := hD
                          refine lv_iload_n hx hb dX4_make_244 rfl (lv_at hl 2 rfl) ?_
                          have e_sz : ((gAt st pl ln i + n + 255) / 256) * 256 = mkZ sz st us pl ln (nI n) := by unfold mkZ; rw [if_pos hO, hcl, hmk, ← hG]
                          have e_st : st = mkS sz st us pl ln (nI n) := by unfold mkS; rw [if_neg (fun q => absurd q.2 (by omega))]
                          have e_us : us + 1 = mkU sz st us pl ln (nI n) := by unfold mkU; rw [if_pos hO]
                          have e_mem : zr mem sz (((gAt st pl ln i + n + 255) / 256) * 256 - sz) = mkM sz st us pl ln mem (nI n) := by unfold mkM; rw [if_pos hO, hcl, hmk, ← hG]
                          have e_pl : va_up f i (gAt st pl ln i) = mkQ sz st us pl ln (nI n) := by unfold mkQ ins; rw [if_pos hO, hcl, hmk, hfit, hf, show k = i by omega]
                          have e_ln : va_up g i n = mkL sz st us pl ln (nI n) := by unfold mkL ins; rw [if_pos hO, hcl, hfit, hg, show k = i by omega]
                          have hP : va_P (dC, dI) vwCl (mw cI a (mkZ sz st us pl ln (nI n)) (mkS sz st us pl ln (nI n)) (mkU sz st us pl ln (nI n)) kp ga gl cs (mkM sz st us pl ln mem (nI n)) (mkQ sz st us pl ln (nI n)) (mkL sz st us pl ln (nI n)) km ks kt ku kl kn cd wt) H := by rw [← e_sz, ← e_st, ← e_us, ← e_mem, ← e_pl, ← e_ln]; exact hP
                          have hD : va_D A (mw cI a (mkZ sz st us pl ln (nI n)) (mkS sz st us pl ln (nI n)) (mkU sz st us pl ln (nI n)) kp ga gl cs (mkM sz st us pl ln mem (nI n)) (mkQ sz st us pl ln (nI n)) (mkL sz st us pl ln (nI n)) km ks kt ku kl kn cd wt) := by rw [← e_sz, ← e_st, ← e_us, ← e_mem, ← e_pl, ← e_ln]; exact hD
                          exact W.iret (v := (nI (gAt st pl ln i))) hx hb hr (fun t ht hW => ⟨⟨(nI (gAt st pl ln i)), (), rfl, (show (nI (gAt st pl ln i)) = mkR sz st us pl ln (nI n) from by unfold mkR; rw [if_neg (fun q => absurd ((nI_ltI n_n (by omega)).mp q) (by omega)), if_neg (by omega), hcl, if_neg (by rw [hmk]; omega), hmk]), by rw [ht]; exact hP, va_K.moved hW.alike hK, hD⟩, hS.F ht⟩) hS.2.2 dX4_make_245
                        · have c_179 : ¬ k ≤ i := fun q => c_179 ((nI_leI (a := k) (b := i) (by omega) (by omega)).mpr q)
                          refine lv_aload_n hx hb dX4_make_182 rfl (lv_at hl 4 rfl) ?_
                          refine va_get (D := (dC, dI)) (ci := 4) (v := .ref (a 2)) (C := RX4) (T := TX4) (N := 18) hx hb hts in_X4 hown hK hP 0 rfl rfl 4 (by decide) lk_7 (fun _ h9 => h9) rfl dX4_make_183 ?_
                          refine lv_iload hx hb dX4_make_186 (lv_at hl 0 rfl) ?_
                          refine lv_aload_n hx hb dX4_make_188 rfl (lv_at hl 4 rfl) ?_
                          refine va_get (D := (dC, dI)) (ci := 4) (v := .ref (a 2)) (C := RX4) (T := TX4) (N := 18) hx hb hts in_X4 hown hK hP 0 rfl rfl 4 (by decide) lk_7 (fun _ h9 => h9) rfl dX4_make_189 ?_
                          refine lv_iload hx hb dX4_make_192 (lv_at hl 0 rfl) ?_
                          refine lv_iconst (v := (nI 1)) hx hb dX4_make_194 (by decide) ?_
                          refine lv_isub hx hb dX4_make_195 ?_
                          refine tpi (pk_sub (by omega)) ?_
                          refine va_iald hx hb hK hP 2 0 rfl rfl (vp_in_nI (by omega) (by omega)) dX4_make_196 ?_
                          refine tpi (nf_at (by omega)) ?_
                          refine va_iast hx hb hK hP hD hS 2 0 rfl rfl (vp_in_nI (by omega) (by omega)) dX4_make_197 (fun H locs hP hD hS => ?_)
                          rw [nf_up (by omega)] at hP hD
                          have hP : va_P (dC, dI) vwCl (mw cI a (((gAt st pl ln i + n + 255) / 256) * 256) st us kp ga gl cs (zr mem sz (((gAt st pl ln i + n + 255) / 256) * 256 - sz)) (va_up f k (f (k - 1))) g km ks kt ku kl kn cd wt) H := hP
                          have hD : va_D A (mw cI a (((gAt st pl ln i + n + 255) / 256) * 256) st us kp ga gl cs (zr mem sz (((gAt st pl ln i + n + 255) / 256) * 256 - sz)) (va_up f k (f (k - 1))) g km ks kt ku kl kn cd wt) := hD
                          refine lv_aload_n hx hb dX4_make_198 rfl (lv_at hl 4 rfl) ?_
                          refine va_get (D := (dC, dI)) (ci := 4) (v := .ref (a 3)) (C := RX4) (T := TX4) (N := 18) hx hb hts in_X4 hown hK hP 0 rfl rfl 5 (by decide) lk_8 (fun _ h9 => h9) rfl dX4_make_199 ?_
                          refine lv_iload hx hb dX4_make_202 (lv_at hl 0 rfl) ?_
                          refine lv_aload_n hx hb dX4_make_204 rfl (lv_at hl 4 rfl) ?_
                          refine va_get (D := (dC, dI)) (ci := 4) (v := .ref (a 3)) (C := RX4) (T := TX4) (N := 18) hx hb hts in_X4 hown hK hP 0 rfl rfl 5 (by decide) lk_8 (fun _ h9 => h9) rfl dX4_make_205 ?_
                          refine lv_iload hx hb dX4_make_208 (lv_at hl 0 rfl) ?_
                          refine lv_iconst (v := (nI 1)) hx hb dX4_make_210 (by decide) ?_
                          refine lv_isub hx hb dX4_make_211 ?_
                          refine tpi (pk_sub (by omega)) ?_
                          refine va_iald hx hb hK hP 3 0 rfl rfl (vp_in_nI (by omega) (by omega)) dX4_make_212 ?_
                          refine tpi (nf_at (by omega)) ?_
                          refine va_iast hx hb hK hP hD hS 3 0 rfl rfl (vp_in_nI (by omega) (by omega)) dX4_make_213 (fun H locs hP hD hS => ?_)
                          rw [nf_up (by omega)] at hP hD
                          have hP : va_P (dC, dI) vwCl (mw cI a (((gAt st pl ln i + n + 255) / 256) * 256) st us kp ga gl cs (zr mem sz (((gAt st pl ln i + n + 255) / 256) * 256 - sz)) (va_up f k (f (k - 1))) (va_up g k (g (k - 1))) km ks kt ku kl kn cd wt) H := hP
                          have hD : va_D A (mw cI a (((gAt st pl ln i + n + 255) / 256) * 256) st us kp ga gl cs (zr mem sz (((gAt st pl ln i + n + 255) / 256) * 256 - sz)) (va_up f k (f (k - 1))) (va_up g k (g (k - 1))) km ks kt ku kl kn cd wt) := hD
                          refine lv_iinc (v := (nI (k - 1))) (lv' := [(6, .int (nI (k - 1))), (4, .long (lN (gAt st pl ln i + n))), (2, .int (nI (gAt st pl ln i))), (3, .int (nI i)), (0, .ref (a 0)), (1, .int (nI n))]) hx hb dX4_make_214 hl (k := 0) rfl (nI_dec (by omega)) (by decide) rfl (fun ls hl => ?_)
                          refine lv_goto (tgt := 176) hx hb dX4_make_217 (by decide) ?_
                          exact ih_176 (k - 1, va_up f k (f (k - 1)), va_up g k (g (k - 1))) (⟨by omega, by omega, by rw [hf, shf_s (by omega) hk2], by rw [hg, shf_s (by omega) hk2]⟩) (show (k - 1) < k by omega) H locs ls (hP) (hD) hS (lv_sub hl [0, 1, 2, 3, 4, 5] rfl)
                  · have c_121 : us = 0 := (nZ_eq (by omega)).mp c_121
                    omega
                · have c_112 : ¬ gAt st pl ln i + n ≤ 8192 := fun q => c_112 ((lg_cmp_le _ _).mpr ((pk_lLE (a := gAt st pl ln i + n) (b := 8192) (by omega) (by omega)).mpr q))
                  refine lv_iconst (v := (nI 0)) hx hb dX4_make_115 (by decide) ?_
                  have e_sz : sz = mkZ sz st us pl ln (nI n) := by unfold mkZ; rw [if_neg (fun q => q.2.2 (by rw [hcl, hmk]; omega))]
                  have e_st : st = mkS sz st us pl ln (nI n) := by unfold mkS; rw [if_neg (fun q => (fun q => q.2.2 (by rw [hcl, hmk]; omega)) q.1)]
                  have e_us : us = mkU sz st us pl ln (nI n) := by unfold mkU; rw [if_neg (fun q => q.2.2 (by rw [hcl, hmk]; omega))]
                  have e_mem : mem = mkM sz st us pl ln mem (nI n) := by unfold mkM; rw [if_neg (fun q => q.2.2 (by rw [hcl, hmk]; omega))]
                  have e_pl : pl = mkQ sz st us pl ln (nI n) := by unfold mkQ; rw [if_neg (fun q => q.2.2 (by rw [hcl, hmk]; omega))]
                  have e_ln : ln = mkL sz st us pl ln (nI n) := by unfold mkL; rw [if_neg (fun q => q.2.2 (by rw [hcl, hmk]; omega))]
                  have hP : va_P (dC, dI) vwCl (mw cI a (mkZ sz st us pl ln (nI n)) (mkS sz st us pl ln (nI n)) (mkU sz st us pl ln (nI n)) kp ga gl cs (mkM sz st us pl ln mem (nI n)) (mkQ sz st us pl ln (nI n)) (mkL sz st us pl ln (nI n)) km ks kt ku kl kn cd wt) s.heap := by rw [← e_sz, ← e_st, ← e_us, ← e_mem, ← e_pl, ← e_ln]; exact hP
                  have hD : va_D A (mw cI a (mkZ sz st us pl ln (nI n)) (mkS sz st us pl ln (nI n)) (mkU sz st us pl ln (nI n)) kp ga gl cs (mkM sz st us pl ln mem (nI n)) (mkQ sz st us pl ln (nI n)) (mkL sz st us pl ln (nI n)) km ks kt ku kl kn cd wt) := by rw [← e_sz, ← e_st, ← e_us, ← e_mem, ← e_pl, ← e_ln]; exact hD
                  exact W.iret (v := (nI 0)) hx hb hr (fun t ht hW => ⟨⟨(nI 0), (), rfl, (show (nI 0) = mkR sz st us pl ln (nI n) from by unfold mkR; rw [if_neg (fun q => absurd ((nI_ltI n_n (by omega)).mp q) (by omega)), if_neg (by omega), hcl, if_pos (by rw [hmk]; omega)]), by rw [ht]; exact hP, va_K.moved hW.alike hK, hD⟩, hS.F ht⟩) hS.2.2 dX4_make_116
              · have c_81 : ¬ i ≤ us := fun q => c_81 ((nI_leI (a := i) (b := us) (by omega) (by omega)).mpr q)
                omega
            · have c_67 : ¬ n ≤ gEn sz us pl i - (gAt st pl ln i) := fun q => c_67 ((nI_leI (a := n) (b := gEn sz us pl i - (gAt st pl ln i)) (by omega) (by omega)).mpr q)
              refine lv_iinc (v := (nI (i + 1))) (lv' := [(3, .int (nI (i + 1))), (2, .int (nI st)), (0, .ref (a 0)), (1, .int (nI n))]) hx hb dX4_make_70 hl (k := 0) rfl (nI_inc _) (by decide) rfl (fun ls hl => ?_)
              refine lv_goto (tgt := 47) hx hb dX4_make_73 (by decide) ?_
              exact ih_47 (i + 1) (⟨by omega, by rw [hv]; exact if h : i < us then by rw [fitF_step h, if_neg (by omega)] else by rw [fitF_end (by omega), fitF_end (by omega)]⟩) (show us + 2 - (i + 1) < us + 2 - i by omega) ls (lv_sub hl [0, 1, 2, 3] rfl)
      · have c_23 : us = 0 := (nZ_eq (by omega)).mp c_23
        refine lv_aload_n hx hb dX4_make_26 rfl (lv_at hl 0 rfl) ?_
        refine va_get (D := (dC, dI)) (ci := 4) (v := .int (nI sz)) (C := RX4) (T := TX4) (N := 18) hx hb hts in_X4 hown hK hP 0 rfl rfl 1 (by decide) lk_2 (fun _ h9 => h9) rfl dX4_make_27 ?_
        refine lv_goto (tgt := 37) hx hb dX4_make_30 (by decide) ?_
        refine lv_istore_n (lv' := [(2, .int (nI sz)), (0, .ref (a 0)), (1, .int (nI n))]) hx hb dX4_make_37 rfl hl (by decide) rfl (fun ls hl => ?_)
        refine lv_iconst (v := (nI 0)) hx hb dX4_make_38 (by decide) ?_
        refine lv_istore_n (lv' := [(3, .int (nI 0)), (2, .int (nI sz)), (0, .ref (a 0)), (1, .int (nI n))]) hx hb dX4_make_39 rfl hl (by decide) rfl (fun ls hl => ?_)
        refine lv_aload_n hx hb dX4_make_40 rfl (lv_at hl 2 rfl) ?_
        refine va_get (D := (dC, dI)) (ci := 4) (v := .int (nI us)) (C := RX4) (T := TX4) (N := 18) hx hb hts in_X4 hown hK hP 0 rfl rfl 3 (by decide) lk_1 (fun _ h9 => h9) rfl dX4_make_41 ?_
        refine lv_if_le (tgt := 99) hx hb dX4_make_44 (by decide) (fun c_44 => ?_) (fun c_44 => ?_)
        · have c_44 : us ≤ 0 := (nZ_le (by omega)).mp c_44
          have hfit : fit sz st us pl ln n = 0 := by have := fit_le sz st us pl ln n; omega
          have hmk : mkP sz st us pl ln n = sz := by unfold mkP; rw [if_pos (by omega)]
          have hi3 : 0 ≤ us := by omega
          have hb2 : sz ≤ sz := by omega
          refine lv_iload_n hx hb dX4_make_99 rfl (lv_at hl 1 rfl) ?_
          refine lv_i2l (v := lN sz) hx hb dX4_make_100 (nI_l (by omega)) ?_
          refine lv_iload_n hx hb dX4_make_101 rfl (lv_at hl 3 rfl) ?_
          refine lv_i2l (v := lN n) hx hb dX4_make_102 (nI_l (by omega)) ?_
          refine lv_ladd hx hb dX4_make_103 ?_
          refine tpl (lN_add _ _) ?_
          refine lv_lstore (lv' := [(4, .long (lN (sz + n))), (3, .int (nI 0)), (2, .int (nI sz)), (0, .ref (a 0)), (1, .int (nI n))]) hx hb dX4_make_104 hl (by decide) rfl (fun ls hl => ?_)
          refine lv_lload hx hb dX4_make_106 (lv_at hl 0 rfl) ?_
          refine lv_ldc2 (own := RX4) (v := (8192)) hx hb hown lk_4 dX4_make_108 ?_
          refine tpl (show (8192 : Int64) = lN 8192 from rfl) ?_
          refine W.lcmp hx hb dX4_make_111 ?_
          refine lv_if_le (tgt := 117) hx hb dX4_make_112 (by decide) (fun c_112 => ?_) (fun c_112 => ?_)
          · have c_112 : sz + n ≤ 8192 := (pk_lLE (a := sz + n) (b := 8192) (by omega) (by omega)).mp ((lg_cmp_le _ _).mp c_112)
            have hO : mkO sz st us pl ln (nI n) := ⟨fun q => absurd ((nI_ltI n_n (by omega)).mp q) (by omega), by omega, by rw [hcl, hmk]; omega⟩
            refine lv_aload_n hx hb dX4_make_117 rfl (lv_at hl 3 rfl) ?_
            refine va_get (D := (dC, dI)) (ci := 4) (v := .int (nI us)) (C := RX4) (T := TX4) (N := 18) hx hb hts in_X4 hown hK hP 0 rfl rfl 3 (by decide) lk_1 (fun _ h9 => h9) rfl dX4_make_118 ?_
            refine lv_if_ne (tgt := 132) hx hb dX4_make_121 (by decide) (fun c_121 => ?_) (fun c_121 => ?_)
            · have c_121 : ¬ us = 0 := fun q => c_121 ((nZ_eq (by omega)).mpr q)
              omega
            · have c_121 : us = 0 := (nZ_eq (by omega)).mp c_121
              refine lv_aload_n hx hb dX4_make_124 rfl (lv_at hl 3 rfl) ?_
              refine lv_aload_n hx hb dX4_make_125 rfl (lv_at hl 3 rfl) ?_
              refine va_get (D := (dC, dI)) (ci := 4) (v := .int (nI sz)) (C := RX4) (T := TX4) (N := 18) hx hb hts in_X4 hown hK hP 0 rfl rfl 1 (by decide) lk_2 (fun _ h9 => h9) rfl dX4_make_126 ?_
              refine va_put (D := (dC, dI)) (ci := 4) (v := .int (nI sz)) (ty := .int) (C := RX4) (T := TX4) (N := 18) hx hb hts in_X4 tyX4 tyX4_ok nmX4 hown hK hP hD hS 0 rfl rfl 2 (by decide) lk_3 (fun _ h9 => h9) rfl (by decide +kernel) rfl rfl (Nat.le_of_ble_eq_true rfl) dX4_make_129 (fun H locs hP hD hS => ?_)
              have hP : va_P (dC, dI) vwCl (mw cI a sz sz us kp ga gl cs mem pl ln km ks kt ku kl kn cd wt) H := hP
              have hD : va_D A (mw cI a sz sz us kp ga gl cs mem pl ln km ks kt ku kl kn cd wt) := hD
              refine lv_iload_n hx hb dX4_make_132 rfl (lv_at hl 1 rfl) ?_
              refine lv_aload_n hx hb dX4_make_133 rfl (lv_at hl 3 rfl) ?_
              refine va_get (D := (dC, dI)) (ci := 4) (v := .int (nI us)) (C := RX4) (T := TX4) (N := 18) hx hb hts in_X4 hown hK hP 0 rfl rfl 3 (by decide) lk_1 (fun _ h9 => h9) rfl dX4_make_134 ?_
              refine lv_icmp_ne (tgt := 170) hx hb dX4_make_137 (by decide) (fun c_137 => ?_) (fun c_137 => ?_)
              · have c_137 : ¬ 0 = us := fun q => c_137 ((nI_eq (a := 0) (b := us) (by omega) (by omega)).mpr q)
                have hgp := fit_gap (sz := sz) (st := st) (us := us) (pl := pl) (ln := ln) (n := n) (by rw [hfit]; omega)
                rw [hfit] at hgp
                have wen := gEn_le gw (i := 0) (by omega)
                have hG : sz = mkG sz (sz + n) := by unfold mkG; rw [if_neg (by omega)]
                refine lv_aload_n hx hb dX4_make_170 rfl (lv_at hl 3 rfl) ?_
                refine va_get (D := (dC, dI)) (ci := 4) (v := .int (nI us)) (C := RX4) (T := TX4) (N := 18) hx hb hts in_X4 hown hK hP 0 rfl rfl 3 (by decide) lk_1 (fun _ h9 => h9) rfl dX4_make_171 ?_
                refine lv_istore (lv' := [(6, .int (nI us)), (4, .long (lN (sz + n))), (3, .int (nI 0)), (2, .int (nI sz)), (0, .ref (a 0)), (1, .int (nI n))]) hx hb dX4_make_174 hl (by decide) rfl (fun ls hl => ?_)
                refine lp_world (σ := Nat × (Nat → Nat) × (Nat → Nat)) (fun ⟨k, f, g⟩ => 0 ≤ k ∧ k ≤ us ∧ f = shf pl k us ∧ g = shf ln k us) (fun ⟨k, f, g⟩ => k) (fun ⟨k, f, g⟩ => [(6, .int (nI k)), (4, .long (lN (sz + n))), (3, .int (nI 0)), (2, .int (nI sz)), (0, .ref (a 0)), (1, .int (nI n))]) (fun ⟨k, f, g⟩ => mw cI a sz sz us kp ga gl cs mem f g km ks kt ku kl kn cd wt) ?_ ((us, pl, ln)) (⟨by omega, Nat.le_refl _, by rw [shf_0], by rw [shf_0]⟩) (hP) (hD) hS (lv_sub hl [0, 1, 2, 3, 4, 5] rfl)
                intro ⟨k, f, g⟩ hI ih H locs ls hP hD hS hl
                have hl : lv_has ls 7 [(6, .int (nI k)), (4, .long (lN (sz + n))), (3, .int (nI 0)), (2, .int (nI sz)), (0, .ref (a 0)), (1, .int (nI n))] := hl
                have hP : va_P (dC, dI) vwCl (mw cI a sz sz us kp ga gl cs mem f g km ks kt ku kl kn cd wt) H := hP
                have hD : va_D A (mw cI a sz sz us kp ga gl cs mem f g km ks kt ku kl kn cd wt) := hD
                have hI : 0 ≤ k ∧ k ≤ us ∧ f = shf pl k us ∧ g = shf ln k us := hI
                obtain ⟨hk1, hk2, hf, hg⟩ := hI
                have ih_176 := ih
                refine lv_iload hx hb dX4_make_176 (lv_at hl 0 rfl) ?_
                refine lv_iload_n hx hb dX4_make_178 rfl (lv_at hl 2 rfl) ?_
                refine lv_icmp_le (tgt := 220) hx hb dX4_make_179 (by decide) (fun c_179 => ?_) (fun c_179 => ?_)
                · have c_179 : k ≤ 0 := (nI_leI (a := k) (b := 0) (by omega) (by omega)).mp c_179
                  refine lv_aload_n hx hb dX4_make_220 rfl (lv_at hl 4 rfl) ?_
                  refine va_get (D := (dC, dI)) (ci := 4) (v := .ref (a 2)) (C := RX4) (T := TX4) (N := 18) hx hb hts in_X4 hown hK hP 0 rfl rfl 4 (by decide) lk_7 (fun _ h9 => h9) rfl dX4_make_221 ?_
                  refine lv_iload_n hx hb dX4_make_224 rfl (lv_at hl 2 rfl) ?_
                  refine lv_iload_n hx hb dX4_make_225 rfl (lv_at hl 3 rfl) ?_
                  refine va_iast hx hb hK hP hD hS 2 0 rfl rfl (vp_in_nI (by omega) (by omega)) dX4_make_226 (fun H locs hP hD hS => ?_)
                  rw [nf_up (by omega)] at hP hD
                  have hP : va_P (dC, dI) vwCl (mw cI a sz sz us kp ga gl cs mem (va_up f 0 sz) g km ks kt ku kl kn cd wt) H := hP
                  have hD : va_D A (mw cI a sz sz us kp ga gl cs mem (va_up f 0 sz) g km ks kt ku kl kn cd wt) := hD
                  refine lv_aload_n hx hb dX4_make_227 rfl (lv_at hl 4 rfl) ?_
                  refine va_get (D := (dC, dI)) (ci := 4) (v := .ref (a 3)) (C := RX4) (T := TX4) (N := 18) hx hb hts in_X4 hown hK hP 0 rfl rfl 5 (by decide) lk_8 (fun _ h9 => h9) rfl dX4_make_228 ?_
                  refine lv_iload_n hx hb dX4_make_231 rfl (lv_at hl 2 rfl) ?_
                  refine lv_iload_n hx hb dX4_make_232 rfl (lv_at hl 5 rfl) ?_
                  refine va_iast hx hb hK hP hD hS 3 0 rfl rfl (vp_in_nI (by omega) (by omega)) dX4_make_233 (fun H locs hP hD hS => ?_)
                  rw [nf_up (by omega)] at hP hD
                  have hP : va_P (dC, dI) vwCl (mw cI a sz sz us kp ga gl cs mem (va_up f 0 sz) (va_up g 0 n) km ks kt ku kl kn cd wt) H := hP
                  have hD : va_D A (mw cI a sz sz us kp ga gl cs mem (va_up f 0 sz) (va_up g 0 n) km ks kt ku kl kn cd wt) := hD
                  refine lv_aload_n hx hb dX4_make_234 rfl (lv_at hl 4 rfl) ?_
                  refine lv_dup hx hb dX4_make_235 rfl ?_
                  refine va_get (D := (dC, dI)) (ci := 4) (v := .int (nI us)) (C := RX4) (T := TX4) (N := 18) hx hb hts in_X4 hown hK hP 0 rfl rfl 3 (by decide) lk_1 (fun _ h9 => h9) rfl dX4_make_236 ?_
                  refine lv_iconst (v := (nI 1)) hx hb dX4_make_239 (by decide) ?_
                  refine lv_iadd hx hb dX4_make_240 ?_
                  refine tpi (nI_add _ _) ?_
                  refine va_put (D := (dC, dI)) (ci := 4) (v := .int (nI (us + 1))) (ty := .int) (C := RX4) (T := TX4) (N := 18) hx hb hts in_X4 tyX4 tyX4_ok nmX4 hown hK hP hD hS 0 rfl rfl 3 (by decide) lk_1 (fun _ h9 => h9) rfl (by decide +kernel) rfl rfl (Nat.le_of_ble_eq_true rfl) dX4_make_241 (fun H locs hP hD hS => ?_)
                  have hP : va_P (dC, dI) vwCl (mw cI a sz sz (us + 1) kp ga gl cs mem (va_up f 0 sz) (va_up g 0 n) km ks kt ku kl kn cd wt) H := hP
                  have hD : va_D A (mw cI a sz sz (us + 1) kp ga gl cs mem (va_up f 0 sz) (va_up g 0 n) km ks kt ku kl kn cd wt) := hD
                  refine lv_iload_n hx hb dX4_make_244 rfl (lv_at hl 3 rfl) ?_
                  have e_sz : sz = mkZ sz st us pl ln (nI n) := by unfold mkZ; rw [if_pos hO, hcl, hmk, ← hG]
                  have e_st : sz = mkS sz st us pl ln (nI n) := by unfold mkS; rw [if_pos ⟨hO, by omega⟩]
                  have e_us : us + 1 = mkU sz st us pl ln (nI n) := by unfold mkU; rw [if_pos hO]
                  have e_mem : mem = mkM sz st us pl ln mem (nI n) := by unfold mkM; rw [if_pos hO, hcl, hmk, ← hG, Nat.sub_self, zr_0]
                  have e_pl : va_up f 0 sz = mkQ sz st us pl ln (nI n) := by unfold mkQ ins; rw [if_pos hO, hcl, hmk, hfit, hf, show k = 0 by omega]
                  have e_ln : va_up g 0 n = mkL sz st us pl ln (nI n) := by unfold mkL ins; rw [if_pos hO, hcl, hfit, hg, show k = 0 by omega]
                  have hP : va_P (dC, dI) vwCl (mw cI a (mkZ sz st us pl ln (nI n)) (mkS sz st us pl ln (nI n)) (mkU sz st us pl ln (nI n)) kp ga gl cs (mkM sz st us pl ln mem (nI n)) (mkQ sz st us pl ln (nI n)) (mkL sz st us pl ln (nI n)) km ks kt ku kl kn cd wt) H := by rw [← e_sz, ← e_st, ← e_us, ← e_mem, ← e_pl, ← e_ln]; exact hP
                  have hD : va_D A (mw cI a (mkZ sz st us pl ln (nI n)) (mkS sz st us pl ln (nI n)) (mkU sz st us pl ln (nI n)) kp ga gl cs (mkM sz st us pl ln mem (nI n)) (mkQ sz st us pl ln (nI n)) (mkL sz st us pl ln (nI n)) km ks kt ku kl kn cd wt) := by rw [← e_sz, ← e_st, ← e_us, ← e_mem, ← e_pl, ← e_ln]; exact hD
                  exact W.iret (v := (nI sz)) hx hb hr (fun t ht hW => ⟨⟨(nI sz), (), rfl, (show (nI sz) = mkR sz st us pl ln (nI n) from by unfold mkR; rw [if_neg (fun q => absurd ((nI_ltI n_n (by omega)).mp q) (by omega)), if_neg (by omega), hcl, if_neg (by rw [hmk]; omega), hmk]), by rw [ht]; exact hP, va_K.moved hW.alike hK, hD⟩, hS.F ht⟩) hS.2.2 dX4_make_245
                · have c_179 : ¬ k ≤ 0 := fun q => c_179 ((nI_leI (a := k) (b := 0) (by omega) (by omega)).mpr q)
                  refine lv_aload_n hx hb dX4_make_182 rfl (lv_at hl 4 rfl) ?_
                  refine va_get (D := (dC, dI)) (ci := 4) (v := .ref (a 2)) (C := RX4) (T := TX4) (N := 18) hx hb hts in_X4 hown hK hP 0 rfl rfl 4 (by decide) lk_7 (fun _ h9 => h9) rfl dX4_make_183 ?_
                  refine lv_iload hx hb dX4_make_186 (lv_at hl 0 rfl) ?_
                  refine lv_aload_n hx hb dX4_make_188 rfl (lv_at hl 4 rfl) ?_
                  refine va_get (D := (dC, dI)) (ci := 4) (v := .ref (a 2)) (C := RX4) (T := TX4) (N := 18) hx hb hts in_X4 hown hK hP 0 rfl rfl 4 (by decide) lk_7 (fun _ h9 => h9) rfl dX4_make_189 ?_
                  refine lv_iload hx hb dX4_make_192 (lv_at hl 0 rfl) ?_
                  refine lv_iconst (v := (nI 1)) hx hb dX4_make_194 (by decide) ?_
                  refine lv_isub hx hb dX4_make_195 ?_
                  refine tpi (pk_sub (by omega)) ?_
                  refine va_iald hx hb hK hP 2 0 rfl rfl (vp_in_nI (by omega) (by omega)) dX4_make_196 ?_
                  refine tpi (nf_at (by omega)) ?_
                  refine va_iast hx hb hK hP hD hS 2 0 rfl rfl (vp_in_nI (by omega) (by omega)) dX4_make_197 (fun H locs hP hD hS => ?_)
                  rw [nf_up (by omega)] at hP hD
                  have hP : va_P (dC, dI) vwCl (mw cI a sz sz us kp ga gl cs mem (va_up f k (f (k - 1))) g km ks kt ku kl kn cd wt) H := hP
                  have hD : va_D A (mw cI a sz sz us kp ga gl cs mem (va_up f k (f (k - 1))) g km ks kt ku kl kn cd wt) := hD
                  refine lv_aload_n hx hb dX4_make_198 rfl (lv_at hl 4 rfl) ?_
                  refine va_get (D := (dC, dI)) (ci := 4) (v := .ref (a 3)) (C := RX4) (T := TX4) (N := 18) hx hb hts in_X4 hown hK hP 0 rfl rfl 5 (by decide) lk_8 (fun _ h9 => h9) rfl dX4_make_199 ?_
                  refine lv_iload hx hb dX4_make_202 (lv_at hl 0 rfl) ?_
                  refine lv_aload_n hx hb dX4_make_204 rfl (lv_at hl 4 rfl) ?_
                  refine va_get (D := (dC, dI)) (ci := 4) (v := .ref (a 3)) (C := RX4) (T := TX4) (N := 18) hx hb hts in_X4 hown hK hP 0 rfl rfl 5 (by decide) lk_8 (fun _ h9 => h9) rfl dX4_make_205 ?_
                  refine lv_iload hx hb dX4_make_208 (lv_at hl 0 rfl) ?_
                  refine lv_iconst (v := (nI 1)) hx hb dX4_make_210 (by decide) ?_
                  refine lv_isub hx hb dX4_make_211 ?_
                  refine tpi (pk_sub (by omega)) ?_
                  refine va_iald hx hb hK hP 3 0 rfl rfl (vp_in_nI (by omega) (by omega)) dX4_make_212 ?_
                  refine tpi (nf_at (by omega)) ?_
                  refine va_iast hx hb hK hP hD hS 3 0 rfl rfl (vp_in_nI (by omega) (by omega)) dX4_make_213 (fun H locs hP hD hS => ?_)
                  rw [nf_up (by omega)] at hP hD
                  have hP : va_P (dC, dI) vwCl (mw cI a sz sz us kp ga gl cs mem (va_up f k (f (k - 1))) (va_up g k (g (k - 1))) km ks kt ku kl kn cd wt) H := hP
                  have hD : va_D A (mw cI a sz sz us kp ga gl cs mem (va_up f k (f (k - 1))) (va_up g k (g (k - 1))) km ks kt ku kl kn cd wt) := hD
                  refine lv_iinc (v := (nI (k - 1))) (lv' := [(6, .int (nI (k - 1))), (4, .long (lN (sz + n))), (3, .int (nI 0)), (2, .int (nI sz)), (0, .ref (a 0)), (1, .int (nI n))]) hx hb dX4_make_214 hl (k := 0) rfl (nI_dec (by omega)) (by decide) rfl (fun ls hl => ?_)
                  refine lv_goto (tgt := 176) hx hb dX4_make_217 (by decide) ?_
                  exact ih_176 (k - 1, va_up f k (f (k - 1)), va_up g k (g (k - 1))) (⟨by omega, by omega, by rw [hf, shf_s (by omega) hk2], by rw [hg, shf_s (by omega) hk2]⟩) (show (k - 1) < k by omega) H locs ls (hP) (hD) hS (lv_sub hl [0, 1, 2, 3, 4, 5] rfl)
              · have c_137 : 0 = us := (nI_eq (a := 0) (b := us) (by omega) (by omega)).mp c_137
                refine lv_lload hx hb dX4_make_140 (lv_at hl 0 rfl) ?_
                refine lv_aload_n hx hb dX4_make_142 rfl (lv_at hl 3 rfl) ?_
                refine va_get (D := (dC, dI)) (ci := 4) (v := .int (nI sz)) (C := RX4) (T := TX4) (N := 18) hx hb hts in_X4 hown hK hP 0 rfl rfl 1 (by decide) lk_2 (fun _ h9 => h9) rfl dX4_make_143 ?_
                refine lv_i2l (v := lN sz) hx hb dX4_make_146 (nI_l (by omega)) ?_
                refine W.lcmp hx hb dX4_make_147 ?_
                refine lv_if_le (tgt := 170) hx hb dX4_make_148 (by decide) (fun c_148 => ?_) (fun c_148 => ?_)
                · have c_148 : sz + n ≤ sz := (pk_lLE (a := sz + n) (b := sz) (by omega) (by omega)).mp ((lg_cmp_le _ _).mp c_148)
                  have hG : sz = mkG sz (sz + n) := by unfold mkG; rw [if_neg (by omega)]
                  refine lv_aload_n hx hb dX4_make_170 rfl (lv_at hl 3 rfl) ?_
                  refine va_get (D := (dC, dI)) (ci := 4) (v := .int (nI us)) (C := RX4) (T := TX4) (N := 18) hx hb hts in_X4 hown hK hP 0 rfl rfl 3 (by decide) lk_1 (fun _ h9 => h9) rfl dX4_make_171 ?_
                  refine lv_istore (lv' := [(6, .int (nI us)), (4, .long (lN (sz + n))), (3, .int (nI 0)), (2, .int (nI sz)), (0, .ref (a 0)), (1, .int (nI n))]) hx hb dX4_make_174 hl (by decide) rfl (fun ls hl => ?_)
                  refine lp_world (σ := Nat × (Nat → Nat) × (Nat → Nat)) (fun ⟨k, f, g⟩ => 0 ≤ k ∧ k ≤ us ∧ f = shf pl k us ∧ g = shf ln k us) (fun ⟨k, f, g⟩ => k) (fun ⟨k, f, g⟩ => [(6, .int (nI k)), (4, .long (lN (sz + n))), (3, .int (nI 0)), (2, .int (nI sz)), (0, .ref (a 0)), (1, .int (nI n))]) (fun ⟨k, f, g⟩ => mw cI a sz sz us kp ga gl cs mem f g km ks kt ku kl kn cd wt) ?_ ((us, pl, ln)) (⟨by omega, Nat.le_refl _, by rw [shf_0], by rw [shf_0]⟩) (hP) (hD) hS (lv_sub hl [0, 1, 2, 3, 4, 5] rfl)
                  intro ⟨k, f, g⟩ hI ih H locs ls hP hD hS hl
                  have hl : lv_has ls 7 [(6, .int (nI k)), (4, .long (lN (sz + n))), (3, .int (nI 0)), (2, .int (nI sz)), (0, .ref (a 0)), (1, .int (nI n))] := hl
                  have hP : va_P (dC, dI) vwCl (mw cI a sz sz us kp ga gl cs mem f g km ks kt ku kl kn cd wt) H := hP
                  have hD : va_D A (mw cI a sz sz us kp ga gl cs mem f g km ks kt ku kl kn cd wt) := hD
                  have hI : 0 ≤ k ∧ k ≤ us ∧ f = shf pl k us ∧ g = shf ln k us := hI
                  obtain ⟨hk1, hk2, hf, hg⟩ := hI
                  have ih_176 := ih
                  refine lv_iload hx hb dX4_make_176 (lv_at hl 0 rfl) ?_
                  refine lv_iload_n hx hb dX4_make_178 rfl (lv_at hl 2 rfl) ?_
                  refine lv_icmp_le (tgt := 220) hx hb dX4_make_179 (by decide) (fun c_179 => ?_) (fun c_179 => ?_)
                  · have c_179 : k ≤ 0 := (nI_leI (a := k) (b := 0) (by omega) (by omega)).mp c_179
                    refine lv_aload_n hx hb dX4_make_220 rfl (lv_at hl 4 rfl) ?_
                    refine va_get (D := (dC, dI)) (ci := 4) (v := .ref (a 2)) (C := RX4) (T := TX4) (N := 18) hx hb hts in_X4 hown hK hP 0 rfl rfl 4 (by decide) lk_7 (fun _ h9 => h9) rfl dX4_make_221 ?_
                    refine lv_iload_n hx hb dX4_make_224 rfl (lv_at hl 2 rfl) ?_
                    refine lv_iload_n hx hb dX4_make_225 rfl (lv_at hl 3 rfl) ?_
                    refine va_iast hx hb hK hP hD hS 2 0 rfl rfl (vp_in_nI (by omega) (by omega)) dX4_make_226 (fun H locs hP hD hS => ?_)
                    rw [nf_up (by omega)] at hP hD
                    have hP : va_P (dC, dI) vwCl (mw cI a sz sz us kp ga gl cs mem (va_up f 0 sz) g km ks kt ku kl kn cd wt) H := hP
                    have hD : va_D A (mw cI a sz sz us kp ga gl cs mem (va_up f 0 sz) g km ks kt ku kl kn cd wt) := hD
                    refine lv_aload_n hx hb dX4_make_227 rfl (lv_at hl 4 rfl) ?_
                    refine va_get (D := (dC, dI)) (ci := 4) (v := .ref (a 3)) (C := RX4) (T := TX4) (N := 18) hx hb hts in_X4 hown hK hP 0 rfl rfl 5 (by decide) lk_8 (fun _ h9 => h9) rfl dX4_make_228 ?_
                    refine lv_iload_n hx hb dX4_make_231 rfl (lv_at hl 2 rfl) ?_
                    refine lv_iload_n hx hb dX4_make_232 rfl (lv_at hl 5 rfl) ?_
                    refine va_iast hx hb hK hP hD hS 3 0 rfl rfl (vp_in_nI (by omega) (by omega)) dX4_make_233 (fun H locs hP hD hS => ?_)
                    rw [nf_up (by omega)] at hP hD
                    have hP : va_P (dC, dI) vwCl (mw cI a sz sz us kp ga gl cs mem (va_up f 0 sz) (va_up g 0 n) km ks kt ku kl kn cd wt) H := hP
                    have hD : va_D A (mw cI a sz sz us kp ga gl cs mem (va_up f 0 sz) (va_up g 0 n) km ks kt ku kl kn cd wt) := hD
                    refine lv_aload_n hx hb dX4_make_234 rfl (lv_at hl 4 rfl) ?_
                    refine lv_dup hx hb dX4_make_235 rfl ?_
                    refine va_get (D := (dC, dI)) (ci := 4) (v := .int (nI us)) (C := RX4) (T := TX4) (N := 18) hx hb hts in_X4 hown hK hP 0 rfl rfl 3 (by decide) lk_1 (fun _ h9 => h9) rfl dX4_make_236 ?_
                    refine lv_iconst (v := (nI 1)) hx hb dX4_make_239 (by decide) ?_
                    refine lv_iadd hx hb dX4_make_240 ?_
                    refine tpi (nI_add _ _) ?_
                    refine va_put (D := (dC, dI)) (ci := 4) (v := .int (nI (us + 1))) (ty := .int) (C := RX4) (T := TX4) (N := 18) hx hb hts in_X4 tyX4 tyX4_ok nmX4 hown hK hP hD hS 0 rfl rfl 3 (by decide) lk_1 (fun _ h9 => h9) rfl (by decide +kernel) rfl rfl (Nat.le_of_ble_eq_true rfl) dX4_make_241 (fun H locs hP hD hS => ?_)
                    have hP : va_P (dC, dI) vwCl (mw cI a sz sz (us + 1) kp ga gl cs mem (va_up f 0 sz) (va_up g 0 n) km ks kt ku kl kn cd wt) H := hP
                    have hD : va_D A (mw cI a sz sz (us + 1) kp ga gl cs mem (va_up f 0 sz) (va_up g 0 n) km ks kt ku kl kn cd wt) := hD
                    refine lv_iload_n hx hb dX4_make_244 rfl (lv_at hl 3 rfl) ?_
                    have e_sz : sz = mkZ sz st us pl ln (nI n) := by unfold mkZ; rw [if_pos hO, hcl, hmk, ← hG]
                    have e_st : sz = mkS sz st us pl ln (nI n) := by unfold mkS; rw [if_pos ⟨hO, by omega⟩]
                    have e_us : us + 1 = mkU sz st us pl ln (nI n) := by unfold mkU; rw [if_pos hO]
                    have e_mem : mem = mkM sz st us pl ln mem (nI n) := by unfold mkM; rw [if_pos hO, hcl, hmk, ← hG, Nat.sub_self, zr_0]
                    have e_pl : va_up f 0 sz = mkQ sz st us pl ln (nI n) := by unfold mkQ ins; rw [if_pos hO, hcl, hmk, hfit, hf, show k = 0 by omega]
                    have e_ln : va_up g 0 n = mkL sz st us pl ln (nI n) := by unfold mkL ins; rw [if_pos hO, hcl, hfit, hg, show k = 0 by omega]
                    have hP : va_P (dC, dI) vwCl (mw cI a (mkZ sz st us pl ln (nI n)) (mkS sz st us pl ln (nI n)) (mkU sz st us pl ln (nI n)) kp ga gl cs (mkM sz st us pl ln mem (nI n)) (mkQ sz st us pl ln (nI n)) (mkL sz st us pl ln (nI n)) km ks kt ku kl kn cd wt) H := by rw [← e_sz, ← e_st, ← e_us, ← e_mem, ← e_pl, ← e_ln]; exact hP
                    have hD : va_D A (mw cI a (mkZ sz st us pl ln (nI n)) (mkS sz st us pl ln (nI n)) (mkU sz st us pl ln (nI n)) kp ga gl cs (mkM sz st us pl ln mem (nI n)) (mkQ sz st us pl ln (nI n)) (mkL sz st us pl ln (nI n)) km ks kt ku kl kn cd wt) := by rw [← e_sz, ← e_st, ← e_us, ← e_mem, ← e_pl, ← e_ln]; exact hD
                    exact W.iret (v := (nI sz)) hx hb hr (fun t ht hW => ⟨⟨(nI sz), (), rfl, (show (nI sz) = mkR sz st us pl ln (nI n) from by unfold mkR; rw [if_neg (fun q => absurd ((nI_ltI n_n (by omega)).mp q) (by omega)), if_neg (by omega), hcl, if_neg (by rw [hmk]; omega), hmk]), by rw [ht]; exact hP, va_K.moved hW.alike hK, hD⟩, hS.F ht⟩) hS.2.2 dX4_make_245
                  · have c_179 : ¬ k ≤ 0 := fun q => c_179 ((nI_leI (a := k) (b := 0) (by omega) (by omega)).mpr q)
                    refine lv_aload_n hx hb dX4_make_182 rfl (lv_at hl 4 rfl) ?_
                    refine va_get (D := (dC, dI)) (ci := 4) (v := .ref (a 2)) (C := RX4) (T := TX4) (N := 18) hx hb hts in_X4 hown hK hP 0 rfl rfl 4 (by decide) lk_7 (fun _ h9 => h9) rfl dX4_make_183 ?_
                    refine lv_iload hx hb dX4_make_186 (lv_at hl 0 rfl) ?_
                    refine lv_aload_n hx hb dX4_make_188 rfl (lv_at hl 4 rfl) ?_
                    refine va_get (D := (dC, dI)) (ci := 4) (v := .ref (a 2)) (C := RX4) (T := TX4) (N := 18) hx hb hts in_X4 hown hK hP 0 rfl rfl 4 (by decide) lk_7 (fun _ h9 => h9) rfl dX4_make_189 ?_
                    refine lv_iload hx hb dX4_make_192 (lv_at hl 0 rfl) ?_
                    refine lv_iconst (v := (nI 1)) hx hb dX4_make_194 (by decide) ?_
                    refine lv_isub hx hb dX4_make_195 ?_
                    refine tpi (pk_sub (by omega)) ?_
                    refine va_iald hx hb hK hP 2 0 rfl rfl (vp_in_nI (by omega) (by omega)) dX4_make_196 ?_
                    refine tpi (nf_at (by omega)) ?_
                    refine va_iast hx hb hK hP hD hS 2 0 rfl rfl (vp_in_nI (by omega) (by omega)) dX4_make_197 (fun H locs hP hD hS => ?_)
                    rw [nf_up (by omega)] at hP hD
                    have hP : va_P (dC, dI) vwCl (mw cI a sz sz us kp ga gl cs mem (va_up f k (f (k - 1))) g km ks kt ku kl kn cd wt) H := hP
                    have hD : va_D A (mw cI a sz sz us kp ga gl cs mem (va_up f k (f (k - 1))) g km ks kt ku kl kn cd wt) := hD
                    refine lv_aload_n hx hb dX4_make_198 rfl (lv_at hl 4 rfl) ?_
                    refine va_get (D := (dC, dI)) (ci := 4) (v := .ref (a 3)) (C := RX4) (T := TX4) (N := 18) hx hb hts in_X4 hown hK hP 0 rfl rfl 5 (by decide) lk_8 (fun _ h9 => h9) rfl dX4_make_199 ?_
                    refine lv_iload hx hb dX4_make_202 (lv_at hl 0 rfl) ?_
                    refine lv_aload_n hx hb dX4_make_204 rfl (lv_at hl 4 rfl) ?_
                    refine va_get (D := (dC, dI)) (ci := 4) (v := .ref (a 3)) (C := RX4) (T := TX4) (N := 18) hx hb hts in_X4 hown hK hP 0 rfl rfl 5 (by decide) lk_8 (fun _ h9 => h9) rfl dX4_make_205 ?_
                    refine lv_iload hx hb dX4_make_208 (lv_at hl 0 rfl) ?_
                    refine lv_iconst (v := (nI 1)) hx hb dX4_make_210 (by decide) ?_
                    refine lv_isub hx hb dX4_make_211 ?_
                    refine tpi (pk_sub (by omega)) ?_
                    refine va_iald hx hb hK hP 3 0 rfl rfl (vp_in_nI (by omega) (by omega)) dX4_make_212 ?_
                    refine tpi (nf_at (by omega)) ?_
                    refine va_iast hx hb hK hP hD hS 3 0 rfl rfl (vp_in_nI (by omega) (by omega)) dX4_make_213 (fun H locs hP hD hS => ?_)
                    rw [nf_up (by omega)] at hP hD
                    have hP : va_P (dC, dI) vwCl (mw cI a sz sz us kp ga gl cs mem (va_up f k (f (k - 1))) (va_up g k (g (k - 1))) km ks kt ku kl kn cd wt) H := hP
                    have hD : va_D A (mw cI a sz sz us kp ga gl cs mem (va_up f k (f (k - 1))) (va_up g k (g (k - 1))) km ks kt ku kl kn cd wt) := hD
                    refine lv_iinc (v := (nI (k - 1))) (lv' := [(6, .int (nI (k - 1))), (4, .long (lN (sz + n))), (3, .int (nI 0)), (2, .int (nI sz)), (0, .ref (a 0)), (1, .int (nI n))]) hx hb dX4_make_214 hl (k := 0) rfl (nI_dec (by omega)) (by decide) rfl (fun ls hl => ?_)
                    refine lv_goto (tgt := 176) hx hb dX4_make_217 (by decide) ?_
                    exact ih_176 (k - 1, va_up f k (f (k - 1)), va_up g k (g (k - 1))) (⟨by omega, by omega, by rw [hf, shf_s (by omega) hk2], by rw [hg, shf_s (by omega) hk2]⟩) (show (k - 1) < k by omega) H locs ls (hP) (hD) hS (lv_sub hl [0, 1, 2, 3, 4, 5] rfl)
                · have c_148 : ¬ sz + n ≤ sz := fun q => c_148 ((lg_cmp_le _ _).mpr ((pk_lLE (a := sz + n) (b := sz) (by omega) (by omega)).mpr q))
                  refine lv_aload_n hx hb dX4_make_151 rfl (lv_at hl 3 rfl) ?_
                  refine lv_lload hx hb dX4_make_152 (lv_at hl 0 rfl) ?_
                  refine lv_ldc2 (own := RX4) (v := (255)) hx hb hown lk_5 dX4_make_154 ?_
                  refine tpl (show (255 : Int64) = lN 255 from rfl) ?_
                  refine lv_ladd hx hb dX4_make_157 ?_
                  refine tpl (lN_add _ _) ?_
                  refine lv_ldc2 (own := RX4) (v := (256)) hx hb hown lk_6 dX4_make_158 ?_
                  refine tpl (show (256 : Int64) = lN 256 from rfl) ?_
                  refine lv_ldiv hx hb dX4_make_161 (by decide) ?_
                  refine tpl (pk_lDiv (by omega) (by decide) (by decide)) ?_
                  refine lv_ldc2 (own := RX4) (v := (256)) hx hb hown lk_6 dX4_make_162 ?_
                  refine tpl (show (256 : Int64) = lN 256 from rfl) ?_
                  refine lv_lmul hx hb dX4_make_165 ?_
                  refine tpl (lN_mul _ _) ?_
                  refine lv_l2i (v := nI (((sz + n + 255) / 256) * 256)) hx hb dX4_make_166 (lN_i _) ?_
                  have hFc := va_free (wc := mw cI a sz sz us kp ga gl cs mem pl ln km ks kt ku kl kn cd wt) hD hS hA [0, 1, 2, 3, 4, 5, 6, 7, 8, 9, 10, 11] rfl
                  refine va_callv (va_runV (As := [.int (nI (((sz + n + 255) / 256) * 256))]) (rest := []) ⟨hx, hb, hml, hown, hts⟩ (c_X4_grow l dC dI cI a sz sz us kp ga gl cs mem pl ln km ks kt ku kl kn cd wt H.size (((sz + n + 255) / 256) * 256) (by omega) (by omega)) (cwV 1 hts gX4_make_X4_grow rfl rfl rfl (by decide +kernel) ⟨Nat.le_of_ble_eq_true rfl, Nat.le_of_ble_eq_true rfl⟩) ⟨fun a9 U g9 mk9 q9 => by obtain ⟨q0, q1, qP, qK, qD⟩ := q9; exact ⟨q0, q1, qP, va_K.moved (u := U) (U := U.calling g9 mk9 a9) (Vm.Alike.refl U.vm) qK, qD⟩, va_recv hK hP (ci := 4) (q0 := 0) rfl rfl, fun U hU hW => ⟨rfl, by rw [hU], by rw [hU]; exact hP, va_K.moved hW.alike hK, hD.weaken (fun _ _ _ _ => trivial)⟩⟩ rfl rfl hl.1 rfl (lv_room (Nat.le_of_ble_eq_true rfl)) dX4_make_167 ⟨Nat.zero_le _, Nat.zero_le _⟩) hS (fun q _ h => hFc q h) hFc (fun u t H1 locs ht hvm hw hB hz1 hk1 hS => ?_)
                  obtain ⟨hP1, hK1, hD1⟩ := hB
                  rw [ht] at hP1
                  obtain ⟨hP, hD⟩ := va_join (wr := []) (w1 := mw cI a (((sz + n + 255) / 256) * 256) sz us kp ga gl cs (zr mem sz (((sz + n + 255) / 256) * 256 - sz)) pl ln km ks kt ku kl kn cd wt) hP hD [0, 1, 2, 3, 4, 5, 6, 7, 8, 9, 10, 11] [] rfl rfl (by decide) (by decide) hk1 hFc hP1 hD1
                  generalize H1 = H at hP hS ⊢
                  have hP : va_P (dC, dI) vwCl (mw cI a (((sz + n + 255) / 256) * 256) sz us kp ga gl cs (zr mem sz (((sz + n + 255) / 256) * 256 - sz)) pl ln km ks kt ku kl kn cd wt) H := hP
                  have hD : va_D A (mw cI a (((sz + n + 255) / 256) * 256) sz us kp ga gl cs (zr mem sz (((sz + n + 255) / 256) * 256 - sz)) pl ln km ks kt ku kl kn cd wt) := hD
                  have hG : (sz + n + 255) / 256 * 256 = mkG sz (sz + n) := by unfold mkG; rw [if_pos (by omega)]
                  refine lv_aload_n hx hb dX4_make_170 rfl (lv_at hl 3 rfl) ?_
                  refine va_get (D := (dC, dI)) (ci := 4) (v := .int (nI us)) (C := RX4) (T := TX4) (N := 18) hx hb hts in_X4 hown hK hP 0 rfl rfl 3 (by decide) lk_1 (fun _ h9 => h9) rfl dX4_make_171 ?_
                  refine lv_istore (lv' := [(6, .int (nI us)), (4, .long (lN (sz + n))), (3, .int (nI 0)), (2, .int (nI sz)), (0, .ref (a 0)), (1, .int (nI n))]) hx hb dX4_make_174 hl (by decide) rfl (fun ls hl => ?_)
                  refine lp_world (σ := Nat × (Nat → Nat) × (Nat → Nat)) (fun ⟨k, f, g⟩ => 0 ≤ k ∧ k ≤ us ∧ f = shf pl k us ∧ g = shf ln k us) (fun ⟨k, f, g⟩ => k) (fun ⟨k, f, g⟩ => [(6, .int (nI k)), (4, .long (lN (sz + n))), (3, .int (nI 0)), (2, .int (nI sz)), (0, .ref (a 0)), (1, .int (nI n))]) (fun ⟨k, f, g⟩ => mw cI a (((sz + n + 255) / 256) * 256) sz us kp ga gl cs (zr mem sz (((sz + n + 255) / 256) * 256 - sz)) f g km ks kt ku kl kn cd wt) ?_ ((us, pl, ln)) (⟨by omega, Nat.le_refl _, by rw [shf_0], by rw [shf_0]⟩) (hP) (hD) hS (lv_sub hl [0, 1, 2, 3, 4, 5] rfl)
                  intro ⟨k, f, g⟩ hI ih H locs ls hP hD hS hl
                  have hl : lv_has ls 7 [(6, .int (nI k)), (4, .long (lN (sz + n))), (3, .int (nI 0)), (2, .int (nI sz)), (0, .ref (a 0)), (1, .int (nI n))] := hl
                  have hP : va_P (dC, dI) vwCl (mw cI a (((sz + n + 255) / 256) * 256) sz us kp ga gl cs (zr mem sz (((sz + n + 255) / 256) * 256 - sz)) f g km ks kt ku kl kn cd wt) H := hP
                  have hD : va_D A (mw cI a (((sz + n + 255) / 256) * 256) sz us kp ga gl cs (zr mem sz (((sz + n + 255) / 256) * 256 - sz)) f g km ks kt ku kl kn cd wt) := hD
                  have hI : 0 ≤ k ∧ k ≤ us ∧ f = shf pl k us ∧ g = shf ln k us := hI
                  obtain ⟨hk1, hk2, hf, hg⟩ := hI
                  have ih_176 := ih
                  refine lv_iload hx hb dX4_make_176 (lv_at hl 0 rfl) ?_
                  refine lv_iload_n hx hb dX4_make_178 rfl (lv_at hl 2 rfl) ?_
                  refine lv_icmp_le (tgt := 220) hx hb dX4_make_179 (by decide) (fun c_179 => ?_) (fun c_179 => ?_)
                  · have c_179 : k ≤ 0 := (nI_leI (a := k) (b := 0) (by omega) (by omega)).mp c_179
                    refine lv_aload_n hx hb dX4_make_220 rfl (lv_at hl 4 rfl) ?_
                    refine va_get (D := (dC, dI)) (ci := 4) (v := .ref (a 2)) (C := RX4) (T := TX4) (N := 18) hx hb hts in_X4 hown hK hP 0 rfl rfl 4 (by decide) lk_7 (fun _ h9 => h9) rfl dX4_make_221 ?_
                    refine lv_iload_n hx hb dX4_make_224 rfl (lv_at hl 2 rfl) ?_
                    refine lv_iload_n hx hb dX4_make_225 rfl (lv_at hl 3 rfl) ?_
                    refine va_iast hx hb hK hP hD hS 2 0 rfl rfl (vp_in_nI (by omega) (by omega)) dX4_make_226 (fun H locs hP hD hS => ?_)
                    rw [nf_up (by omega)] at hP hD
                    have hP : va_P (dC, dI) vwCl (mw cI a (((sz + n + 255) / 256) * 256) sz us kp ga gl cs (zr mem sz (((sz + n + 255) / 256) * 256 - sz)) (va_up f 0 sz) g km ks kt ku kl kn cd wt) H := hP
                    have hD : va_D A (mw cI a (((sz + n + 255) / 256) * 256) sz us kp ga gl cs (zr mem sz (((sz + n + 255) / 256) * 256 - sz)) (va_up f 0 sz) g km ks kt ku kl kn cd wt) := hD
                    refine lv_aload_n hx hb dX4_make_227 rfl (lv_at hl 4 rfl) ?_
                    refine va_get (D := (dC, dI)) (ci := 4) (v := .ref (a 3)) (C := RX4) (T := TX4) (N := 18) hx hb hts in_X4 hown hK hP 0 rfl rfl 5 (by decide) lk_8 (fun _ h9 => h9) rfl dX4_make_228 ?_
                    refine lv_iload_n hx hb dX4_make_231 rfl (lv_at hl 2 rfl) ?_
                    refine lv_iload_n hx hb dX4_make_232 rfl (lv_at hl 5 rfl) ?_
                    refine va_iast hx hb hK hP hD hS 3 0 rfl rfl (vp_in_nI (by omega) (by omega)) dX4_make_233 (fun H locs hP hD hS => ?_)
                    rw [nf_up (by omega)] at hP hD
                    have hP : va_P (dC, dI) vwCl (mw cI a (((sz + n + 255) / 256) * 256) sz us kp ga gl cs (zr mem sz (((sz + n + 255) / 256) * 256 - sz)) (va_up f 0 sz) (va_up g 0 n) km ks kt ku kl kn cd wt) H := hP
                    have hD : va_D A (mw cI a (((sz + n + 255) / 256) * 256) sz us kp ga gl cs (zr mem sz (((sz + n + 255) / 256) * 256 - sz)) (va_up f 0 sz) (va_up g 0 n) km ks kt ku kl kn cd wt) := hD
                    refine lv_aload_n hx hb dX4_make_234 rfl (lv_at hl 4 rfl) ?_
                    refine lv_dup hx hb dX4_make_235 rfl ?_
                    refine va_get (D := (dC, dI)) (ci := 4) (v := .int (nI us)) (C := RX4) (T := TX4) (N := 18) hx hb hts in_X4 hown hK hP 0 rfl rfl 3 (by decide) lk_1 (fun _ h9 => h9) rfl dX4_make_236 ?_
                    refine lv_iconst (v := (nI 1)) hx hb dX4_make_239 (by decide) ?_
                    refine lv_iadd hx hb dX4_make_240 ?_
                    refine tpi (nI_add _ _) ?_
                    refine va_put (D := (dC, dI)) (ci := 4) (v := .int (nI (us + 1))) (ty := .int) (C := RX4) (T := TX4) (N := 18) hx hb hts in_X4 tyX4 tyX4_ok nmX4 hown hK hP hD hS 0 rfl rfl 3 (by decide) lk_1 (fun _ h9 => h9) rfl (by decide +kernel) rfl rfl (Nat.le_of_ble_eq_true rfl) dX4_make_241 (fun H locs hP hD hS => ?_)
                    have hP : va_P (dC, dI) vwCl (mw cI a (((sz + n + 255) / 256) * 256) sz (us + 1) kp ga gl cs (zr mem sz (((sz + n + 255) / 256) * 256 - sz)) (va_up f 0 sz) (va_up g 0 n) km ks kt ku kl kn cd wt) H := hP
                    have hD : va_D A (mw cI a (((sz + n + 255) / 256) * 256) sz (us + 1) kp ga gl cs (zr mem sz (((sz + n + 255) / 256) * 256 - sz)) (va_up f 0 sz) (va_up g 0 n) km ks kt ku kl kn cd wt) := hD
                    refine lv_iload_n hx hb dX4_make_244 rfl (lv_at hl 3 rfl) ?_
                    have e_sz : ((sz + n + 255) / 256) * 256 = mkZ sz st us pl ln (nI n) := by unfold mkZ; rw [if_pos hO, hcl, hmk, ← hG]
                    have e_st : sz = mkS sz st us pl ln (nI n) := by unfold mkS; rw [if_pos ⟨hO, by omega⟩]
                    have e_us : us + 1 = mkU sz st us pl ln (nI n) := by unfold mkU; rw [if_pos hO]
                    have e_mem : zr mem sz (((sz + n + 255) / 256) * 256 - sz) = mkM sz st us pl ln mem (nI n) := by unfold mkM; rw [if_pos hO, hcl, hmk, ← hG]
                    have e_pl : va_up f 0 sz = mkQ sz st us pl ln (nI n) := by unfold mkQ ins; rw [if_pos hO, hcl, hmk, hfit, hf, show k = 0 by omega]
                    have e_ln : va_up g 0 n = mkL sz st us pl ln (nI n) := by unfold mkL ins; rw [if_pos hO, hcl, hfit, hg, show k = 0 by omega]
                    have hP : va_P (dC, dI) vwCl (mw cI a (mkZ sz st us pl ln (nI n)) (mkS sz st us pl ln (nI n)) (mkU sz st us pl ln (nI n)) kp ga gl cs (mkM sz st us pl ln mem (nI n)) (mkQ sz st us pl ln (nI n)) (mkL sz st us pl ln (nI n)) km ks kt ku kl kn cd wt) H := by rw [← e_sz, ← e_st, ← e_us, ← e_mem, ← e_pl, ← e_ln]; exact hP
                    have hD : va_D A (mw cI a (mkZ sz st us pl ln (nI n)) (mkS sz st us pl ln (nI n)) (mkU sz st us pl ln (nI n)) kp ga gl cs (mkM sz st us pl ln mem (nI n)) (mkQ sz st us pl ln (nI n)) (mkL sz st us pl ln (nI n)) km ks kt ku kl kn cd wt) := by rw [← e_sz, ← e_st, ← e_us, ← e_mem, ← e_pl, ← e_ln]; exact hD
                    exact W.iret (v := (nI sz)) hx hb hr (fun t ht hW => ⟨⟨(nI sz), (), rfl, (show (nI sz) = mkR sz st us pl ln (nI n) from by unfold mkR; rw [if_neg (fun q => absurd ((nI_ltI n_n (by omega)).mp q) (by omega)), if_neg (by omega), hcl, if_neg (by rw [hmk]; omega), hmk]), by rw [ht]; exact hP, va_K.moved hW.alike hK, hD⟩, hS.F ht⟩) hS.2.2 dX4_make_245
                  · have c_179 : ¬ k ≤ 0 := fun q => c_179 ((nI_leI (a := k) (b := 0) (by omega) (by omega)).mpr q)
                    refine lv_aload_n hx hb dX4_make_182 rfl (lv_at hl 4 rfl) ?_
                    refine va_get (D := (dC, dI)) (ci := 4) (v := .ref (a 2)) (C := RX4) (T := TX4) (N := 18) hx hb hts in_X4 hown hK hP 0 rfl rfl 4 (by decide) lk_7 (fun _ h9 => h9) rfl dX4_make_183 ?_
                    refine lv_iload hx hb dX4_make_186 (lv_at hl 0 rfl) ?_
                    refine lv_aload_n hx hb dX4_make_188 rfl (lv_at hl 4 rfl) ?_
                    refine va_get (D := (dC, dI)) (ci := 4) (v := .ref (a 2)) (C := RX4) (T := TX4) (N := 18) hx hb hts in_X4 hown hK hP 0 rfl rfl 4 (by decide) lk_7 (fun _ h9 => h9) rfl dX4_make_189 ?_
                    refine lv_iload hx hb dX4_make_192 (lv_at hl 0 rfl) ?_
                    refine lv_iconst (v := (nI 1)) hx hb dX4_make_194 (by decide) ?_
                    refine lv_isub hx hb dX4_make_195 ?_
                    refine tpi (pk_sub (by omega)) ?_
                    refine va_iald hx hb hK hP 2 0 rfl rfl (vp_in_nI (by omega) (by omega)) dX4_make_196 ?_
                    refine tpi (nf_at (by omega)) ?_
                    refine va_iast hx hb hK hP hD hS 2 0 rfl rfl (vp_in_nI (by omega) (by omega)) dX4_make_197 (fun H locs hP hD hS => ?_)
                    rw [nf_up (by omega)] at hP hD
                    have hP : va_P (dC, dI) vwCl (mw cI a (((sz + n + 255) / 256) * 256) sz us kp ga gl cs (zr mem sz (((sz + n + 255) / 256) * 256 - sz)) (va_up f k (f (k - 1))) g km ks kt ku kl kn cd wt) H := hP
                    have hD : va_D A (mw cI a (((sz + n + 255) / 256) * 256) sz us kp ga gl cs (zr mem sz (((sz + n + 255) / 256) * 256 - sz)) (va_up f k (f (k - 1))) g km ks kt ku kl kn cd wt) := hD
                    refine lv_aload_n hx hb dX4_make_198 rfl (lv_at hl 4 rfl) ?_
                    refine va_get (D := (dC, dI)) (ci := 4) (v := .ref (a 3)) (C := RX4) (T := TX4) (N := 18) hx hb hts in_X4 hown hK hP 0 rfl rfl 5 (by decide) lk_8 (fun _ h9 => h9) rfl dX4_make_199 ?_
                    refine lv_iload hx hb dX4_make_202 (lv_at hl 0 rfl) ?_
                    refine lv_aload_n hx hb dX4_make_204 rfl (lv_at hl 4 rfl) ?_
                    refine va_get (D := (dC, dI)) (ci := 4) (v := .ref (a 3)) (C := RX4) (T := TX4) (N := 18) hx hb hts in_X4 hown hK hP 0 rfl rfl 5 (by decide) lk_8 (fun _ h9 => h9) rfl dX4_make_205 ?_
                    refine lv_iload hx hb dX4_make_208 (lv_at hl 0 rfl) ?_
                    refine lv_iconst (v := (nI 1)) hx hb dX4_make_210 (by decide) ?_
                    refine lv_isub hx hb dX4_make_211 ?_
                    refine tpi (pk_sub (by omega)) ?_
                    refine va_iald hx hb hK hP 3 0 rfl rfl (vp_in_nI (by omega) (by omega)) dX4_make_212 ?_
                    refine tpi (nf_at (by omega)) ?_
                    refine va_iast hx hb hK hP hD hS 3 0 rfl rfl (vp_in_nI (by omega) (by omega)) dX4_make_213 (fun H locs hP hD hS => ?_)
                    rw [nf_up (by omega)] at hP hD
                    have hP : va_P (dC, dI) vwCl (mw cI a (((sz + n + 255) / 256) * 256) sz us kp ga gl cs (zr mem sz (((sz + n + 255) / 256) * 256 - sz)) (va_up f k (f (k - 1))) (va_up g k (g (k - 1))) km ks kt ku kl kn cd wt) H := hP
                    have hD : va_D A (mw cI a (((sz + n + 255) / 256) * 256) sz us kp ga gl cs (zr mem sz (((sz + n + 255) / 256) * 256 - sz)) (va_up f k (f (k - 1))) (va_up g k (g (k - 1))) km ks kt ku kl kn cd wt) := hD
                    refine lv_iinc (v := (nI (k - 1))) (lv' := [(6, .int (nI (k - 1))), (4, .long (lN (sz + n))), (3, .int (nI 0)), (2, .int (nI sz)), (0, .ref (a 0)), (1, .int (nI n))]) hx hb dX4_make_214 hl (k := 0) rfl (nI_dec (by omega)) (by decide) rfl (fun ls hl => ?_)
                    refine lv_goto (tgt := 176) hx hb dX4_make_217 (by decide) ?_
                    exact ih_176 (k - 1, va_up f k (f (k - 1)), va_up g k (g (k - 1))) (⟨by omega, by omega, by rw [hf, shf_s (by omega) hk2], by rw [hg, shf_s (by omega) hk2]⟩) (show (k - 1) < k by omega) H locs ls (hP) (hD) hS (lv_sub hl [0, 1, 2, 3, 4, 5] rfl)
          · have c_112 : ¬ sz + n ≤ 8192 := fun q => c_112 ((lg_cmp_le _ _).mpr ((pk_lLE (a := sz + n) (b := 8192) (by omega) (by omega)).mpr q))
            refine lv_iconst (v := (nI 0)) hx hb dX4_make_115 (by decide) ?_
            have e_sz : sz = mkZ sz st us pl ln (nI n) := by unfold mkZ; rw [if_neg (fun q => q.2.2 (by rw [hcl, hmk]; omega))]
            have e_st : st = mkS sz st us pl ln (nI n) := by unfold mkS; rw [if_neg (fun q => (fun q => q.2.2 (by rw [hcl, hmk]; omega)) q.1)]
            have e_us : us = mkU sz st us pl ln (nI n) := by unfold mkU; rw [if_neg (fun q => q.2.2 (by rw [hcl, hmk]; omega))]
            have e_mem : mem = mkM sz st us pl ln mem (nI n) := by unfold mkM; rw [if_neg (fun q => q.2.2 (by rw [hcl, hmk]; omega))]
            have e_pl : pl = mkQ sz st us pl ln (nI n) := by unfold mkQ; rw [if_neg (fun q => q.2.2 (by rw [hcl, hmk]; omega))]
            have e_ln : ln = mkL sz st us pl ln (nI n) := by unfold mkL; rw [if_neg (fun q => q.2.2 (by rw [hcl, hmk]; omega))]
            have hP : va_P (dC, dI) vwCl (mw cI a (mkZ sz st us pl ln (nI n)) (mkS sz st us pl ln (nI n)) (mkU sz st us pl ln (nI n)) kp ga gl cs (mkM sz st us pl ln mem (nI n)) (mkQ sz st us pl ln (nI n)) (mkL sz st us pl ln (nI n)) km ks kt ku kl kn cd wt) s.heap := by rw [← e_sz, ← e_st, ← e_us, ← e_mem, ← e_pl, ← e_ln]; exact hP
            have hD : va_D A (mw cI a (mkZ sz st us pl ln (nI n)) (mkS sz st us pl ln (nI n)) (mkU sz st us pl ln (nI n)) kp ga gl cs (mkM sz st us pl ln mem (nI n)) (mkQ sz st us pl ln (nI n)) (mkL sz st us pl ln (nI n)) km ks kt ku kl kn cd wt) := by rw [← e_sz, ← e_st, ← e_us, ← e_mem, ← e_pl, ← e_ln]; exact hD
            exact W.iret (v := (nI 0)) hx hb hr (fun t ht hW => ⟨⟨(nI 0), (), rfl, (show (nI 0) = mkR sz st us pl ln (nI n) from by unfold mkR; rw [if_neg (fun q => absurd ((nI_ltI n_n (by omega)).mp q) (by omega)), if_neg (by omega), hcl, if_pos (by rw [hmk]; omega)]), by rw [ht]; exact hP, va_K.moved hW.alike hK, hD⟩, hS.F ht⟩) hS.2.2 dX4_make_116
        · have c_44 : ¬ us ≤ 0 := fun q => c_44 ((nZ_le (by omega)).mpr q)
          omega
    · have c_14 : us = 64 := (nI_eq (a := us) (b := 64) (by omega) (by omega)).mp c_14
      refine lv_iconst (v := (nI 0)) hx hb dX4_make_17 (by decide) ?_
      have e_sz : sz = mkZ sz st us pl ln (nI n) := by unfold mkZ; rw [if_neg (fun q => q.2.1 (by omega))]
      have e_st : st = mkS sz st us pl ln (nI n) := by unfold mkS; rw [if_neg (fun q => (fun q => q.2.1 (by omega)) q.1)]
      have e_us : us = mkU sz st us pl ln (nI n) := by unfold mkU; rw [if_neg (fun q => q.2.1 (by omega))]
      have e_mem : mem = mkM sz st us pl ln mem (nI n) := by unfold mkM; rw [if_neg (fun q => q.2.1 (by omega))]
      have e_pl : pl = mkQ sz st us pl ln (nI n) := by unfold mkQ; rw [if_neg (fun q => q.2.1 (by omega))]
      have e_ln : ln = mkL sz st us pl ln (nI n) := by unfold mkL; rw [if_neg (fun q => q.2.1 (by omega))]
      have hP : va_P (dC, dI) vwCl (mw cI a (mkZ sz st us pl ln (nI n)) (mkS sz st us pl ln (nI n)) (mkU sz st us pl ln (nI n)) kp ga gl cs (mkM sz st us pl ln mem (nI n)) (mkQ sz st us pl ln (nI n)) (mkL sz st us pl ln (nI n)) km ks kt ku kl kn cd wt) s.heap := by rw [← e_sz, ← e_st, ← e_us, ← e_mem, ← e_pl, ← e_ln]; exact hP
      have hD : va_D A (mw cI a (mkZ sz st us pl ln (nI n)) (mkS sz st us pl ln (nI n)) (mkU sz st us pl ln (nI n)) kp ga gl cs (mkM sz st us pl ln mem (nI n)) (mkQ sz st us pl ln (nI n)) (mkL sz st us pl ln (nI n)) km ks kt ku kl kn cd wt) := by rw [← e_sz, ← e_st, ← e_us, ← e_mem, ← e_pl, ← e_ln]; exact hD
      exact W.iret (v := (nI 0)) hx hb hr (fun t ht hW => ⟨⟨(nI 0), (), rfl, (show (nI 0) = mkR sz st us pl ln (nI n) from by unfold mkR; rw [if_neg (fun q => absurd ((nI_ltI n_n (by omega)).mp q) (by omega)), if_pos (by omega)]), by rw [ht]; exact hP, va_K.moved hW.alike hK, hD⟩, hS.F ht⟩) hS.2.2 dX4_make_18
  · refine lv_bipush (v := ((-11))) hx hb dX4_make_5 (by decide) ?_
    have e_sz : sz = mkZ sz st us pl ln p1 := by unfold mkZ; rw [if_neg (fun q => q.1 (Int32.not_le.mp c_2))]
    have e_st : st = mkS sz st us pl ln p1 := by unfold mkS; rw [if_neg (fun q => (fun q => q.1 (Int32.not_le.mp c_2)) q.1)]
    have e_us : us = mkU sz st us pl ln p1 := by unfold mkU; rw [if_neg (fun q => q.1 (Int32.not_le.mp c_2))]
    have e_mem : mem = mkM sz st us pl ln mem p1 := by unfold mkM; rw [if_neg (fun q => q.1 (Int32.not_le.mp c_2))]
    have e_pl : pl = mkQ sz st us pl ln p1 := by unfold mkQ; rw [if_neg (fun q => q.1 (Int32.not_le.mp c_2))]
    have e_ln : ln = mkL sz st us pl ln p1 := by unfold mkL; rw [if_neg (fun q => q.1 (Int32.not_le.mp c_2))]
    have hP : va_P (dC, dI) vwCl (mw cI a (mkZ sz st us pl ln p1) (mkS sz st us pl ln p1) (mkU sz st us pl ln p1) kp ga gl cs (mkM sz st us pl ln mem p1) (mkQ sz st us pl ln p1) (mkL sz st us pl ln p1) km ks kt ku kl kn cd wt) s.heap := by rw [← e_sz, ← e_st, ← e_us, ← e_mem, ← e_pl, ← e_ln]; exact hP
    have hD : va_D A (mw cI a (mkZ sz st us pl ln p1) (mkS sz st us pl ln p1) (mkU sz st us pl ln p1) kp ga gl cs (mkM sz st us pl ln mem p1) (mkQ sz st us pl ln p1) (mkL sz st us pl ln p1) km ks kt ku kl kn cd wt) := by rw [← e_sz, ← e_st, ← e_us, ← e_mem, ← e_pl, ← e_ln]; exact hD
    exact W.iret (v := ((-11))) hx hb hr (fun t ht hW => ⟨⟨((-11)), (), rfl, (show ((-11)) = mkR sz st us pl ln p1 from by unfold mkR; rw [if_pos (Int32.not_le.mp c_2)]), by rw [ht]; exact hP, va_K.moved hW.alike hK, hD⟩, hS.F ht⟩) hS.2.2 dX4_make_7
