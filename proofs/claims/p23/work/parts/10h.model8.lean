set_option maxHeartbeats 4000000 in
set_option maxRecDepth 100000 in
theorem c_X4_protect (l : Launch) (dC : Nat → ClassId) (dI : Nat → Nat → Nat) (cI : ClassId) (a : Nat → Nat) (sz st us kp ga gl cs : Nat) (mem pl ln km ks kt ku kl kn cd wt : Nat → Nat) (zz : Nat) (p1 p2 : Int32)  : Met l yX4_protect wsX4_protect ({ frames := 0, cells := 0, slots := 0, locals := 0 }) (va_Pc [.ref (a 0), .int p1, .int p2] (fun U => U.heap.size = zz ∧ va_P (dC, dI) vwCl (mw cI a sz st us kp ga gl cs mem pl ln km ks kt ku kl kn cd wt) U.heap ∧ va_K (dC, dI) vwCl [(cI, .int)] U ∧ va_D (fun _ => True) (mw cI a sz st us kp ga gl cs mem pl ln km ks kt ku kl kn cd wt))) (va_Qi (fun r _ => r = pcR p1 p2) (fun (_ : Unit) t => va_P (dC, dI) vwCl (mw cI a sz st us kp (pcA ga p1 p2) (pcL gl p1 p2) cs mem pl ln km ks kt ku kl kn cd wt) t.heap ∧ va_K (dC, dI) vwCl [(cI, .int)] t ∧ va_D (va_A (mw cI a sz st us kp ga gl cs mem pl ln km ks kt ku kl kn cd wt) zz) (mw cI a sz st us kp (pcA ga p1 p2) (pcL gl p1 p2) cs mem pl ln km ks kt ku kl kn cd wt)) (va_A (mw cI a sz st us kp ga gl cs mem pl ln km ks kt ku kl kn cd wt) zz)) 0 0 (va_A (mw cI a sz st us kp ga gl cs mem pl ln km ks kt ku kl kn cd wt) zz) := by
  refine Met.ofW (cc := cX4_protect) (maxL := 3) (ret := (some .int)) (by decide) rfl ?_
  intro p e s m args below meth c s₁ B hml hv
  obtain ⟨rfl, hsz, hP, hK, hD0⟩ := hv
  have hx := B.exec
  have hb := B.bytes
  have hr := B.returns
  have hts := atoms_spec (ws := wsX4_protect) B.pre
  have hown : s.vm.findClass RX4 = some m.cls := findClass_of_methodNamed B.named
  have hlocks := B.notSynchronized
  subst hsz
  have hD := hD0.self (sz := s.heap.size)
  generalize hAe : va_A (mw cI a sz st us kp ga gl cs mem pl ln km ks kt ku kl kn cd wt) s.heap.size = A at hD ⊢
  have hA : ∀ q : Nat, s.heap.size ≤ q → A q := fun q h => by rw [← hAe]; exact Or.inr h
  have hS : va_S A s.heap s.heap [] := va_S.rf
  have hP : va_P (dC, dI) vwCl (mw cI a sz st us kp ga gl cs mem pl ln km ks kt ku kl kn cd wt) s.heap := hP
  have in_X4 : ∀ w ∈ wsX40, w ∈ wsX4_protect := fun _ h => List.mem_cons_of_mem _ (List.mem_append_right _ h)
  have lk_1 := hts (.fieldLink RX4 115 "GlulxHeapModel" "guardAt" "I") (List.mem_of_getElem? (i := 1) rfl)
  have lk_2 := hts (.fieldLink RX4 118 "GlulxHeapModel" "guardLong" "I") (List.mem_of_getElem? (i := 2) rfl)
  have hl := lv_entry ([.ref (a 0), .int p1, .int p2]) (n := 3) (Nat.le_of_ble_eq_true rfl)
  rw [lg_entry_eq]
  generalize (lg_sl ([.ref (a 0), .int p1, .int p2]) ++ List.replicate (3 - (lg_sl ([.ref (a 0), .int p1, .int p2])).length) Slot.unset).toArray = ls at hl ⊢
  have hl : lv_has ls 3 [(0, .ref (a 0)), (1, .int p1), (2, .int p2)] := hl
  refine lv_iload_n hx hb dX4_protect_0 rfl (lv_at hl 1 rfl) ?_
  refine lv_if_lt (tgt := 22) hx hb dX4_protect_1 (by decide) (fun c_1 => ?_) (fun c_1 => ?_)
  · refine lv_bipush (v := ((-11))) hx hb dX4_protect_22 (by decide) ?_
    have e_ga : ga = pcA ga p1 p2 := by unfold pcA; rw [if_pos (by first | exact Or.inl c_1 | exact Or.inr (Or.inl c_5) | exact Or.inr (Or.inr (Or.inl ((nI_ltI (by omega) (by omega)).mpr c_12))) | exact Or.inr (Or.inr (Or.inr ((nI_ltI (by omega) (by omega)).mpr (by omega)))))]
    have e_gl : gl = pcL gl p1 p2 := by unfold pcL; rw [if_pos (by first | exact Or.inl c_1 | exact Or.inr (Or.inl c_5) | exact Or.inr (Or.inr (Or.inl ((nI_ltI (by omega) (by omega)).mpr c_12))) | exact Or.inr (Or.inr (Or.inr ((nI_ltI (by omega) (by omega)).mpr (by omega)))))]
    have hP : va_P (dC, dI) vwCl (mw cI a sz st us kp (pcA ga p1 p2) (pcL gl p1 p2) cs mem pl ln km ks kt ku kl kn cd wt) s.heap := by rw [← e_ga, ← e_gl]; exact hP
    have hD : va_D A (mw cI a sz st us kp (pcA ga p1 p2) (pcL gl p1 p2) cs mem pl ln km ks kt ku kl kn cd wt) := by rw [← e_ga, ← e_gl]; exact hD
    exact W.iret (v := ((-11))) hx hb hr (fun t ht hW => ⟨⟨((-11)), (), rfl, (show ((-11)) = pcR p1 p2 from by unfold pcR; rw [if_pos (by first | exact Or.inl c_1 | exact Or.inr (Or.inl c_5) | exact Or.inr (Or.inr (Or.inl ((nI_ltI (by omega) (by omega)).mpr c_12))) | exact Or.inr (Or.inr (Or.inr ((nI_ltI (by omega) (by omega)).mpr (by omega)))))]), by rw [ht]; exact hP, va_K.moved hW.alike hK, hD⟩, hS.F ht⟩) hS.2.2 dX4_protect_24
  · obtain ⟨x, n_x, rfl⟩ := nI_of c_1
    refine lv_iload_n hx hb dX4_protect_4 rfl (lv_at hl 2 rfl) ?_
    refine lv_if_lt (tgt := 22) hx hb dX4_protect_5 (by decide) (fun c_5 => ?_) (fun c_5 => ?_)
    · refine lv_bipush (v := ((-11))) hx hb dX4_protect_22 (by decide) ?_
      have e_ga : ga = pcA ga (nI x) p2 := by unfold pcA; rw [if_pos (by first | exact Or.inl c_1 | exact Or.inr (Or.inl c_5) | exact Or.inr (Or.inr (Or.inl ((nI_ltI (by omega) (by omega)).mpr c_12))) | exact Or.inr (Or.inr (Or.inr ((nI_ltI (by omega) (by omega)).mpr (by omega)))))]
      have e_gl : gl = pcL gl (nI x) p2 := by unfold pcL; rw [if_pos (by first | exact Or.inl c_1 | exact Or.inr (Or.inl c_5) | exact Or.inr (Or.inr (Or.inl ((nI_ltI (by omega) (by omega)).mpr c_12))) | exact Or.inr (Or.inr (Or.inr ((nI_ltI (by omega) (by omega)).mpr (by omega)))))]
      have hP : va_P (dC, dI) vwCl (mw cI a sz st us kp (pcA ga (nI x) p2) (pcL gl (nI x) p2) cs mem pl ln km ks kt ku kl kn cd wt) s.heap := by rw [← e_ga, ← e_gl]; exact hP
      have hD : va_D A (mw cI a sz st us kp (pcA ga (nI x) p2) (pcL gl (nI x) p2) cs mem pl ln km ks kt ku kl kn cd wt) := by rw [← e_ga, ← e_gl]; exact hD
      exact W.iret (v := ((-11))) hx hb hr (fun t ht hW => ⟨⟨((-11)), (), rfl, (show ((-11)) = pcR (nI x) p2 from by unfold pcR; rw [if_pos (by first | exact Or.inl c_1 | exact Or.inr (Or.inl c_5) | exact Or.inr (Or.inr (Or.inl ((nI_ltI (by omega) (by omega)).mpr c_12))) | exact Or.inr (Or.inr (Or.inr ((nI_ltI (by omega) (by omega)).mpr (by omega)))))]), by rw [ht]; exact hP, va_K.moved hW.alike hK, hD⟩, hS.F ht⟩) hS.2.2 dX4_protect_24
    · obtain ⟨y, n_y, rfl⟩ := nI_of c_5
      refine lv_iload_n hx hb dX4_protect_8 rfl (lv_at hl 1 rfl) ?_
      refine lv_sipush (v := (nI 8192)) hx hb dX4_protect_9 (by decide) ?_
      refine lv_icmp_gt (tgt := 22) hx hb dX4_protect_12 (by decide) (fun c_12 => ?_) (fun c_12 => ?_)
      · have c_12 : 8192 < x := (nI_ltI (a := 8192) (b := x) (by omega) (by omega)).mp c_12
        refine lv_bipush (v := ((-11))) hx hb dX4_protect_22 (by decide) ?_
        have e_ga : ga = pcA ga (nI x) (nI y) := by unfold pcA; rw [if_pos (by first | exact Or.inl c_1 | exact Or.inr (Or.inl c_5) | exact Or.inr (Or.inr (Or.inl ((nI_ltI (by omega) (by omega)).mpr c_12))) | exact Or.inr (Or.inr (Or.inr ((nI_ltI (by omega) (by omega)).mpr (by omega)))))]
        have e_gl : gl = pcL gl (nI x) (nI y) := by unfold pcL; rw [if_pos (by first | exact Or.inl c_1 | exact Or.inr (Or.inl c_5) | exact Or.inr (Or.inr (Or.inl ((nI_ltI (by omega) (by omega)).mpr c_12))) | exact Or.inr (Or.inr (Or.inr ((nI_ltI (by omega) (by omega)).mpr (by omega)))))]
        have hP : va_P (dC, dI) vwCl (mw cI a sz st us kp (pcA ga (nI x) (nI y)) (pcL gl (nI x) (nI y)) cs mem pl ln km ks kt ku kl kn cd wt) s.heap := by rw [← e_ga, ← e_gl]; exact hP
        have hD : va_D A (mw cI a sz st us kp (pcA ga (nI x) (nI y)) (pcL gl (nI x) (nI y)) cs mem pl ln km ks kt ku kl kn cd wt) := by rw [← e_ga, ← e_gl]; exact hD
        exact W.iret (v := ((-11))) hx hb hr (fun t ht hW => ⟨⟨((-11)), (), rfl, (show ((-11)) = pcR (nI x) (nI y) from by unfold pcR; rw [if_pos (by first | exact Or.inl c_1 | exact Or.inr (Or.inl c_5) | exact Or.inr (Or.inr (Or.inl ((nI_ltI (by omega) (by omega)).mpr c_12))) | exact Or.inr (Or.inr (Or.inr ((nI_ltI (by omega) (by omega)).mpr (by omega)))))]), by rw [ht]; exact hP, va_K.moved hW.alike hK, hD⟩, hS.F ht⟩) hS.2.2 dX4_protect_24
      · have c_12 : ¬ 8192 < x := fun q => c_12 ((nI_ltI (a := 8192) (b := x) (by omega) (by omega)).mpr q)
        refine lv_iload_n hx hb dX4_protect_15 rfl (lv_at hl 2 rfl) ?_
        refine lv_sipush (v := (nI 8192)) hx hb dX4_protect_16 (by decide) ?_
        refine lv_icmp_le (tgt := 25) hx hb dX4_protect_19 (by decide) (fun c_19 => ?_) (fun c_19 => ?_)
        · have c_19 : y ≤ 8192 := (nI_leI (a := y) (b := 8192) (by omega) (by omega)).mp c_19
          have hnb := pbad_no (x := x) (y := y) (by omega) (by omega)
          refine lv_aload_n hx hb dX4_protect_25 rfl (lv_at hl 0 rfl) ?_
          refine lv_iload_n hx hb dX4_protect_26 rfl (lv_at hl 2 rfl) ?_
          refine lv_if_ne (tgt := 34) hx hb dX4_protect_27 (by decide) (fun c_27 => ?_) (fun c_27 => ?_)
          · have c_27 : ¬ y = 0 := fun q => c_27 ((nZ_eq (by omega)).mpr q)
            refine lv_iload_n hx hb dX4_protect_34 rfl (lv_at hl 1 rfl) ?_
            refine va_put (D := (dC, dI)) (ci := 4) (v := .int (nI x)) (ty := .int) (C := RX4) (T := TX4) (N := 18) hx hb hts in_X4 tyX4 tyX4_ok nmX4 hown hK hP hD hS 0 rfl rfl 13 (by decide) lk_1 (fun _ h9 => h9) rfl (by decide +kernel) rfl rfl (Nat.le_of_ble_eq_true rfl) dX4_protect_35 (fun H locs hP hD hS => ?_)
            have hP : va_P (dC, dI) vwCl (mw cI a sz st us kp x gl cs mem pl ln km ks kt ku kl kn cd wt) H := hP
            have hD : va_D A (mw cI a sz st us kp x gl cs mem pl ln km ks kt ku kl kn cd wt) := hD
            refine lv_aload_n hx hb dX4_protect_38 rfl (lv_at hl 0 rfl) ?_
            refine lv_iload_n hx hb dX4_protect_39 rfl (lv_at hl 2 rfl) ?_
            refine va_put (D := (dC, dI)) (ci := 4) (v := .int (nI y)) (ty := .int) (C := RX4) (T := TX4) (N := 18) hx hb hts in_X4 tyX4 tyX4_ok nmX4 hown hK hP hD hS 0 rfl rfl 14 (by decide) lk_2 (fun _ h9 => h9) rfl (by decide +kernel) rfl rfl (Nat.le_of_ble_eq_true rfl) dX4_protect_40 (fun H locs hP hD hS => ?_)
            have hP : va_P (dC, dI) vwCl (mw cI a sz st us kp x y cs mem pl ln km ks kt ku kl kn cd wt) H := hP
            have hD : va_D A (mw cI a sz st us kp x y cs mem pl ln km ks kt ku kl kn cd wt) := hD
            refine lv_iconst (v := (nI 1)) hx hb dX4_protect_43 (by decide) ?_
            have e_ga : x = pcA ga (nI x) (nI y) := by unfold pcA; rw [if_neg hnb, show cl (nI y) = y from nI_clamp n_y, if_neg (by omega), show cl (nI x) = x from nI_clamp n_x]
            have e_gl : y = pcL gl (nI x) (nI y) := by unfold pcL; rw [if_neg hnb, show cl (nI y) = y from nI_clamp n_y]
            have hP : va_P (dC, dI) vwCl (mw cI a sz st us kp (pcA ga (nI x) (nI y)) (pcL gl (nI x) (nI y)) cs mem pl ln km ks kt ku kl kn cd wt) H := by rw [← e_ga, ← e_gl]; exact hP
            have hD : va_D A (mw cI a sz st us kp (pcA ga (nI x) (nI y)) (pcL gl (nI x) (nI y)) cs mem pl ln km ks kt ku kl kn cd wt) := by rw [← e_ga, ← e_gl]; exact hD
            exact W.iret (v := (nI 1)) hx hb hr (fun t ht hW => ⟨⟨(nI 1), (), rfl, (show (nI 1) = pcR (nI x) (nI y) from by unfold pcR; rw [if_neg hnb]), by rw [ht]; exact hP, va_K.moved hW.alike hK, hD⟩, hS.F ht⟩) hS.2.2 dX4_protect_44
          · have c_27 : y = 0 := (nZ_eq (by omega)).mp c_27
            refine lv_iconst (v := (nI 0)) hx hb dX4_protect_30 (by decide) ?_
            refine lv_goto (tgt := 35) hx hb dX4_protect_31 (by decide) ?_
            refine va_put (D := (dC, dI)) (ci := 4) (v := .int (nI 0)) (ty := .int) (C := RX4) (T := TX4) (N := 18) hx hb hts in_X4 tyX4 tyX4_ok nmX4 hown hK hP hD hS 0 rfl rfl 13 (by decide) lk_1 (fun _ h9 => h9) rfl (by decide +kernel) rfl rfl (Nat.le_of_ble_eq_true rfl) dX4_protect_35 (fun H locs hP hD hS => ?_)
            have hP : va_P (dC, dI) vwCl (mw cI a sz st us kp 0 gl cs mem pl ln km ks kt ku kl kn cd wt) H := hP
            have hD : va_D A (mw cI a sz st us kp 0 gl cs mem pl ln km ks kt ku kl kn cd wt) := hD
            refine lv_aload_n hx hb dX4_protect_38 rfl (lv_at hl 0 rfl) ?_
            refine lv_iload_n hx hb dX4_protect_39 rfl (lv_at hl 2 rfl) ?_
            refine va_put (D := (dC, dI)) (ci := 4) (v := .int (nI y)) (ty := .int) (C := RX4) (T := TX4) (N := 18) hx hb hts in_X4 tyX4 tyX4_ok nmX4 hown hK hP hD hS 0 rfl rfl 14 (by decide) lk_2 (fun _ h9 => h9) rfl (by decide +kernel) rfl rfl (Nat.le_of_ble_eq_true rfl) dX4_protect_40 (fun H locs hP hD hS => ?_)
            have hP : va_P (dC, dI) vwCl (mw cI a sz st us kp 0 y cs mem pl ln km ks kt ku kl kn cd wt) H := hP
            have hD : va_D A (mw cI a sz st us kp 0 y cs mem pl ln km ks kt ku kl kn cd wt) := hD
            refine lv_iconst (v := (nI 1)) hx hb dX4_protect_43 (by decide) ?_
            have e_ga : 0 = pcA ga (nI x) (nI y) := by unfold pcA; rw [if_neg hnb, show cl (nI y) = y from nI_clamp n_y, if_pos (by omega)]
            have e_gl : y = pcL gl (nI x) (nI y) := by unfold pcL; rw [if_neg hnb, show cl (nI y) = y from nI_clamp n_y]
            have hP : va_P (dC, dI) vwCl (mw cI a sz st us kp (pcA ga (nI x) (nI y)) (pcL gl (nI x) (nI y)) cs mem pl ln km ks kt ku kl kn cd wt) H := by rw [← e_ga, ← e_gl]; exact hP
            have hD : va_D A (mw cI a sz st us kp (pcA ga (nI x) (nI y)) (pcL gl (nI x) (nI y)) cs mem pl ln km ks kt ku kl kn cd wt) := by rw [← e_ga, ← e_gl]; exact hD
            exact W.iret (v := (nI 1)) hx hb hr (fun t ht hW => ⟨⟨(nI 1), (), rfl, (show (nI 1) = pcR (nI x) (nI y) from by unfold pcR; rw [if_neg hnb]), by rw [ht]; exact hP, va_K.moved hW.alike hK, hD⟩, hS.F ht⟩) hS.2.2 dX4_protect_44
        · have c_19 : ¬ y ≤ 8192 := fun q => c_19 ((nI_leI (a := y) (b := 8192) (by omega) (by omega)).mpr q)
          refine lv_bipush (v := ((-11))) hx hb dX4_protect_22 (by decide) ?_
          have e_ga : ga = pcA ga (nI x) (nI y) := by unfold pcA; rw [if_pos (by first | exact Or.inl c_1 | exact Or.inr (Or.inl c_5) | exact Or.inr (Or.inr (Or.inl ((nI_ltI (by omega) (by omega)).mpr c_12))) | exact Or.inr (Or.inr (Or.inr ((nI_ltI (by omega) (by omega)).mpr (by omega)))))]
          have e_gl : gl = pcL gl (nI x) (nI y) := by unfold pcL; rw [if_pos (by first | exact Or.inl c_1 | exact Or.inr (Or.inl c_5) | exact Or.inr (Or.inr (Or.inl ((nI_ltI (by omega) (by omega)).mpr c_12))) | exact Or.inr (Or.inr (Or.inr ((nI_ltI (by omega) (by omega)).mpr (by omega)))))]
          have hP : va_P (dC, dI) vwCl (mw cI a sz st us kp (pcA ga (nI x) (nI y)) (pcL gl (nI x) (nI y)) cs mem pl ln km ks kt ku kl kn cd wt) s.heap := by rw [← e_ga, ← e_gl]; exact hP
          have hD : va_D A (mw cI a sz st us kp (pcA ga (nI x) (nI y)) (pcL gl (nI x) (nI y)) cs mem pl ln km ks kt ku kl kn cd wt) := by rw [← e_ga, ← e_gl]; exact hD
          exact W.iret (v := ((-11))) hx hb hr (fun t ht hW => ⟨⟨((-11)), (), rfl, (show ((-11)) = pcR (nI x) (nI y) from by unfold pcR; rw [if_pos (by first | exact Or.inl c_1 | exact Or.inr (Or.inl c_5) | exact Or.inr (Or.inr (Or.inl ((nI_ltI (by omega) (by omega)).mpr c_12))) | exact Or.inr (Or.inr (Or.inr ((nI_ltI (by omega) (by omega)).mpr (by omega)))))]), by rw [ht]; exact hP, va_K.moved hW.alike hK, hD⟩, hS.F ht⟩) hS.2.2 dX4_protect_24
set_option maxHeartbeats 4000000 in
set_option maxRecDepth 100000 in
theorem c_X4_code (l : Launch) (dC : Nat → ClassId) (dI : Nat → Nat → Nat) (cI : ClassId) (a : Nat → Nat) (sz st us kp ga gl cs : Nat) (mem pl ln km ks kt ku kl kn cd wt : Nat → Nat) (p1 : Int32) (gc : cs ≤ 20000) : Met l yX4_code wsX4_code ({ frames := 0, cells := 0, slots := 0, locals := 0 }) (va_Pc [.ref (a 0), .int p1] (fun U => va_P (dC, dI) vwCl (mw cI a sz st us kp ga gl cs mem pl ln km ks kt ku kl kn cd wt) U.heap ∧ va_K (dC, dI) vwCl [(cI, .int)] U)) (vp_Si (fun r => r = cdR cs cd p1)) 0 0 (fun _ => False) := by
  refine Met.ofW (cc := cX4_code) (maxL := 2) (ret := (some .int)) (by decide) rfl ?_
  intro p e s m args below meth c s₁ B hml hv
  obtain ⟨rfl, hP, hK⟩ := hv
  have hx := B.exec
  have hb := B.bytes
  have hr := B.returns
  have hts := atoms_spec (ws := wsX4_code) B.pre
  have hown : s.vm.findClass RX4 = some m.cls := findClass_of_methodNamed B.named
  have hlocks := B.notSynchronized
  have in_X4 : ∀ w ∈ wsX40, w ∈ wsX4_code := fun _ h => List.mem_cons_of_mem _ (List.mem_append_right _ h)
  have lk_1 := hts (.fieldLink RX4 128 "GlulxHeapModel" "codeSize" "I") (List.mem_of_getElem? (i := 1) rfl)
  have lk_2 := hts (.fieldLink RX4 38 "GlulxHeapModel" "code" "[I") (List.mem_of_getElem? (i := 2) rfl)
  have hl := lv_entry ([.ref (a 0), .int p1]) (n := 2) (Nat.le_of_ble_eq_true rfl)
  rw [lg_entry_eq]
  generalize (lg_sl ([.ref (a 0), .int p1]) ++ List.replicate (2 - (lg_sl ([.ref (a 0), .int p1])).length) Slot.unset).toArray = ls at hl ⊢
  have hl : lv_has ls 2 [(0, .ref (a 0)), (1, .int p1)] := hl
  refine lv_iload_n hx hb dX4_code_0 rfl (lv_at hl 1 rfl) ?_
  refine lv_if_lt (tgt := 21) hx hb dX4_code_1 (by decide) (fun c_1 => ?_) (fun c_1 => ?_)
  · refine lv_iconst (v := ((-1))) hx hb dX4_code_21 (by decide) ?_
    exact W.iret (v := ((-1))) hx hb hr (fun t ht hW => ⟨((-1)), rfl, (show ((-1)) = cdR cs cd p1 from by unfold cdR; rw [if_pos (Or.inl c_1)]), ht⟩) (fun _ h9 => absurd h9 List.not_mem_nil) dX4_code_22
  · obtain ⟨x, n_x, rfl⟩ := nI_of c_1
    refine lv_iload_n hx hb dX4_code_4 rfl (lv_at hl 1 rfl) ?_
    refine lv_aload_n hx hb dX4_code_5 rfl (lv_at hl 0 rfl) ?_
    refine va_get (D := (dC, dI)) (ci := 4) (v := .int (nI cs)) (C := RX4) (T := TX4) (N := 18) hx hb hts in_X4 hown hK hP 0 rfl rfl 16 (by decide) lk_1 (fun _ h9 => h9) rfl dX4_code_6 ?_
    refine lv_icmp_ge (tgt := 21) hx hb dX4_code_9 (by decide) (fun c_9 => ?_) (fun c_9 => ?_)
    · have c_9 : cs ≤ x := (nI_leI (a := cs) (b := x) (by omega) (by omega)).mp c_9
      refine lv_iconst (v := ((-1))) hx hb dX4_code_21 (by decide) ?_
      exact W.iret (v := ((-1))) hx hb hr (fun t ht hW => ⟨((-1)), rfl, (show ((-1)) = cdR cs cd (nI x) from by unfold cdR; rw [if_pos (Or.inr (by rw [show cl (nI x) = x from nI_clamp n_x]; omega))]), ht⟩) (fun _ h9 => absurd h9 List.not_mem_nil) dX4_code_22
    · have c_9 : ¬ cs ≤ x := fun q => c_9 ((nI_leI (a := cs) (b := x) (by omega) (by omega)).mpr q)
      refine lv_aload_n hx hb dX4_code_12 rfl (lv_at hl 0 rfl) ?_
      refine va_get (D := (dC, dI)) (ci := 4) (v := .ref (a 10)) (C := RX4) (T := TX4) (N := 18) hx hb hts in_X4 hown hK hP 0 rfl rfl 15 (by decide) lk_2 (fun _ h9 => h9) rfl dX4_code_13 ?_
      refine lv_iload_n hx hb dX4_code_16 rfl (lv_at hl 1 rfl) ?_
      refine va_iald hx hb hK hP 10 0 rfl rfl (vp_in_nI (by omega) (by omega)) dX4_code_17 ?_
      refine tpi (nf_at (by omega)) ?_
      refine lv_goto (tgt := 22) hx hb dX4_code_18 (by decide) ?_
      exact W.iret (v := (nI (cd x))) hx hb hr (fun t ht hW => ⟨(nI (cd x)), rfl, (show (nI (cd x)) = cdR cs cd (nI x) from by unfold cdR; rw [if_neg (fun q => q.elim c_1 (fun q => q (by rw [show cl (nI x) = x from nI_clamp n_x]; omega))), show cl (nI x) = x from nI_clamp n_x]), ht⟩) (fun _ h9 => absurd h9 List.not_mem_nil) dX4_code_22
set_option maxHeartbeats 4000000 in
set_option maxRecDepth 100000 in
theorem c_X4_poke (l : Launch) (dC : Nat → ClassId) (dI : Nat → Nat → Nat) (cI : ClassId) (a : Nat → Nat) (sz st us kp ga gl cs : Nat) (mem pl ln km ks kt ku kl kn cd wt : Nat → Nat) (zz : Nat) (p1 p2 : Int32) (gc : cs ≤ 20000) : Met l yX4_poke wsX4_poke ({ frames := 0, cells := 0, slots := 0, locals := 0 }) (va_Pc [.ref (a 0), .int p1, .int p2] (fun U => U.heap.size = zz ∧ va_P (dC, dI) vwCl (mw cI a sz st us kp ga gl cs mem pl ln km ks kt ku kl kn cd wt) U.heap ∧ va_K (dC, dI) vwCl [(cI, .int)] U ∧ va_D (fun _ => True) (mw cI a sz st us kp ga gl cs mem pl ln km ks kt ku kl kn cd wt))) (va_Qi (fun r _ => r = pkR cs cd p1 p2) (fun (_ : Unit) t => va_P (dC, dI) vwCl (mw cI a sz st us kp ga gl cs mem pl ln km ks kt ku kl kn (pkC cs cd p1 p2) wt) t.heap ∧ va_K (dC, dI) vwCl [(cI, .int)] t ∧ va_D (va_A (mw cI a sz st us kp ga gl cs mem pl ln km ks kt ku kl kn cd wt) zz) (mw cI a sz st us kp ga gl cs mem pl ln km ks kt ku kl kn (pkC cs cd p1 p2) wt)) (va_A (mw cI a sz st us kp ga gl cs mem pl ln km ks kt ku kl kn cd wt) zz)) 0 0 (va_A (mw cI a sz st us kp ga gl cs mem pl ln km ks kt ku kl kn cd wt) zz) := by
  refine Met.ofW (cc := cX4_poke) (maxL := 4) (ret := (some .int)) (by decide) rfl ?_
  intro p e s m args below meth c s₁ B hml hv
  obtain ⟨rfl, hsz, hP, hK, hD0⟩ := hv
  have hx := B.exec
  have hb := B.bytes
  have hr := B.returns
  have hts := atoms_spec (ws := wsX4_poke) B.pre
  have hown : s.vm.findClass RX4 = some m.cls := findClass_of_methodNamed B.named
  have hlocks := B.notSynchronized
  subst hsz
  have hD := hD0.self (sz := s.heap.size)
  generalize hAe : va_A (mw cI a sz st us kp ga gl cs mem pl ln km ks kt ku kl kn cd wt) s.heap.size = A at hD ⊢
  have hA : ∀ q : Nat, s.heap.size ≤ q → A q := fun q h => by rw [← hAe]; exact Or.inr h
  have hS : va_S A s.heap s.heap [] := va_S.rf
  have hP : va_P (dC, dI) vwCl (mw cI a sz st us kp ga gl cs mem pl ln km ks kt ku kl kn cd wt) s.heap := hP
  have in_X4 : ∀ w ∈ wsX40, w ∈ wsX4_poke := fun _ h => List.mem_cons_of_mem _ (List.mem_append_right _ h)
  have lk_1 := hts (.fieldLink RX4 128 "GlulxHeapModel" "codeSize" "I") (List.mem_of_getElem? (i := 1) rfl)
  have lk_2 := hts (.fieldLink RX4 38 "GlulxHeapModel" "code" "[I") (List.mem_of_getElem? (i := 2) rfl)
  have hl := lv_entry ([.ref (a 0), .int p1, .int p2]) (n := 4) (Nat.le_of_ble_eq_true rfl)
  rw [lg_entry_eq]
  generalize (lg_sl ([.ref (a 0), .int p1, .int p2]) ++ List.replicate (4 - (lg_sl ([.ref (a 0), .int p1, .int p2])).length) Slot.unset).toArray = ls at hl ⊢
  have hl : lv_has ls 4 [(0, .ref (a 0)), (1, .int p1), (2, .int p2)] := hl
  refine lv_iload_n hx hb dX4_poke_0 rfl (lv_at hl 1 rfl) ?_
  refine lv_if_lt (tgt := 23) hx hb dX4_poke_1 (by decide) (fun c_1 => ?_) (fun c_1 => ?_)
  · refine lv_bipush (v := ((-11))) hx hb dX4_poke_23 (by decide) ?_
    have e_cd : cd = pkC cs cd p1 p2 := by unfold pkC; rw [if_pos (by first | exact Or.inl c_1 | exact Or.inr (Or.inl (by rw [show cl (nI x) = x from nI_clamp n_x]; omega)) | exact Or.inr (Or.inr (Or.inl c_13)) | exact Or.inr (Or.inr (Or.inr ((nI_ltI (by omega) (by omega)).mpr (by omega)))))]
    have hP : va_P (dC, dI) vwCl (mw cI a sz st us kp ga gl cs mem pl ln km ks kt ku kl kn (pkC cs cd p1 p2) wt) s.heap := by rw [← e_cd]; exact hP
    have hD : va_D A (mw cI a sz st us kp ga gl cs mem pl ln km ks kt ku kl kn (pkC cs cd p1 p2) wt) := by rw [← e_cd]; exact hD
    exact W.iret (v := ((-11))) hx hb hr (fun t ht hW => ⟨⟨((-11)), (), rfl, (show ((-11)) = pkR cs cd p1 p2 from by unfold pkR; rw [if_pos (by first | exact Or.inl c_1 | exact Or.inr (Or.inl (by rw [show cl (nI x) = x from nI_clamp n_x]; omega)) | exact Or.inr (Or.inr (Or.inl c_13)) | exact Or.inr (Or.inr (Or.inr ((nI_ltI (by omega) (by omega)).mpr (by omega)))))]), by rw [ht]; exact hP, va_K.moved hW.alike hK, hD⟩, hS.F ht⟩) hS.2.2 dX4_poke_25
  · obtain ⟨x, n_x, rfl⟩ := nI_of c_1
    refine lv_iload_n hx hb dX4_poke_4 rfl (lv_at hl 1 rfl) ?_
    refine lv_aload_n hx hb dX4_poke_5 rfl (lv_at hl 0 rfl) ?_
    refine va_get (D := (dC, dI)) (ci := 4) (v := .int (nI cs)) (C := RX4) (T := TX4) (N := 18) hx hb hts in_X4 hown hK hP 0 rfl rfl 16 (by decide) lk_1 (fun _ h9 => h9) rfl dX4_poke_6 ?_
    refine lv_icmp_ge (tgt := 23) hx hb dX4_poke_9 (by decide) (fun c_9 => ?_) (fun c_9 => ?_)
    · have c_9 : cs ≤ x := (nI_leI (a := cs) (b := x) (by omega) (by omega)).mp c_9
      refine lv_bipush (v := ((-11))) hx hb dX4_poke_23 (by decide) ?_
      have e_cd : cd = pkC cs cd (nI x) p2 := by unfold pkC; rw [if_pos (by first | exact Or.inl c_1 | exact Or.inr (Or.inl (by rw [show cl (nI x) = x from nI_clamp n_x]; omega)) | exact Or.inr (Or.inr (Or.inl c_13)) | exact Or.inr (Or.inr (Or.inr ((nI_ltI (by omega) (by omega)).mpr (by omega)))))]
      have hP : va_P (dC, dI) vwCl (mw cI a sz st us kp ga gl cs mem pl ln km ks kt ku kl kn (pkC cs cd (nI x) p2) wt) s.heap := by rw [← e_cd]; exact hP
      have hD : va_D A (mw cI a sz st us kp ga gl cs mem pl ln km ks kt ku kl kn (pkC cs cd (nI x) p2) wt) := by rw [← e_cd]; exact hD
      exact W.iret (v := ((-11))) hx hb hr (fun t ht hW => ⟨⟨((-11)), (), rfl, (show ((-11)) = pkR cs cd (nI x) p2 from by unfold pkR; rw [if_pos (by first | exact Or.inl c_1 | exact Or.inr (Or.inl (by rw [show cl (nI x) = x from nI_clamp n_x]; omega)) | exact Or.inr (Or.inr (Or.inl c_13)) | exact Or.inr (Or.inr (Or.inr ((nI_ltI (by omega) (by omega)).mpr (by omega)))))]), by rw [ht]; exact hP, va_K.moved hW.alike hK, hD⟩, hS.F ht⟩) hS.2.2 dX4_poke_25
    · have c_9 : ¬ cs ≤ x := fun q => c_9 ((nI_leI (a := cs) (b := x) (by omega) (by omega)).mpr q)
      refine lv_iload_n hx hb dX4_poke_12 rfl (lv_at hl 2 rfl) ?_
      refine lv_if_lt (tgt := 23) hx hb dX4_poke_13 (by decide) (fun c_13 => ?_) (fun c_13 => ?_)
      · refine lv_bipush (v := ((-11))) hx hb dX4_poke_23 (by decide) ?_
        have e_cd : cd = pkC cs cd (nI x) p2 := by unfold pkC; rw [if_pos (by first | exact Or.inl c_1 | exact Or.inr (Or.inl (by rw [show cl (nI x) = x from nI_clamp n_x]; omega)) | exact Or.inr (Or.inr (Or.inl c_13)) | exact Or.inr (Or.inr (Or.inr ((nI_ltI (by omega) (by omega)).mpr (by omega)))))]
        have hP : va_P (dC, dI) vwCl (mw cI a sz st us kp ga gl cs mem pl ln km ks kt ku kl kn (pkC cs cd (nI x) p2) wt) s.heap := by rw [← e_cd]; exact hP
        have hD : va_D A (mw cI a sz st us kp ga gl cs mem pl ln km ks kt ku kl kn (pkC cs cd (nI x) p2) wt) := by rw [← e_cd]; exact hD
        exact W.iret (v := ((-11))) hx hb hr (fun t ht hW => ⟨⟨((-11)), (), rfl, (show ((-11)) = pkR cs cd (nI x) p2 from by unfold pkR; rw [if_pos (by first | exact Or.inl c_1 | exact Or.inr (Or.inl (by rw [show cl (nI x) = x from nI_clamp n_x]; omega)) | exact Or.inr (Or.inr (Or.inl c_13)) | exact Or.inr (Or.inr (Or.inr ((nI_ltI (by omega) (by omega)).mpr (by omega)))))]), by rw [ht]; exact hP, va_K.moved hW.alike hK, hD⟩, hS.F ht⟩) hS.2.2 dX4_poke_25
      · obtain ⟨y, n_y, rfl⟩ := nI_of c_13
        refine lv_iload_n hx hb dX4_poke_16 rfl (lv_at hl 2 rfl) ?_
        refine lv_sipush (v := (nI 255)) hx hb dX4_poke_17 (by decide) ?_
        refine lv_icmp_le (tgt := 26) hx hb dX4_poke_20 (by decide) (fun c_20 => ?_) (fun c_20 => ?_)
        · have c_20 : y ≤ 255 := (nI_leI (a := y) (b := 255) (by omega) (by omega)).mp c_20
          have hnb := pkB_no (cs := cs) (y := y) n_x (by omega) (by omega)
          refine lv_aload_n hx hb dX4_poke_26 rfl (lv_at hl 0 rfl) ?_
          refine va_get (D := (dC, dI)) (ci := 4) (v := .ref (a 10)) (C := RX4) (T := TX4) (N := 18) hx hb hts in_X4 hown hK hP 0 rfl rfl 15 (by decide) lk_2 (fun _ h9 => h9) rfl dX4_poke_27 ?_
          refine lv_iload_n hx hb dX4_poke_30 rfl (lv_at hl 1 rfl) ?_
          refine va_iald hx hb hK hP 10 0 rfl rfl (vp_in_nI (by omega) (by omega)) dX4_poke_31 ?_
          refine tpi (nf_at (by omega)) ?_
          refine lv_istore_n (lv' := [(3, .int (nI (cd x))), (0, .ref (a 0)), (1, .int (nI x)), (2, .int (nI y))]) hx hb dX4_poke_32 rfl hl (by decide) rfl (fun ls hl => ?_)
          refine lv_aload_n hx hb dX4_poke_33 rfl (lv_at hl 1 rfl) ?_
          refine va_get (D := (dC, dI)) (ci := 4) (v := .ref (a 10)) (C := RX4) (T := TX4) (N := 18) hx hb hts in_X4 hown hK hP 0 rfl rfl 15 (by decide) lk_2 (fun _ h9 => h9) rfl dX4_poke_34 ?_
          refine lv_iload_n hx hb dX4_poke_37 rfl (lv_at hl 2 rfl) ?_
          refine lv_iload_n hx hb dX4_poke_38 rfl (lv_at hl 3 rfl) ?_
          refine va_iast hx hb hK hP hD hS 10 0 rfl rfl (vp_in_nI (by omega) (by omega)) dX4_poke_39 (fun H locs hP hD hS => ?_)
          rw [nf_up (by omega)] at hP hD
          have hP : va_P (dC, dI) vwCl (mw cI a sz st us kp ga gl cs mem pl ln km ks kt ku kl kn (va_up cd x y) wt) H := hP
          have hD : va_D A (mw cI a sz st us kp ga gl cs mem pl ln km ks kt ku kl kn (va_up cd x y) wt) := hD
          refine lv_iload_n hx hb dX4_poke_40 rfl (lv_at hl 0 rfl) ?_
          have e_cd : va_up cd x y = pkC cs cd (nI x) (nI y) := by unfold pkC; rw [if_neg hnb, show cl (nI x) = x from nI_clamp n_x, show cl (nI y) = y from nI_clamp n_y]
          have hP : va_P (dC, dI) vwCl (mw cI a sz st us kp ga gl cs mem pl ln km ks kt ku kl kn (pkC cs cd (nI x) (nI y)) wt) H := by rw [← e_cd]; exact hP
          have hD : va_D A (mw cI a sz st us kp ga gl cs mem pl ln km ks kt ku kl kn (pkC cs cd (nI x) (nI y)) wt) := by rw [← e_cd]; exact hD
          exact W.iret (v := (nI (cd x))) hx hb hr (fun t ht hW => ⟨⟨(nI (cd x)), (), rfl, (show (nI (cd x)) = pkR cs cd (nI x) (nI y) from by unfold pkR; rw [if_neg hnb, show cl (nI x) = x from nI_clamp n_x]), by rw [ht]; exact hP, va_K.moved hW.alike hK, hD⟩, hS.F ht⟩) hS.2.2 dX4_poke_41
        · have c_20 : ¬ y ≤ 255 := fun q => c_20 ((nI_leI (a := y) (b := 255) (by omega) (by omega)).mpr q)
          refine lv_bipush (v := ((-11))) hx hb dX4_poke_23 (by decide) ?_
          have e_cd : cd = pkC cs cd (nI x) (nI y) := by unfold pkC; rw [if_pos (by first | exact Or.inl c_1 | exact Or.inr (Or.inl (by rw [show cl (nI x) = x from nI_clamp n_x]; omega)) | exact Or.inr (Or.inr (Or.inl c_13)) | exact Or.inr (Or.inr (Or.inr ((nI_ltI (by omega) (by omega)).mpr (by omega)))))]
          have hP : va_P (dC, dI) vwCl (mw cI a sz st us kp ga gl cs mem pl ln km ks kt ku kl kn (pkC cs cd (nI x) (nI y)) wt) s.heap := by rw [← e_cd]; exact hP
          have hD : va_D A (mw cI a sz st us kp ga gl cs mem pl ln km ks kt ku kl kn (pkC cs cd (nI x) (nI y)) wt) := by rw [← e_cd]; exact hD
          exact W.iret (v := ((-11))) hx hb hr (fun t ht hW => ⟨⟨((-11)), (), rfl, (show ((-11)) = pkR cs cd (nI x) (nI y) from by unfold pkR; rw [if_pos (by first | exact Or.inl c_1 | exact Or.inr (Or.inl (by rw [show cl (nI x) = x from nI_clamp n_x]; omega)) | exact Or.inr (Or.inr (Or.inl c_13)) | exact Or.inr (Or.inr (Or.inr ((nI_ltI (by omega) (by omega)).mpr (by omega)))))]), by rw [ht]; exact hP, va_K.moved hW.alike hK, hD⟩, hS.F ht⟩) hS.2.2 dX4_poke_25
set_option maxHeartbeats 4000000 in
set_option maxRecDepth 100000 in
theorem c_X4_cut (l : Launch) (dC : Nat → ClassId) (dI : Nat → Nat → Nat) (cI : ClassId) (a : Nat → Nat) (sz st us kp ga gl cs : Nat) (mem pl ln km ks kt ku kl kn cd wt : Nat → Nat) (zz : Nat) (p1 : Int32) (gc : cs ≤ 20000) : Met l yX4_cut wsX4_cut ({ frames := 0, cells := 0, slots := 0, locals := 0 }) (va_Pc [.ref (a 0), .int p1] (fun U => U.heap.size = zz ∧ va_P (dC, dI) vwCl (mw cI a sz st us kp ga gl cs mem pl ln km ks kt ku kl kn cd wt) U.heap ∧ va_K (dC, dI) vwCl [(cI, .int)] U ∧ va_D (fun _ => True) (mw cI a sz st us kp ga gl cs mem pl ln km ks kt ku kl kn cd wt))) (va_Qi (fun r _ => r = ctR cs p1) (fun (_ : Unit) t => va_P (dC, dI) vwCl (mw cI a sz st us kp ga gl (ctS cs p1) mem pl ln km ks kt ku kl kn cd wt) t.heap ∧ va_K (dC, dI) vwCl [(cI, .int)] t ∧ va_D (va_A (mw cI a sz st us kp ga gl cs mem pl ln km ks kt ku kl kn cd wt) zz) (mw cI a sz st us kp ga gl (ctS cs p1) mem pl ln km ks kt ku kl kn cd wt)) (va_A (mw cI a sz st us kp ga gl cs mem pl ln km ks kt ku kl kn cd wt) zz)) 0 0 (va_A (mw cI a sz st us kp ga gl cs mem pl ln km ks kt ku kl kn cd wt) zz) := by
  refine Met.ofW (cc := cX4_cut) (maxL := 3) (ret := (some .int)) (by decide) rfl ?_
  intro p e s m args below meth c s₁ B hml hv
  obtain ⟨rfl, hsz, hP, hK, hD0⟩ := hv
  have hx := B.exec
  have hb := B.bytes
  have hr := B.returns
  have hts := atoms_spec (ws := wsX4_cut) B.pre
  have hown : s.vm.findClass RX4 = some m.cls := findClass_of_methodNamed B.named
  have hlocks := B.notSynchronized
  subst hsz
  have hD := hD0.self (sz := s.heap.size)
  generalize hAe : va_A (mw cI a sz st us kp ga gl cs mem pl ln km ks kt ku kl kn cd wt) s.heap.size = A at hD ⊢
  have hA : ∀ q : Nat, s.heap.size ≤ q → A q := fun q h => by rw [← hAe]; exact Or.inr h
  have hS : va_S A s.heap s.heap [] := va_S.rf
  have hP : va_P (dC, dI) vwCl (mw cI a sz st us kp ga gl cs mem pl ln km ks kt ku kl kn cd wt) s.heap := hP
  have in_X4 : ∀ w ∈ wsX40, w ∈ wsX4_cut := fun _ h => List.mem_cons_of_mem _ (List.mem_append_right _ h)
  have lk_1 := hts (.fieldLink RX4 128 "GlulxHeapModel" "codeSize" "I") (List.mem_of_getElem? (i := 1) rfl)
  have hl := lv_entry ([.ref (a 0), .int p1]) (n := 3) (Nat.le_of_ble_eq_true rfl)
  rw [lg_entry_eq]
  generalize (lg_sl ([.ref (a 0), .int p1]) ++ List.replicate (3 - (lg_sl ([.ref (a 0), .int p1])).length) Slot.unset).toArray = ls at hl ⊢
  have hl : lv_has ls 3 [(0, .ref (a 0)), (1, .int p1)] := hl
  refine lv_iload_n hx hb dX4_cut_0 rfl (lv_at hl 1 rfl) ?_
  refine lv_if_lt (tgt := 12) hx hb dX4_cut_1 (by decide) (fun c_1 => ?_) (fun c_1 => ?_)
  · refine lv_bipush (v := ((-11))) hx hb dX4_cut_12 (by decide) ?_
    have e_cs : cs = ctS cs p1 := by unfold ctS; rw [if_pos (Or.inl c_1)]
    have hP : va_P (dC, dI) vwCl (mw cI a sz st us kp ga gl (ctS cs p1) mem pl ln km ks kt ku kl kn cd wt) s.heap := by rw [← e_cs]; exact hP
    have hD : va_D A (mw cI a sz st us kp ga gl (ctS cs p1) mem pl ln km ks kt ku kl kn cd wt) := by rw [← e_cs]; exact hD
    exact W.iret (v := ((-11))) hx hb hr (fun t ht hW => ⟨⟨((-11)), (), rfl, (show ((-11)) = ctR cs p1 from by unfold ctR; rw [if_pos (Or.inl c_1)]), by rw [ht]; exact hP, va_K.moved hW.alike hK, hD⟩, hS.F ht⟩) hS.2.2 dX4_cut_14
  · obtain ⟨x, n_x, rfl⟩ := nI_of c_1
    refine lv_iload_n hx hb dX4_cut_4 rfl (lv_at hl 1 rfl) ?_
    refine lv_aload_n hx hb dX4_cut_5 rfl (lv_at hl 0 rfl) ?_
    refine va_get (D := (dC, dI)) (ci := 4) (v := .int (nI cs)) (C := RX4) (T := TX4) (N := 18) hx hb hts in_X4 hown hK hP 0 rfl rfl 16 (by decide) lk_1 (fun _ h9 => h9) rfl dX4_cut_6 ?_
    refine lv_icmp_le (tgt := 15) hx hb dX4_cut_9 (by decide) (fun c_9 => ?_) (fun c_9 => ?_)
    · have c_9 : x ≤ cs := (nI_leI (a := x) (b := cs) (by omega) (by omega)).mp c_9
      refine lv_aload_n hx hb dX4_cut_15 rfl (lv_at hl 0 rfl) ?_
      refine va_get (D := (dC, dI)) (ci := 4) (v := .int (nI cs)) (C := RX4) (T := TX4) (N := 18) hx hb hts in_X4 hown hK hP 0 rfl rfl 16 (by decide) lk_1 (fun _ h9 => h9) rfl dX4_cut_16 ?_
      refine lv_iload_n hx hb dX4_cut_19 rfl (lv_at hl 1 rfl) ?_
      refine lv_isub hx hb dX4_cut_20 ?_
      refine tpi (pk_sub (by omega)) ?_
      refine lv_istore_n (lv' := [(2, .int (nI (cs - x))), (0, .ref (a 0)), (1, .int (nI x))]) hx hb dX4_cut_21 rfl hl (by decide) rfl (fun ls hl => ?_)
      refine lv_aload_n hx hb dX4_cut_22 rfl (lv_at hl 1 rfl) ?_
      refine lv_iload_n hx hb dX4_cut_23 rfl (lv_at hl 2 rfl) ?_
      refine va_put (D := (dC, dI)) (ci := 4) (v := .int (nI x)) (ty := .int) (C := RX4) (T := TX4) (N := 18) hx hb hts in_X4 tyX4 tyX4_ok nmX4 hown hK hP hD hS 0 rfl rfl 16 (by decide) lk_1 (fun _ h9 => h9) rfl (by decide +kernel) rfl rfl (Nat.le_of_ble_eq_true rfl) dX4_cut_24 (fun H locs hP hD hS => ?_)
      have hP : va_P (dC, dI) vwCl (mw cI a sz st us kp ga gl x mem pl ln km ks kt ku kl kn cd wt) H := hP
      have hD : va_D A (mw cI a sz st us kp ga gl x mem pl ln km ks kt ku kl kn cd wt) := hD
      refine lv_iload_n hx hb dX4_cut_27 rfl (lv_at hl 0 rfl) ?_
      have e_cs : x = ctS cs (nI x) := by unfold ctS; rw [if_neg (fun q => q.elim c_1 (fun q => absurd q (by rw [show cl (nI x) = x from nI_clamp n_x]; omega))), show cl (nI x) = x from nI_clamp n_x]
      have hP : va_P (dC, dI) vwCl (mw cI a sz st us kp ga gl (ctS cs (nI x)) mem pl ln km ks kt ku kl kn cd wt) H := by rw [← e_cs]; exact hP
      have hD : va_D A (mw cI a sz st us kp ga gl (ctS cs (nI x)) mem pl ln km ks kt ku kl kn cd wt) := by rw [← e_cs]; exact hD
      exact W.iret (v := (nI (cs - x))) hx hb hr (fun t ht hW => ⟨⟨(nI (cs - x)), (), rfl, (show (nI (cs - x)) = ctR cs (nI x) from by unfold ctR; rw [if_neg (fun q => q.elim c_1 (fun q => absurd q (by rw [show cl (nI x) = x from nI_clamp n_x]; omega))), show cl (nI x) = x from nI_clamp n_x]), by rw [ht]; exact hP, va_K.moved hW.alike hK, hD⟩, hS.F ht⟩) hS.2.2 dX4_cut_28
    · have c_9 : ¬ x ≤ cs := fun q => c_9 ((nI_leI (a := x) (b := cs) (by omega) (by omega)).mpr q)
      refine lv_bipush (v := ((-11))) hx hb dX4_cut_12 (by decide) ?_
      have e_cs : cs = ctS cs (nI x) := by unfold ctS; rw [if_pos (Or.inr (by rw [show cl (nI x) = x from nI_clamp n_x]; omega))]
      have hP : va_P (dC, dI) vwCl (mw cI a sz st us kp ga gl (ctS cs (nI x)) mem pl ln km ks kt ku kl kn cd wt) s.heap := by rw [← e_cs]; exact hP
      have hD : va_D A (mw cI a sz st us kp ga gl (ctS cs (nI x)) mem pl ln km ks kt ku kl kn cd wt) := by rw [← e_cs]; exact hD
      exact W.iret (v := ((-11))) hx hb hr (fun t ht hW => ⟨⟨((-11)), (), rfl, (show ((-11)) = ctR cs (nI x) from by unfold ctR; rw [if_pos (Or.inr (by rw [show cl (nI x) = x from nI_clamp n_x]; omega))]), by rw [ht]; exact hP, va_K.moved hW.alike hK, hD⟩, hS.F ht⟩) hS.2.2 dX4_cut_14
set_option maxHeartbeats 4000000 in
set_option maxRecDepth 100000 in
theorem c_X4_putTwo (l : Launch) (dC : Nat → ClassId) (dI : Nat → Nat → Nat) (cI : ClassId) (a : Nat → Nat) (sz st us kp ga gl cs : Nat) (mem pl ln km ks kt ku kl kn cd wt : Nat → Nat) (zz : Nat) (v : Nat) (g1 : cs + 2 ≤ 20000) (g2 : v < 2 ^ 31) : Met l yX4_putTwo wsX4_putTwo ({ frames := 1, cells := 0, slots := 0, locals := 21 }) (va_Pc [.ref (a 0), .int (nI v)] (fun U => U.heap.size = zz ∧ va_P (dC, dI) vwCl (mw cI a sz st us kp ga gl cs mem pl ln km ks kt ku kl kn cd wt) U.heap ∧ va_K (dC, dI) vwCl [(cI, .int)] U ∧ va_D (fun _ => True) (mw cI a sz st us kp ga gl cs mem pl ln km ks kt ku kl kn cd wt))) (va_Qv (fun _ => True) (fun (_ : Unit) t => va_P (dC, dI) vwCl (mw cI a sz st us kp ga gl (cs + 1 + 1) mem pl ln km ks kt ku kl kn (va_up (va_up cd cs (v / 2 ^ 8 % 256)) (cs + 1) (v % 256)) wt) t.heap ∧ va_K (dC, dI) vwCl [(cI, .int)] t ∧ va_D (va_A (mw cI a sz st us kp ga gl cs mem pl ln km ks kt ku kl kn cd wt) zz) (mw cI a sz st us kp ga gl (cs + 1 + 1) mem pl ln km ks kt ku kl kn (va_up (va_up cd cs (v / 2 ^ 8 % 256)) (cs + 1) (v % 256)) wt)) (va_A (mw cI a sz st us kp ga gl cs mem pl ln km ks kt ku kl kn cd wt) zz)) 0 0 (va_A (mw cI a sz st us kp ga gl cs mem pl ln km ks kt ku kl kn cd wt) zz) := by
  refine Met.ofW (cc := cX4_putTwo) (maxL := 2) (ret := none) (by decide) rfl ?_
  intro p e s m args below meth c s₁ B hml hv
  obtain ⟨rfl, hsz, hP, hK, hD0⟩ := hv
  have hx := B.exec
  have hb := B.bytes
  have hr := B.returns
  have hts := atoms_spec (ws := wsX4_putTwo) B.pre
  have hown : s.vm.findClass RX4 = some m.cls := findClass_of_methodNamed B.named
  have hlocks := B.notSynchronized
  subst hsz
  have hD := hD0.self (sz := s.heap.size)
  generalize hAe : va_A (mw cI a sz st us kp ga gl cs mem pl ln km ks kt ku kl kn cd wt) s.heap.size = A at hD ⊢
  have hA : ∀ q : Nat, s.heap.size ≤ q → A q := fun q h => by rw [← hAe]; exact Or.inr h
  have hS : va_S A s.heap s.heap [] := va_S.rf
  have hP : va_P (dC, dI) vwCl (mw cI a sz st us kp ga gl cs mem pl ln km ks kt ku kl kn cd wt) s.heap := hP
  have hl := lv_entry ([.ref (a 0), .int (nI v)]) (n := 2) (Nat.le_of_ble_eq_true rfl)
  rw [lg_entry_eq]
  generalize (lg_sl ([.ref (a 0), .int (nI v)]) ++ List.replicate (2 - (lg_sl ([.ref (a 0), .int (nI v)])).length) Slot.unset).toArray = ls at hl ⊢
  have hl : lv_has ls 2 [(0, .ref (a 0)), (1, .int (nI v))] := hl
  refine lv_aload_n hx hb dX4_putTwo_0 rfl (lv_at hl 0 rfl) ?_
  refine lv_iload_n hx hb dX4_putTwo_1 rfl (lv_at hl 1 rfl) ?_
  refine lv_bipush (v := (nI 8)) hx hb dX4_putTwo_2 (by decide) ?_
  refine lv_ishr hx hb dX4_putTwo_4 ?_
  refine tpi (pk_shrN (by omega) (nI 8 &&& 31) 8 (by decide)) ?_
  have hFc := va_free (wc := mw cI a sz st us kp ga gl cs mem pl ln km ks kt ku kl kn cd wt) hD hS hA [0, 1, 2, 3, 4, 5, 6, 7, 8, 9, 10, 11] rfl
  refine va_callv (va_runV (As := [.int (nI (v / 2 ^ 8))]) (rest := []) ⟨hx, hb, hml, hown, hts⟩ (c_X4_put l dC dI cI a sz st us kp ga gl cs mem pl ln km ks kt ku kl kn cd wt s.heap.size (v / 2 ^ 8) (by omega) (by omega)) (cwV 1 hts gX4_putTwo_X4_put rfl rfl rfl (by decide +kernel) ⟨Nat.le_of_ble_eq_true rfl, Nat.le_of_ble_eq_true rfl⟩) ⟨fun a9 U g9 mk9 q9 => by obtain ⟨q0, q1, qP, qK, qD⟩ := q9; exact ⟨q0, q1, qP, va_K.moved (u := U) (U := U.calling g9 mk9 a9) (Vm.Alike.refl U.vm) qK, qD⟩, va_recv hK hP (ci := 4) (q0 := 0) rfl rfl, fun U hU hW => ⟨rfl, by rw [hU], by rw [hU]; exact hP, va_K.moved hW.alike hK, hD.weaken (fun _ _ _ _ => trivial)⟩⟩ rfl rfl hl.1 rfl (lv_room (Nat.le_of_ble_eq_true rfl)) dX4_putTwo_5 ⟨Nat.zero_le _, Nat.zero_le _⟩) hS (fun q _ h => hFc q h) hFc (fun u t H1 locs ht hvm hw hB hz1 hk1 hS => ?_)
  obtain ⟨hP1, hK1, hD1⟩ := hB
  rw [ht] at hP1
  obtain ⟨hP, hD⟩ := va_join (wr := []) (w1 := mw cI a sz st us kp ga gl (cs + 1) mem pl ln km ks kt ku kl kn (va_up cd cs ((v / 2 ^ 8) % 256)) wt) hP hD [0, 1, 2, 3, 4, 5, 6, 7, 8, 9, 10, 11] [] rfl rfl (by decide) (by decide) hk1 hFc hP1 hD1
  generalize H1 = H at hP hS ⊢
  have hP : va_P (dC, dI) vwCl (mw cI a sz st us kp ga gl (cs + 1) mem pl ln km ks kt ku kl kn (va_up cd cs ((v / 2 ^ 8) % 256)) wt) H := hP
  have hD : va_D A (mw cI a sz st us kp ga gl (cs + 1) mem pl ln km ks kt ku kl kn (va_up cd cs ((v / 2 ^ 8) % 256)) wt) := hD
  refine lv_aload_n hx hb dX4_putTwo_8 rfl (lv_at hl 0 rfl) ?_
  refine lv_iload_n hx hb dX4_putTwo_9 rfl (lv_at hl 1 rfl) ?_
  have hFc := va_free (wc := mw cI a sz st us kp ga gl (cs + 1) mem pl ln km ks kt ku kl kn (va_up cd cs ((v / 2 ^ 8) % 256)) wt) hD hS hA [0, 1, 2, 3, 4, 5, 6, 7, 8, 9, 10, 11] rfl
  refine va_callv (va_runV (As := [.int (nI v)]) (rest := []) ⟨hx, hb, hml, hown, hts⟩ (c_X4_put l dC dI cI a sz st us kp ga gl (cs + 1) mem pl ln km ks kt ku kl kn (va_up cd cs ((v / 2 ^ 8) % 256)) wt H.size v (by omega) (by omega)) (cwV 1 hts gX4_putTwo_X4_put rfl rfl rfl (by decide +kernel) ⟨Nat.le_of_ble_eq_true rfl, Nat.le_of_ble_eq_true rfl⟩) ⟨fun a9 U g9 mk9 q9 => by obtain ⟨q0, q1, qP, qK, qD⟩ := q9; exact ⟨q0, q1, qP, va_K.moved (u := U) (U := U.calling g9 mk9 a9) (Vm.Alike.refl U.vm) qK, qD⟩, va_recv hK hP (ci := 4) (q0 := 0) rfl rfl, fun U hU hW => ⟨rfl, by rw [hU], by rw [hU]; exact hP, va_K.moved hW.alike hK, hD.weaken (fun _ _ _ _ => trivial)⟩⟩ rfl rfl hl.1 rfl (lv_room (Nat.le_of_ble_eq_true rfl)) dX4_putTwo_10 ⟨Nat.zero_le _, Nat.zero_le _⟩) hS (fun q _ h => hFc q h) hFc (fun u t H1 locs ht hvm hw hB hz1 hk1 hS => ?_)
  obtain ⟨hP1, hK1, hD1⟩ := hB
  rw [ht] at hP1
  obtain ⟨hP, hD⟩ := va_join (wr := []) (w1 := mw cI a sz st us kp ga gl (cs + 1 + 1) mem pl ln km ks kt ku kl kn (va_up (va_up cd cs ((v / 2 ^ 8) % 256)) (cs + 1) (v % 256)) wt) hP hD [0, 1, 2, 3, 4, 5, 6, 7, 8, 9, 10, 11] [] rfl rfl (by decide) (by decide) hk1 hFc hP1 hD1
  generalize H1 = H at hP hS ⊢
  have hP : va_P (dC, dI) vwCl (mw cI a sz st us kp ga gl (cs + 1 + 1) mem pl ln km ks kt ku kl kn (va_up (va_up cd cs ((v / 2 ^ 8) % 256)) (cs + 1) (v % 256)) wt) H := hP
  have hD : va_D A (mw cI a sz st us kp ga gl (cs + 1 + 1) mem pl ln km ks kt ku kl kn (va_up (va_up cd cs ((v / 2 ^ 8) % 256)) (cs + 1) (v % 256)) wt) := hD
  have e_cd : va_up (va_up cd cs ((v / 2 ^ 8) % 256)) (cs + 1) (v % 256) = va_up (va_up cd cs (v / 2 ^ 8 % 256)) (cs + 1) (v % 256) := rfl
  have hP : va_P (dC, dI) vwCl (mw cI a sz st us kp ga gl (cs + 1 + 1) mem pl ln km ks kt ku kl kn (va_up (va_up cd cs (v / 2 ^ 8 % 256)) (cs + 1) (v % 256)) wt) H := by rw [← e_cd]; exact hP
  have hD : va_D A (mw cI a sz st us kp ga gl (cs + 1 + 1) mem pl ln km ks kt ku kl kn (va_up (va_up cd cs (v / 2 ^ 8 % 256)) (cs + 1) (v % 256)) wt) := by rw [← e_cd]; exact hD
  exact W.vret hx hb hr (fun t ht hW => ⟨⟨(), rfl, trivial, by rw [ht]; exact hP, va_K.moved hW.alike hK, hD⟩, hS.F ht⟩) hS.2.2 dX4_putTwo_13
set_option maxHeartbeats 4000000 in
set_option maxRecDepth 100000 in
theorem c_X4_keep (l : Launch) (dC : Nat → ClassId) (dI : Nat → Nat → Nat) (cI : ClassId) (a : Nat → Nat) (sz st us kp ga gl cs : Nat) (mem pl ln km ks kt ku kl kn cd wt : Nat → Nat) (zz : Nat)  (g3 : sz ≤ 8192) (g4 : kp ≤ 4) (g5 : us ≤ 64) : Met l yX4_keep wsX4_keep ({ frames := 0, cells := 0, slots := 0, locals := 0 }) (va_Pc [.ref (a 0)] (fun U => U.heap.size = zz ∧ va_P (dC, dI) vwCl (mw cI a sz st us kp ga gl cs mem pl ln km ks kt ku kl kn cd wt) U.heap ∧ va_K (dC, dI) vwCl [(cI, .int)] U ∧ va_D (fun _ => True) (mw cI a sz st us kp ga gl cs mem pl ln km ks kt ku kl kn cd wt))) (va_Qi (fun r _ => r = if kp = 4 then (-15) else nI (kp + 1)) (fun (_ : Unit) t => va_P (dC, dI) vwCl (mw cI a sz st us (if kp = 4 then kp else kp + 1) ga gl cs mem pl ln (if kp = 4 then km else blkW km (8192 * kp) (upto sz mem) 8192) (if kp = 4 then ks else va_up ks kp sz) (if kp = 4 then kt else va_up kt kp st) (if kp = 4 then ku else va_up ku kp us) (if kp = 4 then kl else blkW kl (64 * kp) pl us) (if kp = 4 then kn else blkW kn (64 * kp) ln us) cd wt) t.heap ∧ va_K (dC, dI) vwCl [(cI, .int)] t ∧ va_D (va_A (mw cI a sz st us kp ga gl cs mem pl ln km ks kt ku kl kn cd wt) zz) (mw cI a sz st us (if kp = 4 then kp else kp + 1) ga gl cs mem pl ln (if kp = 4 then km else blkW km (8192 * kp) (upto sz mem) 8192) (if kp = 4 then ks else va_up ks kp sz) (if kp = 4 then kt else va_up kt kp st) (if kp = 4 then ku else va_up ku kp us) (if kp = 4 then kl else blkW kl (64 * kp) pl us) (if kp = 4 then kn else blkW kn (64 * kp) ln us) cd wt)) (va_A (mw cI a sz st us kp ga gl cs mem pl ln km ks kt ku kl kn cd wt) zz)) 0 0 (va_A (mw cI a sz st us kp ga gl cs mem pl ln km ks kt ku kl kn cd wt) zz) := by
  refine Met.ofW (cc := cX4_keep) (maxL := 2) (ret := (some .int)) (by decide) rfl ?_
  intro p e s m args below meth c s₁ B hml hv
  obtain ⟨rfl, hsz, hP, hK, hD0⟩ := hv
  have hx := B.exec
  have hb := B.bytes
  have hr := B.returns
  have hts := atoms_spec (ws := wsX4_keep) B.pre
  have hown : s.vm.findClass RX4 = some m.cls := findClass_of_methodNamed B.named
  have hlocks := B.notSynchronized
  subst hsz
  have hD := hD0.self (sz := s.heap.size)
  generalize hAe : va_A (mw cI a sz st us kp ga gl cs mem pl ln km ks kt ku kl kn cd wt) s.heap.size = A at hD ⊢
  have hA : ∀ q : Nat, s.heap.size ≤ q → A q := fun q h => by rw [← hAe]; exact Or.inr h
  have hS : va_S A s.heap s.heap [] := va_S.rf
  have hP : va_P (dC, dI) vwCl (mw cI a sz st us kp ga gl cs mem pl ln km ks kt ku kl kn cd wt) s.heap := hP
  have in_X4 : ∀ w ∈ wsX40, w ∈ wsX4_keep := fun _ h => List.mem_cons_of_mem _ (List.mem_append_right _ h)
  have lk_1 := hts (.fieldLink RX4 121 "GlulxHeapModel" "kept" "I") (List.mem_of_getElem? (i := 1) rfl)
  have lk_2 := hts (.fieldLink RX4 20 "GlulxHeapModel" "keptMemory" "[I") (List.mem_of_getElem? (i := 2) rfl)
  have lk_3 := hts (.fieldLink RX4 44 "GlulxHeapModel" "size" "I") (List.mem_of_getElem? (i := 3) rfl)
  have lk_4 := hts (.fieldLink RX4 7 "GlulxHeapModel" "memory" "[I") (List.mem_of_getElem? (i := 4) rfl)
  have lk_5 := hts (.fieldLink RX4 23 "GlulxHeapModel" "keptSize" "[I") (List.mem_of_getElem? (i := 5) rfl)
  have lk_6 := hts (.fieldLink RX4 26 "GlulxHeapModel" "keptStart" "[I") (List.mem_of_getElem? (i := 6) rfl)
  have lk_7 := hts (.fieldLink RX4 78 "GlulxHeapModel" "start" "I") (List.mem_of_getElem? (i := 7) rfl)
  have lk_8 := hts (.fieldLink RX4 29 "GlulxHeapModel" "keptUsed" "[I") (List.mem_of_getElem? (i := 8) rfl)
  have lk_9 := hts (.fieldLink RX4 71 "GlulxHeapModel" "used" "I") (List.mem_of_getElem? (i := 9) rfl)
  have lk_10 := hts (.fieldLink RX4 32 "GlulxHeapModel" "keptPlace" "[I") (List.mem_of_getElem? (i := 10) rfl)
  have lk_11 := hts (.fieldLink RX4 13 "GlulxHeapModel" "place" "[I") (List.mem_of_getElem? (i := 11) rfl)
  have lk_12 := hts (.fieldLink RX4 35 "GlulxHeapModel" "keptLength" "[I") (List.mem_of_getElem? (i := 12) rfl)
  have lk_13 := hts (.fieldLink RX4 16 "GlulxHeapModel" "length" "[I") (List.mem_of_getElem? (i := 13) rfl)
  have hl := lv_entry ([.ref (a 0)]) (n := 2) (Nat.le_of_ble_eq_true rfl)
  rw [lg_entry_eq]
  generalize (lg_sl ([.ref (a 0)]) ++ List.replicate (2 - (lg_sl ([.ref (a 0)])).length) Slot.unset).toArray = ls at hl ⊢
  have hl : lv_has ls 2 [(0, .ref (a 0))] := hl
  refine lv_aload_n hx hb dX4_keep_0 rfl (lv_at hl 0 rfl) ?_
  refine va_get (D := (dC, dI)) (ci := 4) (v := .int (nI kp)) (C := RX4) (T := TX4) (N := 18) hx hb hts in_X4 hown hK hP 0 rfl rfl 6 (by decide) lk_1 (fun _ h9 => h9) rfl dX4_keep_1 ?_
  refine lv_iconst (v := (nI 4)) hx hb dX4_keep_4 (by decide) ?_
  refine lv_icmp_ne (tgt := 11) hx hb dX4_keep_5 (by decide) (fun c_5 => ?_) (fun c_5 => ?_)
  · have c_5 : ¬ kp = 4 := fun q => c_5 ((nI_eq (a := kp) (b := 4) (by omega) (by omega)).mpr q)
    refine lv_iconst (v := (nI 0)) hx hb dX4_keep_11 (by decide) ?_
    refine lv_istore_n (lv' := [(1, .int (nI 0)), (0, .ref (a 0))]) hx hb dX4_keep_12 rfl hl (by decide) rfl (fun ls hl => ?_)
    refine lp_world (σ := Nat × (Nat → Nat)) (fun ⟨i, f⟩ => i ≤ 8192 ∧ f = blkW km (8192 * kp) (upto sz mem) i) (fun ⟨i, f⟩ => 8192 - i) (fun ⟨i, f⟩ => [(1, .int (nI i)), (0, .ref (a 0))]) (fun ⟨i, f⟩ => mw cI a sz st us kp ga gl cs mem pl ln f ks kt ku kl kn cd wt) ?_ ((0, km)) (⟨by omega, by rw [blkW_0]⟩) (hP) (hD) hS (lv_sub hl [0, 1] rfl)
    intro ⟨i, f⟩ hI ih H locs ls hP hD hS hl
    have hl : lv_has ls 2 [(1, .int (nI i)), (0, .ref (a 0))] := hl
    have hP : va_P (dC, dI) vwCl (mw cI a sz st us kp ga gl cs mem pl ln f ks kt ku kl kn cd wt) H := hP
    have hD : va_D A (mw cI a sz st us kp ga gl cs mem pl ln f ks kt ku kl kn cd wt) := hD
    have hI : i ≤ 8192 ∧ f = blkW km (8192 * kp) (upto sz mem) i := hI
    obtain ⟨hi, hf⟩ := hI
    have ih_13 := ih
    refine lv_iload_n hx hb dX4_keep_13 rfl (lv_at hl 0 rfl) ?_
    refine lv_sipush (v := (nI 8192)) hx hb dX4_keep_14 (by decide) ?_
    refine lv_icmp_ge (tgt := 59) hx hb dX4_keep_17 (by decide) (fun c_17 => ?_) (fun c_17 => ?_)
    · have c_17 : 8192 ≤ i := (nI_leI (a := 8192) (b := i) (by omega) (by omega)).mp c_17
      refine lv_aload_n hx hb dX4_keep_59 rfl (lv_at hl 1 rfl) ?_
      refine va_get (D := (dC, dI)) (ci := 4) (v := .ref (a 5)) (C := RX4) (T := TX4) (N := 18) hx hb hts in_X4 hown hK hP 0 rfl rfl 8 (by decide) lk_5 (fun _ h9 => h9) rfl dX4_keep_60 ?_
      refine lv_aload_n hx hb dX4_keep_63 rfl (lv_at hl 1 rfl) ?_
      refine va_get (D := (dC, dI)) (ci := 4) (v := .int (nI kp)) (C := RX4) (T := TX4) (N := 18) hx hb hts in_X4 hown hK hP 0 rfl rfl 6 (by decide) lk_1 (fun _ h9 => h9) rfl dX4_keep_64 ?_
      refine lv_aload_n hx hb dX4_keep_67 rfl (lv_at hl 1 rfl) ?_
      refine va_get (D := (dC, dI)) (ci := 4) (v := .int (nI sz)) (C := RX4) (T := TX4) (N := 18) hx hb hts in_X4 hown hK hP 0 rfl rfl 1 (by decide) lk_3 (fun _ h9 => h9) rfl dX4_keep_68 ?_
      refine va_iast hx hb hK hP hD hS 5 0 rfl rfl (vp_in_nI (by omega) (by omega)) dX4_keep_71 (fun H locs hP hD hS => ?_)
      rw [nf_up (by omega)] at hP hD
      have hP : va_P (dC, dI) vwCl (mw cI a sz st us kp ga gl cs mem pl ln f (va_up ks kp sz) kt ku kl kn cd wt) H := hP
      have hD : va_D A (mw cI a sz st us kp ga gl cs mem pl ln f (va_up ks kp sz) kt ku kl kn cd wt) := hD
      refine lv_aload_n hx hb dX4_keep_72 rfl (lv_at hl 1 rfl) ?_
      refine va_get (D := (dC, dI)) (ci := 4) (v := .ref (a 6)) (C := RX4) (T := TX4) (N := 18) hx hb hts in_X4 hown hK hP 0 rfl rfl 9 (by decide) lk_6 (fun _ h9 => h9) rfl dX4_keep_73 ?_
      refine lv_aload_n hx hb dX4_keep_76 rfl (lv_at hl 1 rfl) ?_
      refine va_get (D := (dC, dI)) (ci := 4) (v := .int (nI kp)) (C := RX4) (T := TX4) (N := 18) hx hb hts in_X4 hown hK hP 0 rfl rfl 6 (by decide) lk_1 (fun _ h9 => h9) rfl dX4_keep_77 ?_
      refine lv_aload_n hx hb dX4_keep_80 rfl (lv_at hl 1 rfl) ?_
      refine va_get (D := (dC, dI)) (ci := 4) (v := .int (nI st)) (C := RX4) (T := TX4) (N := 18) hx hb hts in_X4 hown hK hP 0 rfl rfl 2 (by decide) lk_7 (fun _ h9 => h9) rfl dX4_keep_81 ?_
      refine va_iast hx hb hK hP hD hS 6 0 rfl rfl (vp_in_nI (by omega) (by omega)) dX4_keep_84 (fun H locs hP hD hS => ?_)
      rw [nf_up (by omega)] at hP hD
      have hP : va_P (dC, dI) vwCl (mw cI a sz st us kp ga gl cs mem pl ln f (va_up ks kp sz) (va_up kt kp st) ku kl kn cd wt) H := hP
      have hD : va_D A (mw cI a sz st us kp ga gl cs mem pl ln f (va_up ks kp sz) (va_up kt kp st) ku kl kn cd wt) := hD
      refine lv_aload_n hx hb dX4_keep_85 rfl (lv_at hl 1 rfl) ?_
      refine va_get (D := (dC, dI)) (ci := 4) (v := .ref (a 7)) (C := RX4) (T := TX4) (N := 18) hx hb hts in_X4 hown hK hP 0 rfl rfl 10 (by decide) lk_8 (fun _ h9 => h9) rfl dX4_keep_86 ?_
      refine lv_aload_n hx hb dX4_keep_89 rfl (lv_at hl 1 rfl) ?_
      refine va_get (D := (dC, dI)) (ci := 4) (v := .int (nI kp)) (C := RX4) (T := TX4) (N := 18) hx hb hts in_X4 hown hK hP 0 rfl rfl 6 (by decide) lk_1 (fun _ h9 => h9) rfl dX4_keep_90 ?_
      refine lv_aload_n hx hb dX4_keep_93 rfl (lv_at hl 1 rfl) ?_
      refine va_get (D := (dC, dI)) (ci := 4) (v := .int (nI us)) (C := RX4) (T := TX4) (N := 18) hx hb hts in_X4 hown hK hP 0 rfl rfl 3 (by decide) lk_9 (fun _ h9 => h9) rfl dX4_keep_94 ?_
      refine va_iast hx hb hK hP hD hS 7 0 rfl rfl (vp_in_nI (by omega) (by omega)) dX4_keep_97 (fun H locs hP hD hS => ?_)
      rw [nf_up (by omega)] at hP hD
      have hP : va_P (dC, dI) vwCl (mw cI a sz st us kp ga gl cs mem pl ln f (va_up ks kp sz) (va_up kt kp st) (va_up ku kp us) kl kn cd wt) H := hP
      have hD : va_D A (mw cI a sz st us kp ga gl cs mem pl ln f (va_up ks kp sz) (va_up kt kp st) (va_up ku kp us) kl kn cd wt) := hD
      refine lv_iconst (v := (nI 0)) hx hb dX4_keep_98 (by decide) ?_
      refine lv_istore_n (lv' := [(1, .int (nI 0)), (0, .ref (a 0))]) hx hb dX4_keep_99 rfl hl (by decide) rfl (fun ls hl => ?_)
      refine lp_world (σ := Nat × (Nat → Nat) × (Nat → Nat)) (fun ⟨k, g, h⟩ => k ≤ us ∧ g = blkW kl (64 * kp) pl k ∧ h = blkW kn (64 * kp) ln k) (fun ⟨k, g, h⟩ => us - k) (fun ⟨k, g, h⟩ => [(1, .int (nI k)), (0, .ref (a 0))]) (fun ⟨k, g, h⟩ => mw cI a sz st us kp ga gl cs mem pl ln f (va_up ks kp sz) (va_up kt kp st) (va_up ku kp us) g h cd wt) ?_ ((0, kl, kn)) (⟨by omega, by rw [blkW_0], by rw [blkW_0]⟩) (hP) (hD) hS (lv_sub hl [0, 1] rfl)
      intro ⟨k, g, h⟩ hI ih H locs ls hP hD hS hl
      have hl : lv_has ls 2 [(1, .int (nI k)), (0, .ref (a 0))] := hl
      have hP : va_P (dC, dI) vwCl (mw cI a sz st us kp ga gl cs mem pl ln f (va_up ks kp sz) (va_up kt kp st) (va_up ku kp us) g h cd wt) H := hP
      have hD : va_D A (mw cI a sz st us kp ga gl cs mem pl ln f (va_up ks kp sz) (va_up kt kp st) (va_up ku kp us) g h cd wt) := hD
      have hI : k ≤ us ∧ g = blkW kl (64 * kp) pl k ∧ h = blkW kn (64 * kp) ln k := hI
      obtain ⟨hk, hg, hh⟩ := hI
      have ih_100 := ih
      refine lv_iload_n hx hb dX4_keep_100 rfl (lv_at hl 0 rfl) ?_
      refine lv_aload_n hx hb dX4_keep_101 rfl (lv_at hl 1 rfl) ?_
      refine va_get (D := (dC, dI)) (ci := 4) (v := .int (nI us)) (C := RX4) (T := TX4) (N := 18) hx hb hts in_X4 hown hK hP 0 rfl rfl 3 (by decide) lk_9 (fun _ h9 => h9) rfl dX4_keep_102 ?_
      refine lv_icmp_ge (tgt := 154) hx hb dX4_keep_105 (by decide) (fun c_105 => ?_) (fun c_105 => ?_)
      · have c_105 : us ≤ k := (nI_leI (a := us) (b := k) (by omega) (by omega)).mp c_105
        refine lv_aload_n hx hb dX4_keep_154 rfl (lv_at hl 1 rfl) ?_
        refine lv_dup hx hb dX4_keep_155 rfl ?_
        refine va_get (D := (dC, dI)) (ci := 4) (v := .int (nI kp)) (C := RX4) (T := TX4) (N := 18) hx hb hts in_X4 hown hK hP 0 rfl rfl 6 (by decide) lk_1 (fun _ h9 => h9) rfl dX4_keep_156 ?_
        refine lv_iconst (v := (nI 1)) hx hb dX4_keep_159 (by decide) ?_
        refine lv_iadd hx hb dX4_keep_160 ?_
        refine tpi (nI_add _ _) ?_
        refine va_put (D := (dC, dI)) (ci := 4) (v := .int (nI (kp + 1))) (ty := .int) (C := RX4) (T := TX4) (N := 18) hx hb hts in_X4 tyX4 tyX4_ok nmX4 hown hK hP hD hS 0 rfl rfl 6 (by decide) lk_1 (fun _ h9 => h9) rfl (by decide +kernel) rfl rfl (Nat.le_of_ble_eq_true rfl) dX4_keep_161 (fun H locs hP hD hS => ?_)
        have hP : va_P (dC, dI) vwCl (mw cI a sz st us (kp + 1) ga gl cs mem pl ln f (va_up ks kp sz) (va_up kt kp st) (va_up ku kp us) g h cd wt) H := hP
        have hD : va_D A (mw cI a sz st us (kp + 1) ga gl cs mem pl ln f (va_up ks kp sz) (va_up kt kp st) (va_up ku kp us) g h cd wt) := hD
        refine lv_aload_n hx hb dX4_keep_164 rfl (lv_at hl 1 rfl) ?_
        refine va_get (D := (dC, dI)) (ci := 4) (v := .int (nI (kp + 1))) (C := RX4) (T := TX4) (N := 18) hx hb hts in_X4 hown hK hP 0 rfl rfl 6 (by decide) lk_1 (fun _ h9 => h9) rfl dX4_keep_165 ?_
        have e_kp : kp + 1 = if kp = 4 then kp else kp + 1 := by rw [if_neg (by omega)]
        have e_km : f = if kp = 4 then km else blkW km (8192 * kp) (upto sz mem) 8192 := by rw [if_neg (by omega), hf, show i = 8192 by omega]
        have e_ks : va_up ks kp sz = if kp = 4 then ks else va_up ks kp sz := by rw [if_neg (by omega)]
        have e_kt : va_up kt kp st = if kp = 4 then kt else va_up kt kp st := by rw [if_neg (by omega)]
        have e_ku : va_up ku kp us = if kp = 4 then ku else va_up ku kp us := by rw [if_neg (by omega)]
        have e_kl : g = if kp = 4 then kl else blkW kl (64 * kp) pl us := by rw [if_neg (by omega), hg, show k = us by omega]
        have e_kn : h = if kp = 4 then kn else blkW kn (64 * kp) ln us := by rw [if_neg (by omega), hh, show k = us by omega]
        have hP : va_P (dC, dI) vwCl (mw cI a sz st us (if kp = 4 then kp else kp + 1) ga gl cs mem pl ln (if kp = 4 then km else blkW km (8192 * kp) (upto sz mem) 8192) (if kp = 4 then ks else va_up ks kp sz) (if kp = 4 then kt else va_up kt kp st) (if kp = 4 then ku else va_up ku kp us) (if kp = 4 then kl else blkW kl (64 * kp) pl us) (if kp = 4 then kn else blkW kn (64 * kp) ln us) cd wt) H := by rw [← e_kp, ← e_km, ← e_ks, ← e_kt, ← e_ku, ← e_kl, ← e_kn]; exact hP
        have hD : va_D A (mw cI a sz st us (if kp = 4 then kp else kp + 1) ga gl cs mem pl ln (if kp = 4 then km else blkW km (8192 * kp) (upto sz mem) 8192) (if kp = 4 then ks else va_up ks kp sz) (if kp = 4 then kt else va_up kt kp st) (if kp = 4 then ku else va_up ku kp us) (if kp = 4 then kl else blkW kl (64 * kp) pl us) (if kp = 4 then kn else blkW kn (64 * kp) ln us) cd wt) := by rw [← e_kp, ← e_km, ← e_ks, ← e_kt, ← e_ku, ← e_kl, ← e_kn]; exact hD
        exact W.iret (v := (nI (kp + 1))) hx hb hr (fun t ht hW => ⟨⟨(nI (kp + 1)), (), rfl, (show (nI (kp + 1)) = if kp = 4 then (-15) else nI (kp + 1) from by rw [if_neg (by omega)]), by rw [ht]; exact hP, va_K.moved hW.alike hK, hD⟩, hS.F ht⟩) hS.2.2 dX4_keep_168
      · have c_105 : ¬ us ≤ k := fun q => c_105 ((nI_leI (a := us) (b := k) (by omega) (by omega)).mpr q)
        refine lv_aload_n hx hb dX4_keep_108 rfl (lv_at hl 1 rfl) ?_
        refine va_get (D := (dC, dI)) (ci := 4) (v := .ref (a 8)) (C := RX4) (T := TX4) (N := 18) hx hb hts in_X4 hown hK hP 0 rfl rfl 11 (by decide) lk_10 (fun _ h9 => h9) rfl dX4_keep_109 ?_
        refine lv_bipush (v := (nI 64)) hx hb dX4_keep_112 (by decide) ?_
        refine lv_aload_n hx hb dX4_keep_114 rfl (lv_at hl 1 rfl) ?_
        refine va_get (D := (dC, dI)) (ci := 4) (v := .int (nI kp)) (C := RX4) (T := TX4) (N := 18) hx hb hts in_X4 hown hK hP 0 rfl rfl 6 (by decide) lk_1 (fun _ h9 => h9) rfl dX4_keep_115 ?_
        refine lv_imul hx hb dX4_keep_118 ?_
        refine tpi (pk_mul _ _) ?_
        refine lv_iload_n hx hb dX4_keep_119 rfl (lv_at hl 0 rfl) ?_
        refine lv_iadd hx hb dX4_keep_120 ?_
        refine tpi (nI_add _ _) ?_
        refine lv_aload_n hx hb dX4_keep_121 rfl (lv_at hl 1 rfl) ?_
        refine va_get (D := (dC, dI)) (ci := 4) (v := .ref (a 2)) (C := RX4) (T := TX4) (N := 18) hx hb hts in_X4 hown hK hP 0 rfl rfl 4 (by decide) lk_11 (fun _ h9 => h9) rfl dX4_keep_122 ?_
        refine lv_iload_n hx hb dX4_keep_125 rfl (lv_at hl 0 rfl) ?_
        refine va_iald hx hb hK hP 2 0 rfl rfl (vp_in_nI (by omega) (by omega)) dX4_keep_126 ?_
        refine tpi (nf_at (by omega)) ?_
        refine va_iast hx hb hK hP hD hS 8 0 rfl rfl (vp_in_nI (by omega) (by omega)) dX4_keep_127 (fun H locs hP hD hS => ?_)
        rw [nf_up (by omega)] at hP hD
        have hP : va_P (dC, dI) vwCl (mw cI a sz st us kp ga gl cs mem pl ln f (va_up ks kp sz) (va_up kt kp st) (va_up ku kp us) (va_up g (64 * kp + k) (pl k)) h cd wt) H := hP
        have hD : va_D A (mw cI a sz st us kp ga gl cs mem pl ln f (va_up ks kp sz) (va_up kt kp st) (va_up ku kp us) (va_up g (64 * kp + k) (pl k)) h cd wt) := hD
        refine lv_aload_n hx hb dX4_keep_128 rfl (lv_at hl 1 rfl) ?_
        refine va_get (D := (dC, dI)) (ci := 4) (v := .ref (a 9)) (C := RX4) (T := TX4) (N := 18) hx hb hts in_X4 hown hK hP 0 rfl rfl 12 (by decide) lk_12 (fun _ h9 => h9) rfl dX4_keep_129 ?_
        refine lv_bipush (v := (nI 64)) hx hb dX4_keep_132 (by decide) ?_
        refine lv_aload_n hx hb dX4_keep_134 rfl (lv_at hl 1 rfl) ?_
        refine va_get (D := (dC, dI)) (ci := 4) (v := .int (nI kp)) (C := RX4) (T := TX4) (N := 18) hx hb hts in_X4 hown hK hP 0 rfl rfl 6 (by decide) lk_1 (fun _ h9 => h9) rfl dX4_keep_135 ?_
        refine lv_imul hx hb dX4_keep_138 ?_
        refine tpi (pk_mul _ _) ?_
        refine lv_iload_n hx hb dX4_keep_139 rfl (lv_at hl 0 rfl) ?_
        refine lv_iadd hx hb dX4_keep_140 ?_
        refine tpi (nI_add _ _) ?_
        refine lv_aload_n hx hb dX4_keep_141 rfl (lv_at hl 1 rfl) ?_
        refine va_get (D := (dC, dI)) (ci := 4) (v := .ref (a 3)) (C := RX4) (T := TX4) (N := 18) hx hb hts in_X4 hown hK hP 0 rfl rfl 5 (by decide) lk_13 (fun _ h9 => h9) rfl dX4_keep_142 ?_
        refine lv_iload_n hx hb dX4_keep_145 rfl (lv_at hl 0 rfl) ?_
        refine va_iald hx hb hK hP 3 0 rfl rfl (vp_in_nI (by omega) (by omega)) dX4_keep_146 ?_
        refine tpi (nf_at (by omega)) ?_
        refine va_iast hx hb hK hP hD hS 9 0 rfl rfl (vp_in_nI (by omega) (by omega)) dX4_keep_147 (fun H locs hP hD hS => ?_)
        rw [nf_up (by omega)] at hP hD
        have hP : va_P (dC, dI) vwCl (mw cI a sz st us kp ga gl cs mem pl ln f (va_up ks kp sz) (va_up kt kp st) (va_up ku kp us) (va_up g (64 * kp + k) (pl k)) (va_up h (64 * kp + k) (ln k)) cd wt) H := hP
        have hD : va_D A (mw cI a sz st us kp ga gl cs mem pl ln f (va_up ks kp sz) (va_up kt kp st) (va_up ku kp us) (va_up g (64 * kp + k) (pl k)) (va_up h (64 * kp + k) (ln k)) cd wt) := hD
        refine lv_iinc (v := (nI (k + 1))) (lv' := [(1, .int (nI (k + 1))), (0, .ref (a 0))]) hx hb dX4_keep_148 hl (k := 0) rfl (nI_inc _) (by decide) rfl (fun ls hl => ?_)
        refine lv_goto (tgt := 100) hx hb dX4_keep_151 (by decide) ?_
        exact ih_100 (k + 1, va_up g (64 * kp + k) (pl k), va_up h (64 * kp + k) (ln k)) (⟨by omega, by rw [hg, blkW_s rfl], by rw [hh, blkW_s rfl]⟩) (show us - (k + 1) < us - k by omega) H locs ls (hP) (hD) hS (lv_sub hl [0, 1] rfl)
    · have c_17 : ¬ 8192 ≤ i := fun q => c_17 ((nI_leI (a := 8192) (b := i) (by omega) (by omega)).mpr q)
      refine lv_aload_n hx hb dX4_keep_20 rfl (lv_at hl 1 rfl) ?_
      refine va_get (D := (dC, dI)) (ci := 4) (v := .ref (a 4)) (C := RX4) (T := TX4) (N := 18) hx hb hts in_X4 hown hK hP 0 rfl rfl 7 (by decide) lk_2 (fun _ h9 => h9) rfl dX4_keep_21 ?_
      refine lv_sipush (v := (nI 8192)) hx hb dX4_keep_24 (by decide) ?_
      refine lv_aload_n hx hb dX4_keep_27 rfl (lv_at hl 1 rfl) ?_
      refine va_get (D := (dC, dI)) (ci := 4) (v := .int (nI kp)) (C := RX4) (T := TX4) (N := 18) hx hb hts in_X4 hown hK hP 0 rfl rfl 6 (by decide) lk_1 (fun _ h9 => h9) rfl dX4_keep_28 ?_
      refine lv_imul hx hb dX4_keep_31 ?_
      refine tpi (pk_mul _ _) ?_
      refine lv_iload_n hx hb dX4_keep_32 rfl (lv_at hl 0 rfl) ?_
      refine lv_iadd hx hb dX4_keep_33 ?_
      refine tpi (nI_add _ _) ?_
      refine lv_iload_n hx hb dX4_keep_34 rfl (lv_at hl 0 rfl) ?_
      refine lv_aload_n hx hb dX4_keep_35 rfl (lv_at hl 1 rfl) ?_
      refine va_get (D := (dC, dI)) (ci := 4) (v := .int (nI sz)) (C := RX4) (T := TX4) (N := 18) hx hb hts in_X4 hown hK hP 0 rfl rfl 1 (by decide) lk_3 (fun _ h9 => h9) rfl dX4_keep_36 ?_
      refine lv_icmp_ge (tgt := 51) hx hb dX4_keep_39 (by decide) (fun c_39 => ?_) (fun c_39 => ?_)
      · have c_39 : sz ≤ i := (nI_leI (a := sz) (b := i) (by omega) (by omega)).mp c_39
        refine lv_iconst (v := (nI 0)) hx hb dX4_keep_51 (by decide) ?_
        refine va_iast hx hb hK hP hD hS 4 0 rfl rfl (vp_in_nI (by omega) (by omega)) dX4_keep_52 (fun H locs hP hD hS => ?_)
        rw [nf_up (by omega)] at hP hD
        have hP : va_P (dC, dI) vwCl (mw cI a sz st us kp ga gl cs mem pl ln (va_up f (8192 * kp + i) 0) ks kt ku kl kn cd wt) H := hP
        have hD : va_D A (mw cI a sz st us kp ga gl cs mem pl ln (va_up f (8192 * kp + i) 0) ks kt ku kl kn cd wt) := hD
        refine lv_iinc (v := (nI (i + 1))) (lv' := [(1, .int (nI (i + 1))), (0, .ref (a 0))]) hx hb dX4_keep_53 hl (k := 0) rfl (nI_inc _) (by decide) rfl (fun ls hl => ?_)
        refine lv_goto (tgt := 13) hx hb dX4_keep_56 (by decide) ?_
        exact ih_13 (i + 1, va_up f (8192 * kp + i) 0) (⟨by omega, by rw [hf, blkW_s (by unfold upto; rw [if_neg (by omega)])]⟩) (show 8192 - (i + 1) < 8192 - i by omega) H locs ls (hP) (hD) hS (lv_sub hl [0, 1] rfl)
      · have c_39 : ¬ sz ≤ i := fun q => c_39 ((nI_leI (a := sz) (b := i) (by omega) (by omega)).mpr q)
        refine lv_aload_n hx hb dX4_keep_42 rfl (lv_at hl 1 rfl) ?_
        refine va_get (D := (dC, dI)) (ci := 4) (v := .ref (a 1)) (C := RX4) (T := TX4) (N := 18) hx hb hts in_X4 hown hK hP 0 rfl rfl 0 (by decide) lk_4 (fun _ h9 => h9) rfl dX4_keep_43 ?_
        refine lv_iload_n hx hb dX4_keep_46 rfl (lv_at hl 0 rfl) ?_
        refine va_iald hx hb hK hP 1 0 rfl rfl (vp_in_nI (by omega) (by omega)) dX4_keep_47 ?_
        refine tpi (nf_at (by omega)) ?_
        refine lv_goto (tgt := 52) hx hb dX4_keep_48 (by decide) ?_
        refine va_iast hx hb hK hP hD hS 4 0 rfl rfl (vp_in_nI (by omega) (by omega)) dX4_keep_52 (fun H locs hP hD hS => ?_)
        rw [nf_up (by omega)] at hP hD
        have hP : va_P (dC, dI) vwCl (mw cI a sz st us kp ga gl cs mem pl ln (va_up f (8192 * kp + i) (mem i)) ks kt ku kl kn cd wt) H := hP
        have hD : va_D A (mw cI a sz st us kp ga gl cs mem pl ln (va_up f (8192 * kp + i) (mem i)) ks kt ku kl kn cd wt) := hD
        refine lv_iinc (v := (nI (i + 1))) (lv' := [(1, .int (nI (i + 1))), (0, .ref (a 0))]) hx hb dX4_keep_53 hl (k := 0) rfl (nI_inc _) (by decide) rfl (fun ls hl => ?_)
        refine lv_goto (tgt := 13) hx hb dX4_keep_56 (by decide) ?_
        exact ih_13 (i + 1, va_up f (8192 * kp + i) (mem i)) (⟨by omega, by rw [hf, blkW_s (by unfold upto; rw [if_pos (by omega)])]⟩) (show 8192 - (i + 1) < 8192 - i by omega) H locs ls (hP) (hD) hS (lv_sub hl [0, 1] rfl)
  · have c_5 : kp = 4 := (nI_eq (a := kp) (b := 4) (by omega) (by omega)).mp c_5
    refine lv_bipush (v := ((-15))) hx hb dX4_keep_8 (by decide) ?_
    have e_kp : kp = if kp = 4 then kp else kp + 1 := by rw [if_pos c_5]
    have e_km : km = if kp = 4 then km else blkW km (8192 * kp) (upto sz mem) 8192 := by rw [if_pos c_5]
    have e_ks : ks = if kp = 4 then ks else va_up ks kp sz := by rw [if_pos c_5]
    have e_kt : kt = if kp = 4 then kt else va_up kt kp st := by rw [if_pos c_5]
    have e_ku : ku = if kp = 4 then ku else va_up ku kp us := by rw [if_pos c_5]
    have e_kl : kl = if kp = 4 then kl else blkW kl (64 * kp) pl us := by rw [if_pos c_5]
    have e_kn : kn = if kp = 4 then kn else blkW kn (64 * kp) ln us := by rw [if_pos c_5]
    have hP : va_P (dC, dI) vwCl (mw cI a sz st us (if kp = 4 then kp else kp + 1) ga gl cs mem pl ln (if kp = 4 then km else blkW km (8192 * kp) (upto sz mem) 8192) (if kp = 4 then ks else va_up ks kp sz) (if kp = 4 then kt else va_up kt kp st) (if kp = 4 then ku else va_up ku kp us) (if kp = 4 then kl else blkW kl (64 * kp) pl us) (if kp = 4 then kn else blkW kn (64 * kp) ln us) cd wt) s.heap := by rw [← e_kp, ← e_km, ← e_ks, ← e_kt, ← e_ku, ← e_kl, ← e_kn]; exact hP
    have hD : va_D A (mw cI a sz st us (if kp = 4 then kp else kp + 1) ga gl cs mem pl ln (if kp = 4 then km else blkW km (8192 * kp) (upto sz mem) 8192) (if kp = 4 then ks else va_up ks kp sz) (if kp = 4 then kt else va_up kt kp st) (if kp = 4 then ku else va_up ku kp us) (if kp = 4 then kl else blkW kl (64 * kp) pl us) (if kp = 4 then kn else blkW kn (64 * kp) ln us) cd wt) := by rw [← e_kp, ← e_km, ← e_ks, ← e_kt, ← e_ku, ← e_kl, ← e_kn]; exact hD
    exact W.iret (v := ((-15))) hx hb hr (fun t ht hW => ⟨⟨((-15)), (), rfl, (show ((-15)) = if kp = 4 then (-15) else nI (kp + 1) from by rw [if_pos c_5]), by rw [ht]; exact hP, va_K.moved hW.alike hK, hD⟩, hS.F ht⟩) hS.2.2 dX4_keep_10
set_option maxHeartbeats 4000000 in
set_option maxRecDepth 100000 in
theorem c_X4_come (l : Launch) (dC : Nat → ClassId) (dI : Nat → Nat → Nat) (cI : ClassId) (a : Nat → Nat) (sz st us kp ga gl cs : Nat) (mem pl ln km ks kt ku kl kn cd wt : Nat → Nat) (zz : Nat) (x : Nat) (gx : x ≤ 4) (g3 : sz ≤ 8192) (g6 : ga ≤ 8192) (g7 : gl ≤ 8192) (gks : ks x < 2 ^ 31) (gku : ku x ≤ 64) : Met l yX4_come wsX4_come ({ frames := 0, cells := 0, slots := 0, locals := 0 }) (va_Pc [.ref (a 0), .int (nI x)] (fun U => U.heap.size = zz ∧ va_P (dC, dI) vwCl (mw cI a sz st us kp ga gl cs mem pl ln km ks kt ku kl kn cd wt) U.heap ∧ va_K (dC, dI) vwCl [(cI, .int)] U ∧ va_D (fun _ => True) (mw cI a sz st us kp ga gl cs mem pl ln km ks kt ku kl kn cd wt))) (va_Qv (fun _ => True) (fun (_ : Unit) t => va_P (dC, dI) vwCl (mw cI a (ks x) (kt x) (ku x) kp ga gl cs (cmW mem km (8192 * x) ga gl (bth sz (ks x)) 8192) (outW pl kl (64 * x) (ku x)) (outW ln kn (64 * x) (ku x)) km ks kt ku kl kn cd wt) t.heap ∧ va_K (dC, dI) vwCl [(cI, .int)] t ∧ va_D (va_A (mw cI a sz st us kp ga gl cs mem pl ln km ks kt ku kl kn cd wt) zz) (mw cI a (ks x) (kt x) (ku x) kp ga gl cs (cmW mem km (8192 * x) ga gl (bth sz (ks x)) 8192) (outW pl kl (64 * x) (ku x)) (outW ln kn (64 * x) (ku x)) km ks kt ku kl kn cd wt)) (va_A (mw cI a sz st us kp ga gl cs mem pl ln km ks kt ku kl kn cd wt) zz)) 0 0 (va_A (mw cI a sz st us kp ga gl cs mem pl ln km ks kt ku kl kn cd wt) zz) := by
  refine Met.ofW (cc := cX4_come) (maxL := 5) (ret := none) (by decide) rfl ?_
  intro p e s m args below meth c s₁ B hml hv
  obtain ⟨rfl, hsz, hP, hK, hD0⟩ := hv
  have hx := B.exec
  have hb := B.bytes
  have hr := B.returns
  have hts := atoms_spec (ws := wsX4_come) B.pre
  have hown : s.vm.findClass RX4 = some m.cls := findClass_of_methodNamed B.named
  have hlocks := B.notSynchronized
  subst hsz
  have hD := hD0.self (sz := s.heap.size)
  generalize hAe : va_A (mw cI a sz st us kp ga gl cs mem pl ln km ks kt ku kl kn cd wt) s.heap.size = A at hD ⊢
  have hA : ∀ q : Nat, s.heap.size ≤ q → A q := fun q h => by rw [← hAe]; exact Or.inr h
  have hS : va_S A s.heap s.heap [] := va_S.rf
  have hP : va_P (dC, dI) vwCl (mw cI a sz st us kp ga gl cs mem pl ln km ks kt ku kl kn cd wt) s.heap := hP
  have in_X4 : ∀ w ∈ wsX40, w ∈ wsX4_come := fun _ h => List.mem_cons_of_mem _ (List.mem_append_right _ h)
  have lk_1 := hts (.fieldLink RX4 44 "GlulxHeapModel" "size" "I") (List.mem_of_getElem? (i := 1) rfl)
  have lk_2 := hts (.fieldLink RX4 23 "GlulxHeapModel" "keptSize" "[I") (List.mem_of_getElem? (i := 2) rfl)
  have lk_3 := hts (.fieldLink RX4 115 "GlulxHeapModel" "guardAt" "I") (List.mem_of_getElem? (i := 3) rfl)
  have lk_4 := hts (.fieldLink RX4 118 "GlulxHeapModel" "guardLong" "I") (List.mem_of_getElem? (i := 4) rfl)
  have lk_5 := hts (.fieldLink RX4 7 "GlulxHeapModel" "memory" "[I") (List.mem_of_getElem? (i := 5) rfl)
  have lk_6 := hts (.fieldLink RX4 20 "GlulxHeapModel" "keptMemory" "[I") (List.mem_of_getElem? (i := 6) rfl)
  have lk_7 := hts (.fieldLink RX4 26 "GlulxHeapModel" "keptStart" "[I") (List.mem_of_getElem? (i := 7) rfl)
  have lk_8 := hts (.fieldLink RX4 78 "GlulxHeapModel" "start" "I") (List.mem_of_getElem? (i := 8) rfl)
  have lk_9 := hts (.fieldLink RX4 29 "GlulxHeapModel" "keptUsed" "[I") (List.mem_of_getElem? (i := 9) rfl)
  have lk_10 := hts (.fieldLink RX4 71 "GlulxHeapModel" "used" "I") (List.mem_of_getElem? (i := 10) rfl)
  have lk_11 := hts (.fieldLink RX4 13 "GlulxHeapModel" "place" "[I") (List.mem_of_getElem? (i := 11) rfl)
  have lk_12 := hts (.fieldLink RX4 32 "GlulxHeapModel" "keptPlace" "[I") (List.mem_of_getElem? (i := 12) rfl)
  have lk_13 := hts (.fieldLink RX4 16 "GlulxHeapModel" "length" "[I") (List.mem_of_getElem? (i := 13) rfl)
  have lk_14 := hts (.fieldLink RX4 35 "GlulxHeapModel" "keptLength" "[I") (List.mem_of_getElem? (i := 14) rfl)
  have hl := lv_entry ([.ref (a 0), .int (nI x)]) (n := 5) (Nat.le_of_ble_eq_true rfl)
  rw [lg_entry_eq]
  generalize (lg_sl ([.ref (a 0), .int (nI x)]) ++ List.replicate (5 - (lg_sl ([.ref (a 0), .int (nI x)])).length) Slot.unset).toArray = ls at hl ⊢
  have hl : lv_has ls 5 [(0, .ref (a 0)), (1, .int (nI x))] := hl
  refine lv_aload_n hx hb dX4_come_0 rfl (lv_at hl 0 rfl) ?_
  refine va_get (D := (dC, dI)) (ci := 4) (v := .int (nI sz)) (C := RX4) (T := TX4) (N := 18) hx hb hts in_X4 hown hK hP 0 rfl rfl 1 (by decide) lk_1 (fun _ h9 => h9) rfl dX4_come_1 ?_
  refine lv_aload_n hx hb dX4_come_4 rfl (lv_at hl 0 rfl) ?_
  refine va_get (D := (dC, dI)) (ci := 4) (v := .ref (a 5)) (C := RX4) (T := TX4) (N := 18) hx hb hts in_X4 hown hK hP 0 rfl rfl 8 (by decide) lk_2 (fun _ h9 => h9) rfl dX4_come_5 ?_
  refine lv_iload_n hx hb dX4_come_8 rfl (lv_at hl 1 rfl) ?_
  refine va_iald hx hb hK hP 5 0 rfl rfl (vp_in_nI (by omega) (by omega)) dX4_come_9 ?_
  refine tpi (nf_at (by omega)) ?_
  refine lv_icmp_ge (tgt := 20) hx hb dX4_come_10 (by decide) (fun c_10 => ?_) (fun c_10 => ?_)
  · have c_10 : ks x ≤ sz := (nI_leI (a := ks x) (b := sz) (by omega) (by omega)).mp c_10
    refine lv_aload_n hx hb dX4_come_20 rfl (lv_at hl 0 rfl) ?_
    refine va_get (D := (dC, dI)) (ci := 4) (v := .ref (a 5)) (C := RX4) (T := TX4) (N := 18) hx hb hts in_X4 hown hK hP 0 rfl rfl 8 (by decide) lk_2 (fun _ h9 => h9) rfl dX4_come_21 ?_
    refine lv_iload_n hx hb dX4_come_24 rfl (lv_at hl 1 rfl) ?_
    refine va_iald hx hb hK hP 5 0 rfl rfl (vp_in_nI (by omega) (by omega)) dX4_come_25 ?_
    refine tpi (nf_at (by omega)) ?_
    refine lv_istore_n (lv' := [(2, .int (nI (ks x))), (0, .ref (a 0)), (1, .int (nI x))]) hx hb dX4_come_26 rfl hl (by decide) rfl (fun ls hl => ?_)
    refine lv_iconst (v := (nI 0)) hx hb dX4_come_27 (by decide) ?_
    refine lv_istore_n (lv' := [(3, .int (nI 0)), (2, .int (nI (ks x))), (0, .ref (a 0)), (1, .int (nI x))]) hx hb dX4_come_28 rfl hl (by decide) rfl (fun ls hl => ?_)
    refine lp_world (σ := Nat × (Nat → Nat)) (fun ⟨i, f⟩ => i ≤ 8192 ∧ f = cmW mem km (8192 * x) ga gl (ks x) i) (fun ⟨i, f⟩ => 8192 - i) (fun ⟨i, f⟩ => [(3, .int (nI i)), (2, .int (nI (ks x))), (0, .ref (a 0)), (1, .int (nI x))]) (fun ⟨i, f⟩ => mw cI a sz st us kp ga gl cs f pl ln km ks kt ku kl kn cd wt) ?_ ((0, mem)) (⟨by omega, by rw [cmW_0]⟩) (hP) (hD) hS (lv_sub hl [0, 1, 2, 3] rfl)
    intro ⟨i, f⟩ hI ih H locs ls hP hD hS hl
    have hl : lv_has ls 5 [(3, .int (nI i)), (2, .int (nI (ks x))), (0, .ref (a 0)), (1, .int (nI x))] := hl
    have hP : va_P (dC, dI) vwCl (mw cI a sz st us kp ga gl cs f pl ln km ks kt ku kl kn cd wt) H := hP
    have hD : va_D A (mw cI a sz st us kp ga gl cs f pl ln km ks kt ku kl kn cd wt) := hD
    have hI : i ≤ 8192 ∧ f = cmW mem km (8192 * x) ga gl (ks x) i := hI
    obtain ⟨hi, hf⟩ := hI
    have ih_29 := ih
    refine lv_iload_n hx hb dX4_come_29 rfl (lv_at hl 0 rfl) ?_
    refine lv_sipush (v := (nI 8192)) hx hb dX4_come_30 (by decide) ?_
    refine lv_icmp_ge (tgt := 107) hx hb dX4_come_33 (by decide) (fun c_33 => ?_) (fun c_33 => ?_)
    · have c_33 : 8192 ≤ i := (nI_leI (a := 8192) (b := i) (by omega) (by omega)).mp c_33
      refine lv_aload_n hx hb dX4_come_107 rfl (lv_at hl 2 rfl) ?_
      refine lv_aload_n hx hb dX4_come_108 rfl (lv_at hl 2 rfl) ?_
      refine va_get (D := (dC, dI)) (ci := 4) (v := .ref (a 5)) (C := RX4) (T := TX4) (N := 18) hx hb hts in_X4 hown hK hP 0 rfl rfl 8 (by decide) lk_2 (fun _ h9 => h9) rfl dX4_come_109 ?_
      refine lv_iload_n hx hb dX4_come_112 rfl (lv_at hl 3 rfl) ?_
      refine va_iald hx hb hK hP 5 0 rfl rfl (vp_in_nI (by omega) (by omega)) dX4_come_113 ?_
      refine tpi (nf_at (by omega)) ?_
      refine va_put (D := (dC, dI)) (ci := 4) (v := .int (nI (ks x))) (ty := .int) (C := RX4) (T := TX4) (N := 18) hx hb hts in_X4 tyX4 tyX4_ok nmX4 hown hK hP hD hS 0 rfl rfl 1 (by decide) lk_1 (fun _ h9 => h9) rfl (by decide +kernel) rfl rfl (Nat.le_of_ble_eq_true rfl) dX4_come_114 (fun H locs hP hD hS => ?_)
      have hP : va_P (dC, dI) vwCl (mw cI a (ks x) st us kp ga gl cs f pl ln km ks kt ku kl kn cd wt) H := hP
      have hD : va_D A (mw cI a (ks x) st us kp ga gl cs f pl ln km ks kt ku kl kn cd wt) := hD
      refine lv_aload_n hx hb dX4_come_117 rfl (lv_at hl 2 rfl) ?_
      refine lv_aload_n hx hb dX4_come_118 rfl (lv_at hl 2 rfl) ?_
      refine va_get (D := (dC, dI)) (ci := 4) (v := .ref (a 6)) (C := RX4) (T := TX4) (N := 18) hx hb hts in_X4 hown hK hP 0 rfl rfl 9 (by decide) lk_7 (fun _ h9 => h9) rfl dX4_come_119 ?_
      refine lv_iload_n hx hb dX4_come_122 rfl (lv_at hl 3 rfl) ?_
      refine va_iald hx hb hK hP 6 0 rfl rfl (vp_in_nI (by omega) (by omega)) dX4_come_123 ?_
      refine tpi (nf_at (by omega)) ?_
      refine va_put (D := (dC, dI)) (ci := 4) (v := .int (nI (kt x))) (ty := .int) (C := RX4) (T := TX4) (N := 18) hx hb hts in_X4 tyX4 tyX4_ok nmX4 hown hK hP hD hS 0 rfl rfl 2 (by decide) lk_8 (fun _ h9 => h9) rfl (by decide +kernel) rfl rfl (Nat.le_of_ble_eq_true rfl) dX4_come_124 (fun H locs hP hD hS => ?_)
      have hP : va_P (dC, dI) vwCl (mw cI a (ks x) (kt x) us kp ga gl cs f pl ln km ks kt ku kl kn cd wt) H := hP
      have hD : va_D A (mw cI a (ks x) (kt x) us kp ga gl cs f pl ln km ks kt ku kl kn cd wt) := hD
      refine lv_aload_n hx hb dX4_come_127 rfl (lv_at hl 2 rfl) ?_
      refine lv_aload_n hx hb dX4_come_128 rfl (lv_at hl 2 rfl) ?_
      refine va_get (D := (dC, dI)) (ci := 4) (v := .ref (a 7)) (C := RX4) (T := TX4) (N := 18) hx hb hts in_X4 hown hK hP 0 rfl rfl 10 (by decide) lk_9 (fun _ h9 => h9) rfl dX4_come_129 ?_
      refine lv_iload_n hx hb dX4_come_132 rfl (lv_at hl 3 rfl) ?_
      refine va_iald hx hb hK hP 7 0 rfl rfl (vp_in_nI (by omega) (by omega)) dX4_come_133 ?_
      refine tpi (nf_at (by omega)) ?_
      refine va_put (D := (dC, dI)) (ci := 4) (v := .int (nI (ku x))) (ty := .int) (C := RX4) (T := TX4) (N := 18) hx hb hts in_X4 tyX4 tyX4_ok nmX4 hown hK hP hD hS 0 rfl rfl 3 (by decide) lk_10 (fun _ h9 => h9) rfl (by decide +kernel) rfl rfl (Nat.le_of_ble_eq_true rfl) dX4_come_134 (fun H locs hP hD hS => ?_)
      have hP : va_P (dC, dI) vwCl (mw cI a (ks x) (kt x) (ku x) kp ga gl cs f pl ln km ks kt ku kl kn cd wt) H := hP
      have hD : va_D A (mw cI a (ks x) (kt x) (ku x) kp ga gl cs f pl ln km ks kt ku kl kn cd wt) := hD
      refine lv_iconst (v := (nI 0)) hx hb dX4_come_137 (by decide) ?_
      refine lv_istore_n (lv' := [(3, .int (nI 0)), (2, .int (nI (ks x))), (0, .ref (a 0)), (1, .int (nI x))]) hx hb dX4_come_138 rfl hl (by decide) rfl (fun ls hl => ?_)
      refine lp_world (σ := Nat × (Nat → Nat) × (Nat → Nat)) (fun ⟨k, g, h⟩ => k ≤ ku x ∧ g = outW pl kl (64 * x) k ∧ h = outW ln kn (64 * x) k) (fun ⟨k, g, h⟩ => ku x - k) (fun ⟨k, g, h⟩ => [(3, .int (nI k)), (2, .int (nI (ks x))), (0, .ref (a 0)), (1, .int (nI x))]) (fun ⟨k, g, h⟩ => mw cI a (ks x) (kt x) (ku x) kp ga gl cs f g h km ks kt ku kl kn cd wt) ?_ ((0, pl, ln)) (⟨by omega, by rw [outW_0], by rw [outW_0]⟩) (hP) (hD) hS (lv_sub hl [0, 1, 2, 3] rfl)
      intro ⟨k, g, h⟩ hI ih H locs ls hP hD hS hl
      have hl : lv_has ls 5 [(3, .int (nI k)), (2, .int (nI (ks x))), (0, .ref (a 0)), (1, .int (nI x))] := hl
      have hP : va_P (dC, dI) vwCl (mw cI a (ks x) (kt x) (ku x) kp ga gl cs f g h km ks kt ku kl kn cd wt) H := hP
      have hD : va_D A (mw cI a (ks x) (kt x) (ku x) kp ga gl cs f g h km ks kt ku kl kn cd wt) := hD
      have hI : k ≤ ku x ∧ g = outW pl kl (64 * x) k ∧ h = outW ln kn (64 * x) k := hI
      obtain ⟨hk, hg, hh⟩ := hI
      have ih_139 := ih
      refine lv_iload_n hx hb dX4_come_139 rfl (lv_at hl 0 rfl) ?_
      refine lv_aload_n hx hb dX4_come_140 rfl (lv_at hl 2 rfl) ?_
      refine va_get (D := (dC, dI)) (ci := 4) (v := .int (nI (ku x))) (C := RX4) (T := TX4) (N := 18) hx hb hts in_X4 hown hK hP 0 rfl rfl 3 (by decide) lk_10 (fun _ h9 => h9) rfl dX4_come_141 ?_
      refine lv_icmp_ge (tgt := 187) hx hb dX4_come_144 (by decide) (fun c_144 => ?_) (fun c_144 => ?_)
      · have c_144 : ku x ≤ k := (nI_leI (a := ku x) (b := k) (by omega) (by omega)).mp c_144
        have e_mem : f = cmW mem km (8192 * x) ga gl (bth sz (ks x)) 8192 := by rw [hf, show i = 8192 by omega]; unfold bth; rw [if_neg (by omega)]
        have e_pl : g = outW pl kl (64 * x) (ku x) := by rw [hg, show k = ku x by omega]
        have e_ln : h = outW ln kn (64 * x) (ku x) := by rw [hh, show k = ku x by omega]
        have hP : va_P (dC, dI) vwCl (mw cI a (ks x) (kt x) (ku x) kp ga gl cs (cmW mem km (8192 * x) ga gl (bth sz (ks x)) 8192) (outW pl kl (64 * x) (ku x)) (outW ln kn (64 * x) (ku x)) km ks kt ku kl kn cd wt) H := by rw [← e_mem, ← e_pl, ← e_ln]; exact hP
        have hD : va_D A (mw cI a (ks x) (kt x) (ku x) kp ga gl cs (cmW mem km (8192 * x) ga gl (bth sz (ks x)) 8192) (outW pl kl (64 * x) (ku x)) (outW ln kn (64 * x) (ku x)) km ks kt ku kl kn cd wt) := by rw [← e_mem, ← e_pl, ← e_ln]; exact hD
        exact W.vret hx hb hr (fun t ht hW => ⟨⟨(), rfl, trivial, by rw [ht]; exact hP, va_K.moved hW.alike hK, hD⟩, hS.F ht⟩) hS.2.2 dX4_come_187
      · have c_144 : ¬ ku x ≤ k := fun q => c_144 ((nI_leI (a := ku x) (b := k) (by omega) (by omega)).mpr q)
        refine lv_aload_n hx hb dX4_come_147 rfl (lv_at hl 2 rfl) ?_
        refine va_get (D := (dC, dI)) (ci := 4) (v := .ref (a 2)) (C := RX4) (T := TX4) (N := 18) hx hb hts in_X4 hown hK hP 0 rfl rfl 4 (by decide) lk_11 (fun _ h9 => h9) rfl dX4_come_148 ?_
        refine lv_iload_n hx hb dX4_come_151 rfl (lv_at hl 0 rfl) ?_
        refine lv_aload_n hx hb dX4_come_152 rfl (lv_at hl 2 rfl) ?_
        refine va_get (D := (dC, dI)) (ci := 4) (v := .ref (a 8)) (C := RX4) (T := TX4) (N := 18) hx hb hts in_X4 hown hK hP 0 rfl rfl 11 (by decide) lk_12 (fun _ h9 => h9) rfl dX4_come_153 ?_
        refine lv_bipush (v := (nI 64)) hx hb dX4_come_156 (by decide) ?_
        refine lv_iload_n hx hb dX4_come_158 rfl (lv_at hl 3 rfl) ?_
        refine lv_imul hx hb dX4_come_159 ?_
        refine tpi (pk_mul _ _) ?_
        refine lv_iload_n hx hb dX4_come_160 rfl (lv_at hl 0 rfl) ?_
        refine lv_iadd hx hb dX4_come_161 ?_
        refine tpi (nI_add _ _) ?_
        refine va_iald hx hb hK hP 8 0 rfl rfl (vp_in_nI (by omega) (by omega)) dX4_come_162 ?_
        refine tpi (nf_at (by omega)) ?_
        refine va_iast hx hb hK hP hD hS 2 0 rfl rfl (vp_in_nI (by omega) (by omega)) dX4_come_163 (fun H locs hP hD hS => ?_)
        rw [nf_up (by omega)] at hP hD
        have hP : va_P (dC, dI) vwCl (mw cI a (ks x) (kt x) (ku x) kp ga gl cs f (va_up g k (kl (64 * x + k))) h km ks kt ku kl kn cd wt) H := hP
        have hD : va_D A (mw cI a (ks x) (kt x) (ku x) kp ga gl cs f (va_up g k (kl (64 * x + k))) h km ks kt ku kl kn cd wt) := hD
        refine lv_aload_n hx hb dX4_come_164 rfl (lv_at hl 2 rfl) ?_
        refine va_get (D := (dC, dI)) (ci := 4) (v := .ref (a 3)) (C := RX4) (T := TX4) (N := 18) hx hb hts in_X4 hown hK hP 0 rfl rfl 5 (by decide) lk_13 (fun _ h9 => h9) rfl dX4_come_165 ?_
        refine lv_iload_n hx hb dX4_come_168 rfl (lv_at hl 0 rfl) ?_
        refine lv_aload_n hx hb dX4_come_169 rfl (lv_at hl 2 rfl) ?_
        refine va_get (D := (dC, dI)) (ci := 4) (v := .ref (a 9)) (C := RX4) (T := TX4) (N := 18) hx hb hts in_X4 hown hK hP 0 rfl rfl 12 (by decide) lk_14 (fun _ h9 => h9) rfl dX4_come_170 ?_
        refine lv_bipush (v := (nI 64)) hx hb dX4_come_173 (by decide) ?_
        refine lv_iload_n hx hb dX4_come_175 rfl (lv_at hl 3 rfl) ?_
        refine lv_imul hx hb dX4_come_176 ?_
        refine tpi (pk_mul _ _) ?_
        refine lv_iload_n hx hb dX4_come_177 rfl (lv_at hl 0 rfl) ?_
        refine lv_iadd hx hb dX4_come_178 ?_
        refine tpi (nI_add _ _) ?_
        refine va_iald hx hb hK hP 9 0 rfl rfl (vp_in_nI (by omega) (by omega)) dX4_come_179 ?_
        refine tpi (nf_at (by omega)) ?_
        refine va_iast hx hb hK hP hD hS 3 0 rfl rfl (vp_in_nI (by omega) (by omega)) dX4_come_180 (fun H locs hP hD hS => ?_)
        rw [nf_up (by omega)] at hP hD
        have hP : va_P (dC, dI) vwCl (mw cI a (ks x) (kt x) (ku x) kp ga gl cs f (va_up g k (kl (64 * x + k))) (va_up h k (kn (64 * x + k))) km ks kt ku kl kn cd wt) H := hP
        have hD : va_D A (mw cI a (ks x) (kt x) (ku x) kp ga gl cs f (va_up g k (kl (64 * x + k))) (va_up h k (kn (64 * x + k))) km ks kt ku kl kn cd wt) := hD
        refine lv_iinc (v := (nI (k + 1))) (lv' := [(3, .int (nI (k + 1))), (2, .int (nI (ks x))), (0, .ref (a 0)), (1, .int (nI x))]) hx hb dX4_come_181 hl (k := 0) rfl (nI_inc _) (by decide) rfl (fun ls hl => ?_)
        refine lv_goto (tgt := 139) hx hb dX4_come_184 (by decide) ?_
        exact ih_139 (k + 1, va_up g k (kl (64 * x + k)), va_up h k (kn (64 * x + k))) (⟨by omega, by rw [hg, outW_s], by rw [hh, outW_s]⟩) (show ku x - (k + 1) < ku x - k by omega) H locs ls (hP) (hD) hS (lv_sub hl [0, 1, 2, 3] rfl)
    · have c_33 : ¬ 8192 ≤ i := fun q => c_33 ((nI_leI (a := 8192) (b := i) (by omega) (by omega)).mpr q)
      refine lv_iload_n hx hb dX4_come_36 rfl (lv_at hl 0 rfl) ?_
      refine lv_aload_n hx hb dX4_come_37 rfl (lv_at hl 2 rfl) ?_
      refine va_get (D := (dC, dI)) (ci := 4) (v := .int (nI ga)) (C := RX4) (T := TX4) (N := 18) hx hb hts in_X4 hown hK hP 0 rfl rfl 13 (by decide) lk_3 (fun _ h9 => h9) rfl dX4_come_38 ?_
      refine lv_icmp_lt (tgt := 66) hx hb dX4_come_41 (by decide) (fun c_41 => ?_) (fun c_41 => ?_)
      · have c_41 : i < ga := (nI_ltI (a := i) (b := ga) (by omega) (by omega)).mp c_41
        refine lv_iconst (v := (nI 0)) hx hb dX4_come_66 (by decide) ?_
        refine lv_istore (lv' := [(4, .int (nI 0)), (3, .int (nI i)), (2, .int (nI (ks x))), (0, .ref (a 0)), (1, .int (nI x))]) hx hb dX4_come_67 hl (by decide) rfl (fun ls hl => ?_)
        refine lv_aload_n hx hb dX4_come_69 rfl (lv_at hl 3 rfl) ?_
        refine va_get (D := (dC, dI)) (ci := 4) (v := .ref (a 1)) (C := RX4) (T := TX4) (N := 18) hx hb hts in_X4 hown hK hP 0 rfl rfl 0 (by decide) lk_5 (fun _ h9 => h9) rfl dX4_come_70 ?_
        refine lv_iload_n hx hb dX4_come_73 rfl (lv_at hl 1 rfl) ?_
        refine lv_iload hx hb dX4_come_74 (lv_at hl 0 rfl) ?_
        refine lv_if_eq (tgt := 88) hx hb dX4_come_76 (by decide) (fun c_76 => ?_) (fun c_76 => ?_)
        · have c_76 : 0 = 0 := (nZ_eq (by omega)).mp c_76
          refine lv_aload_n hx hb dX4_come_88 rfl (lv_at hl 3 rfl) ?_
          refine va_get (D := (dC, dI)) (ci := 4) (v := .ref (a 4)) (C := RX4) (T := TX4) (N := 18) hx hb hts in_X4 hown hK hP 0 rfl rfl 7 (by decide) lk_6 (fun _ h9 => h9) rfl dX4_come_89 ?_
          refine lv_sipush (v := (nI 8192)) hx hb dX4_come_92 (by decide) ?_
          refine lv_iload_n hx hb dX4_come_95 rfl (lv_at hl 4 rfl) ?_
          refine lv_imul hx hb dX4_come_96 ?_
          refine tpi (pk_mul _ _) ?_
          refine lv_iload_n hx hb dX4_come_97 rfl (lv_at hl 1 rfl) ?_
          refine lv_iadd hx hb dX4_come_98 ?_
          refine tpi (nI_add _ _) ?_
          refine va_iald hx hb hK hP 4 0 rfl rfl (vp_in_nI (by omega) (by omega)) dX4_come_99 ?_
          refine tpi (nf_at (by omega)) ?_
          refine va_iast hx hb hK hP hD hS 1 0 rfl rfl (vp_in_nI (by omega) (by omega)) dX4_come_100 (fun H locs hP hD hS => ?_)
          rw [nf_up (by omega)] at hP hD
          have hP : va_P (dC, dI) vwCl (mw cI a sz st us kp ga gl cs (va_up f i (km (8192 * x + i))) pl ln km ks kt ku kl kn cd wt) H := hP
          have hD : va_D A (mw cI a sz st us kp ga gl cs (va_up f i (km (8192 * x + i))) pl ln km ks kt ku kl kn cd wt) := hD
          refine lv_iinc (v := (nI (i + 1))) (lv' := [(3, .int (nI (i + 1))), (4, .int (nI 0)), (2, .int (nI (ks x))), (0, .ref (a 0)), (1, .int (nI x))]) hx hb dX4_come_101 hl (k := 1) rfl (nI_inc _) (by decide) rfl (fun ls hl => ?_)
          refine lv_goto (tgt := 29) hx hb dX4_come_104 (by decide) ?_
          exact ih_29 (i + 1, va_up f i (km (8192 * x + i))) (⟨by omega, by rw [hf, cmW_s (by rw [if_neg (by omega)])]⟩) (show 8192 - (i + 1) < 8192 - i by omega) H locs ls (hP) (hD) hS (lv_sub hl [0, 2, 3, 4] rfl)
        · exact absurd c_76 (by decide)
      · have c_41 : ¬ i < ga := fun q => c_41 ((nI_ltI (a := i) (b := ga) (by omega) (by omega)).mpr q)
        refine lv_iload_n hx hb dX4_come_44 rfl (lv_at hl 0 rfl) ?_
        refine lv_aload_n hx hb dX4_come_45 rfl (lv_at hl 2 rfl) ?_
        refine va_get (D := (dC, dI)) (ci := 4) (v := .int (nI ga)) (C := RX4) (T := TX4) (N := 18) hx hb hts in_X4 hown hK hP 0 rfl rfl 13 (by decide) lk_3 (fun _ h9 => h9) rfl dX4_come_46 ?_
        refine lv_aload_n hx hb dX4_come_49 rfl (lv_at hl 2 rfl) ?_
        refine va_get (D := (dC, dI)) (ci := 4) (v := .int (nI gl)) (C := RX4) (T := TX4) (N := 18) hx hb hts in_X4 hown hK hP 0 rfl rfl 14 (by decide) lk_4 (fun _ h9 => h9) rfl dX4_come_50 ?_
        refine lv_iadd hx hb dX4_come_53 ?_
        refine tpi (nI_add _ _) ?_
        refine lv_icmp_ge (tgt := 66) hx hb dX4_come_54 (by decide) (fun c_54 => ?_) (fun c_54 => ?_)
        · have c_54 : ga + gl ≤ i := (nI_leI (a := ga + gl) (b := i) (by omega) (by omega)).mp c_54
          refine lv_iconst (v := (nI 0)) hx hb dX4_come_66 (by decide) ?_
          refine lv_istore (lv' := [(4, .int (nI 0)), (3, .int (nI i)), (2, .int (nI (ks x))), (0, .ref (a 0)), (1, .int (nI x))]) hx hb dX4_come_67 hl (by decide) rfl (fun ls hl => ?_)
          refine lv_aload_n hx hb dX4_come_69 rfl (lv_at hl 3 rfl) ?_
          refine va_get (D := (dC, dI)) (ci := 4) (v := .ref (a 1)) (C := RX4) (T := TX4) (N := 18) hx hb hts in_X4 hown hK hP 0 rfl rfl 0 (by decide) lk_5 (fun _ h9 => h9) rfl dX4_come_70 ?_
          refine lv_iload_n hx hb dX4_come_73 rfl (lv_at hl 1 rfl) ?_
          refine lv_iload hx hb dX4_come_74 (lv_at hl 0 rfl) ?_
          refine lv_if_eq (tgt := 88) hx hb dX4_come_76 (by decide) (fun c_76 => ?_) (fun c_76 => ?_)
          · have c_76 : 0 = 0 := (nZ_eq (by omega)).mp c_76
            refine lv_aload_n hx hb dX4_come_88 rfl (lv_at hl 3 rfl) ?_
            refine va_get (D := (dC, dI)) (ci := 4) (v := .ref (a 4)) (C := RX4) (T := TX4) (N := 18) hx hb hts in_X4 hown hK hP 0 rfl rfl 7 (by decide) lk_6 (fun _ h9 => h9) rfl dX4_come_89 ?_
            refine lv_sipush (v := (nI 8192)) hx hb dX4_come_92 (by decide) ?_
            refine lv_iload_n hx hb dX4_come_95 rfl (lv_at hl 4 rfl) ?_
            refine lv_imul hx hb dX4_come_96 ?_
            refine tpi (pk_mul _ _) ?_
            refine lv_iload_n hx hb dX4_come_97 rfl (lv_at hl 1 rfl) ?_
            refine lv_iadd hx hb dX4_come_98 ?_
            refine tpi (nI_add _ _) ?_
            refine va_iald hx hb hK hP 4 0 rfl rfl (vp_in_nI (by omega) (by omega)) dX4_come_99 ?_
            refine tpi (nf_at (by omega)) ?_
            refine va_iast hx hb hK hP hD hS 1 0 rfl rfl (vp_in_nI (by omega) (by omega)) dX4_come_100 (fun H locs hP hD hS => ?_)
            rw [nf_up (by omega)] at hP hD
            have hP : va_P (dC, dI) vwCl (mw cI a sz st us kp ga gl cs (va_up f i (km (8192 * x + i))) pl ln km ks kt ku kl kn cd wt) H := hP
            have hD : va_D A (mw cI a sz st us kp ga gl cs (va_up f i (km (8192 * x + i))) pl ln km ks kt ku kl kn cd wt) := hD
            refine lv_iinc (v := (nI (i + 1))) (lv' := [(3, .int (nI (i + 1))), (4, .int (nI 0)), (2, .int (nI (ks x))), (0, .ref (a 0)), (1, .int (nI x))]) hx hb dX4_come_101 hl (k := 1) rfl (nI_inc _) (by decide) rfl (fun ls hl => ?_)
            refine lv_goto (tgt := 29) hx hb dX4_come_104 (by decide) ?_
            exact ih_29 (i + 1, va_up f i (km (8192 * x + i))) (⟨by omega, by rw [hf, cmW_s (by rw [if_neg (by omega)])]⟩) (show 8192 - (i + 1) < 8192 - i by omega) H locs ls (hP) (hD) hS (lv_sub hl [0, 2, 3, 4] rfl)
          · exact absurd c_76 (by decide)
        · have c_54 : ¬ ga + gl ≤ i := fun q => c_54 ((nI_leI (a := ga + gl) (b := i) (by omega) (by omega)).mpr q)
          refine lv_iload_n hx hb dX4_come_57 rfl (lv_at hl 0 rfl) ?_
          refine lv_iload_n hx hb dX4_come_58 rfl (lv_at hl 1 rfl) ?_
          refine lv_icmp_ge (tgt := 66) hx hb dX4_come_59 (by decide) (fun c_59 => ?_) (fun c_59 => ?_)
          · have c_59 : ks x ≤ i := (nI_leI (a := ks x) (b := i) (by omega) (by omega)).mp c_59
            refine lv_iconst (v := (nI 0)) hx hb dX4_come_66 (by decide) ?_
            refine lv_istore (lv' := [(4, .int (nI 0)), (3, .int (nI i)), (2, .int (nI (ks x))), (0, .ref (a 0)), (1, .int (nI x))]) hx hb dX4_come_67 hl (by decide) rfl (fun ls hl => ?_)
            refine lv_aload_n hx hb dX4_come_69 rfl (lv_at hl 3 rfl) ?_
            refine va_get (D := (dC, dI)) (ci := 4) (v := .ref (a 1)) (C := RX4) (T := TX4) (N := 18) hx hb hts in_X4 hown hK hP 0 rfl rfl 0 (by decide) lk_5 (fun _ h9 => h9) rfl dX4_come_70 ?_
            refine lv_iload_n hx hb dX4_come_73 rfl (lv_at hl 1 rfl) ?_
            refine lv_iload hx hb dX4_come_74 (lv_at hl 0 rfl) ?_
            refine lv_if_eq (tgt := 88) hx hb dX4_come_76 (by decide) (fun c_76 => ?_) (fun c_76 => ?_)
            · have c_76 : 0 = 0 := (nZ_eq (by omega)).mp c_76
              refine lv_aload_n hx hb dX4_come_88 rfl (lv_at hl 3 rfl) ?_
              refine va_get (D := (dC, dI)) (ci := 4) (v := .ref (a 4)) (C := RX4) (T := TX4) (N := 18) hx hb hts in_X4 hown hK hP 0 rfl rfl 7 (by decide) lk_6 (fun _ h9 => h9) rfl dX4_come_89 ?_
              refine lv_sipush (v := (nI 8192)) hx hb dX4_come_92 (by decide) ?_
              refine lv_iload_n hx hb dX4_come_95 rfl (lv_at hl 4 rfl) ?_
              refine lv_imul hx hb dX4_come_96 ?_
              refine tpi (pk_mul _ _) ?_
              refine lv_iload_n hx hb dX4_come_97 rfl (lv_at hl 1 rfl) ?_
              refine lv_iadd hx hb dX4_come_98 ?_
              refine tpi (nI_add _ _) ?_
              refine va_iald hx hb hK hP 4 0 rfl rfl (vp_in_nI (by omega) (by omega)) dX4_come_99 ?_
              refine tpi (nf_at (by omega)) ?_
              refine va_iast hx hb hK hP hD hS 1 0 rfl rfl (vp_in_nI (by omega) (by omega)) dX4_come_100 (fun H locs hP hD hS => ?_)
              rw [nf_up (by omega)] at hP hD
              have hP : va_P (dC, dI) vwCl (mw cI a sz st us kp ga gl cs (va_up f i (km (8192 * x + i))) pl ln km ks kt ku kl kn cd wt) H := hP
              have hD : va_D A (mw cI a sz st us kp ga gl cs (va_up f i (km (8192 * x + i))) pl ln km ks kt ku kl kn cd wt) := hD
              refine lv_iinc (v := (nI (i + 1))) (lv' := [(3, .int (nI (i + 1))), (4, .int (nI 0)), (2, .int (nI (ks x))), (0, .ref (a 0)), (1, .int (nI x))]) hx hb dX4_come_101 hl (k := 1) rfl (nI_inc _) (by decide) rfl (fun ls hl => ?_)
              refine lv_goto (tgt := 29) hx hb dX4_come_104 (by decide) ?_
              exact ih_29 (i + 1, va_up f i (km (8192 * x + i))) (⟨by omega, by rw [hf, cmW_s (by rw [if_neg (by omega)])]⟩) (show 8192 - (i + 1) < 8192 - i by omega) H locs ls (hP) (hD) hS (lv_sub hl [0, 2, 3, 4] rfl)
            · exact absurd c_76 (by decide)
          · have c_59 : ¬ ks x ≤ i := fun q => c_59 ((nI_leI (a := ks x) (b := i) (by omega) (by omega)).mpr q)
            refine lv_iconst (v := (nI 1)) hx hb dX4_come_62 (by decide) ?_
            refine lv_goto (tgt := 67) hx hb dX4_come_63 (by decide) ?_
            refine lv_istore (lv' := [(4, .int (nI 1)), (3, .int (nI i)), (2, .int (nI (ks x))), (0, .ref (a 0)), (1, .int (nI x))]) hx hb dX4_come_67 hl (by decide) rfl (fun ls hl => ?_)
            refine lv_aload_n hx hb dX4_come_69 rfl (lv_at hl 3 rfl) ?_
            refine va_get (D := (dC, dI)) (ci := 4) (v := .ref (a 1)) (C := RX4) (T := TX4) (N := 18) hx hb hts in_X4 hown hK hP 0 rfl rfl 0 (by decide) lk_5 (fun _ h9 => h9) rfl dX4_come_70 ?_
            refine lv_iload_n hx hb dX4_come_73 rfl (lv_at hl 1 rfl) ?_
            refine lv_iload hx hb dX4_come_74 (lv_at hl 0 rfl) ?_
            refine lv_if_eq (tgt := 88) hx hb dX4_come_76 (by decide) (fun c_76 => ?_) (fun c_76 => ?_)
            · exact absurd c_76 (by decide)
            · have c_76 : ¬ 1 = 0 := fun q => c_76 ((nZ_eq (by omega)).mpr q)
              refine lv_aload_n hx hb dX4_come_79 rfl (lv_at hl 3 rfl) ?_
              refine va_get (D := (dC, dI)) (ci := 4) (v := .ref (a 1)) (C := RX4) (T := TX4) (N := 18) hx hb hts in_X4 hown hK hP 0 rfl rfl 0 (by decide) lk_5 (fun _ h9 => h9) rfl dX4_come_80 ?_
              refine lv_iload_n hx hb dX4_come_83 rfl (lv_at hl 1 rfl) ?_
              refine va_iald hx hb hK hP 1 0 rfl rfl (vp_in_nI (by omega) (by omega)) dX4_come_84 ?_
              refine tpi (nf_at (by omega)) ?_
              refine lv_goto (tgt := 100) hx hb dX4_come_85 (by decide) ?_
              refine va_iast hx hb hK hP hD hS 1 0 rfl rfl (vp_in_nI (by omega) (by omega)) dX4_come_100 (fun H locs hP hD hS => ?_)
              rw [nf_up (by omega)] at hP hD
              have hP : va_P (dC, dI) vwCl (mw cI a sz st us kp ga gl cs (va_up f i (f i)) pl ln km ks kt ku kl kn cd wt) H := hP
              have hD : va_D A (mw cI a sz st us kp ga gl cs (va_up f i (f i)) pl ln km ks kt ku kl kn cd wt) := hD
              refine lv_iinc (v := (nI (i + 1))) (lv' := [(3, .int (nI (i + 1))), (4, .int (nI 1)), (2, .int (nI (ks x))), (0, .ref (a 0)), (1, .int (nI x))]) hx hb dX4_come_101 hl (k := 1) rfl (nI_inc _) (by decide) rfl (fun ls hl => ?_)
              refine lv_goto (tgt := 29) hx hb dX4_come_104 (by decide) ?_
              exact ih_29 (i + 1, va_up f i (f i)) (⟨by omega, by rw [hf, cmW_s (by rw [if_pos (by omega), cmW_at])]⟩) (show 8192 - (i + 1) < 8192 - i by omega) H locs ls (hP) (hD) hS (lv_sub hl [0, 2, 3, 4] rfl)
  · have c_10 : ¬ ks x ≤ sz := fun q => c_10 ((nI_leI (a := ks x) (b := sz) (by omega) (by omega)).mpr q)
    refine lv_aload_n hx hb dX4_come_13 rfl (lv_at hl 0 rfl) ?_
    refine va_get (D := (dC, dI)) (ci := 4) (v := .int (nI sz)) (C := RX4) (T := TX4) (N := 18) hx hb hts in_X4 hown hK hP 0 rfl rfl 1 (by decide) lk_1 (fun _ h9 => h9) rfl dX4_come_14 ?_
    refine lv_goto (tgt := 26) hx hb dX4_come_17 (by decide) ?_
    refine lv_istore_n (lv' := [(2, .int (nI sz)), (0, .ref (a 0)), (1, .int (nI x))]) hx hb dX4_come_26 rfl hl (by decide) rfl (fun ls hl => ?_)
    refine lv_iconst (v := (nI 0)) hx hb dX4_come_27 (by decide) ?_
    refine lv_istore_n (lv' := [(3, .int (nI 0)), (2, .int (nI sz)), (0, .ref (a 0)), (1, .int (nI x))]) hx hb dX4_come_28 rfl hl (by decide) rfl (fun ls hl => ?_)
    refine lp_world (σ := Nat × (Nat → Nat)) (fun ⟨i, f⟩ => i ≤ 8192 ∧ f = cmW mem km (8192 * x) ga gl sz i) (fun ⟨i, f⟩ => 8192 - i) (fun ⟨i, f⟩ => [(3, .int (nI i)), (2, .int (nI sz)), (0, .ref (a 0)), (1, .int (nI x))]) (fun ⟨i, f⟩ => mw cI a sz st us kp ga gl cs f pl ln km ks kt ku kl kn cd wt) ?_ ((0, mem)) (⟨by omega, by rw [cmW_0]⟩) (hP) (hD) hS (lv_sub hl [0, 1, 2, 3] rfl)
    intro ⟨i, f⟩ hI ih H locs ls hP hD hS hl
    have hl : lv_has ls 5 [(3, .int (nI i)), (2, .int (nI sz)), (0, .ref (a 0)), (1, .int (nI x))] := hl
    have hP : va_P (dC, dI) vwCl (mw cI a sz st us kp ga gl cs f pl ln km ks kt ku kl kn cd wt) H := hP
    have hD : va_D A (mw cI a sz st us kp ga gl cs f pl ln km ks kt ku kl kn cd wt) := hD
    have hI : i ≤ 8192 ∧ f = cmW mem km (8192 * x) ga gl sz i := hI
    obtain ⟨hi, hf⟩ := hI
    have ih_29 := ih
    refine lv_iload_n hx hb dX4_come_29 rfl (lv_at hl 0 rfl) ?_
    refine lv_sipush (v := (nI 8192)) hx hb dX4_come_30 (by decide) ?_
    refine lv_icmp_ge (tgt := 107) hx hb dX4_come_33 (by decide) (fun c_33 => ?_) (fun c_33 => ?_)
    · have c_33 : 8192 ≤ i := (nI_leI (a := 8192) (b := i) (by omega) (by omega)).mp c_33
      refine lv_aload_n hx hb dX4_come_107 rfl (lv_at hl 2 rfl) ?_
      refine lv_aload_n hx hb dX4_come_108 rfl (lv_at hl 2 rfl) ?_
      refine va_get (D := (dC, dI)) (ci := 4) (v := .ref (a 5)) (C := RX4) (T := TX4) (N := 18) hx hb hts in_X4 hown hK hP 0 rfl rfl 8 (by decide) lk_2 (fun _ h9 => h9) rfl dX4_come_109 ?_
      refine lv_iload_n hx hb dX4_come_112 rfl (lv_at hl 3 rfl) ?_
      refine va_iald hx hb hK hP 5 0 rfl rfl (vp_in_nI (by omega) (by omega)) dX4_come_113 ?_
      refine tpi (nf_at (by omega)) ?_
      refine va_put (D := (dC, dI)) (ci := 4) (v := .int (nI (ks x))) (ty := .int) (C := RX4) (T := TX4) (N := 18) hx hb hts in_X4 tyX4 tyX4_ok nmX4 hown hK hP hD hS 0 rfl rfl 1 (by decide) lk_1 (fun _ h9 => h9) rfl (by decide +kernel) rfl rfl (Nat.le_of_ble_eq_true rfl) dX4_come_114 (fun H locs hP hD hS => ?_)
      have hP : va_P (dC, dI) vwCl (mw cI a (ks x) st us kp ga gl cs f pl ln km ks kt ku kl kn cd wt) H := hP
      have hD : va_D A (mw cI a (ks x) st us kp ga gl cs f pl ln km ks kt ku kl kn cd wt) := hD
      refine lv_aload_n hx hb dX4_come_117 rfl (lv_at hl 2 rfl) ?_
      refine lv_aload_n hx hb dX4_come_118 rfl (lv_at hl 2 rfl) ?_
      refine va_get (D := (dC, dI)) (ci := 4) (v := .ref (a 6)) (C := RX4) (T := TX4) (N := 18) hx hb hts in_X4 hown hK hP 0 rfl rfl 9 (by decide) lk_7 (fun _ h9 => h9) rfl dX4_come_119 ?_
      refine lv_iload_n hx hb dX4_come_122 rfl (lv_at hl 3 rfl) ?_
      refine va_iald hx hb hK hP 6 0 rfl rfl (vp_in_nI (by omega) (by omega)) dX4_come_123 ?_
      refine tpi (nf_at (by omega)) ?_
      refine va_put (D := (dC, dI)) (ci := 4) (v := .int (nI (kt x))) (ty := .int) (C := RX4) (T := TX4) (N := 18) hx hb hts in_X4 tyX4 tyX4_ok nmX4 hown hK hP hD hS 0 rfl rfl 2 (by decide) lk_8 (fun _ h9 => h9) rfl (by decide +kernel) rfl rfl (Nat.le_of_ble_eq_true rfl) dX4_come_124 (fun H locs hP hD hS => ?_)
      have hP : va_P (dC, dI) vwCl (mw cI a (ks x) (kt x) us kp ga gl cs f pl ln km ks kt ku kl kn cd wt) H := hP
      have hD : va_D A (mw cI a (ks x) (kt x) us kp ga gl cs f pl ln km ks kt ku kl kn cd wt) := hD
      refine lv_aload_n hx hb dX4_come_127 rfl (lv_at hl 2 rfl) ?_
      refine lv_aload_n hx hb dX4_come_128 rfl (lv_at hl 2 rfl) ?_
      refine va_get (D := (dC, dI)) (ci := 4) (v := .ref (a 7)) (C := RX4) (T := TX4) (N := 18) hx hb hts in_X4 hown hK hP 0 rfl rfl 10 (by decide) lk_9 (fun _ h9 => h9) rfl dX4_come_129 ?_
      refine lv_iload_n hx hb dX4_come_132 rfl (lv_at hl 3 rfl) ?_
      refine va_iald hx hb hK hP 7 0 rfl rfl (vp_in_nI (by omega) (by omega)) dX4_come_133 ?_
      refine tpi (nf_at (by omega)) ?_
      refine va_put (D := (dC, dI)) (ci := 4) (v := .int (nI (ku x))) (ty := .int) (C := RX4) (T := TX4) (N := 18) hx hb hts in_X4 tyX4 tyX4_ok nmX4 hown hK hP hD hS 0 rfl rfl 3 (by decide) lk_10 (fun _ h9 => h9) rfl (by decide +kernel) rfl rfl (Nat.le_of_ble_eq_true rfl) dX4_come_134 (fun H locs hP hD hS => ?_)
      have hP : va_P (dC, dI) vwCl (mw cI a (ks x) (kt x) (ku x) kp ga gl cs f pl ln km ks kt ku kl kn cd wt) H := hP
      have hD : va_D A (mw cI a (ks x) (kt x) (ku x) kp ga gl cs f pl ln km ks kt ku kl kn cd wt) := hD
      refine lv_iconst (v := (nI 0)) hx hb dX4_come_137 (by decide) ?_
      refine lv_istore_n (lv' := [(3, .int (nI 0)), (2, .int (nI sz)), (0, .ref (a 0)), (1, .int (nI x))]) hx hb dX4_come_138 rfl hl (by decide) rfl (fun ls hl => ?_)
      refine lp_world (σ := Nat × (Nat → Nat) × (Nat → Nat)) (fun ⟨k, g, h⟩ => k ≤ ku x ∧ g = outW pl kl (64 * x) k ∧ h = outW ln kn (64 * x) k) (fun ⟨k, g, h⟩ => ku x - k) (fun ⟨k, g, h⟩ => [(3, .int (nI k)), (2, .int (nI sz)), (0, .ref (a 0)), (1, .int (nI x))]) (fun ⟨k, g, h⟩ => mw cI a (ks x) (kt x) (ku x) kp ga gl cs f g h km ks kt ku kl kn cd wt) ?_ ((0, pl, ln)) (⟨by omega, by rw [outW_0], by rw [outW_0]⟩) (hP) (hD) hS (lv_sub hl [0, 1, 2, 3] rfl)
      intro ⟨k, g, h⟩ hI ih H locs ls hP hD hS hl
      have hl : lv_has ls 5 [(3, .int (nI k)), (2, .int (nI sz)), (0, .ref (a 0)), (1, .int (nI x))] := hl
      have hP : va_P (dC, dI) vwCl (mw cI a (ks x) (kt x) (ku x) kp ga gl cs f g h km ks kt ku kl kn cd wt) H := hP
      have hD : va_D A (mw cI a (ks x) (kt x) (ku x) kp ga gl cs f g h km ks kt ku kl kn cd wt) := hD
      have hI : k ≤ ku x ∧ g = outW pl kl (64 * x) k ∧ h = outW ln kn (64 * x) k := hI
      obtain ⟨hk, hg, hh⟩ := hI
      have ih_139 := ih
      refine lv_iload_n hx hb dX4_come_139 rfl (lv_at hl 0 rfl) ?_
      refine lv_aload_n hx hb dX4_come_140 rfl (lv_at hl 2 rfl) ?_
      refine va_get (D := (dC, dI)) (ci := 4) (v := .int (nI (ku x))) (C := RX4) (T := TX4) (N := 18) hx hb hts in_X4 hown hK hP 0 rfl rfl 3 (by decide) lk_10 (fun _ h9 => h9) rfl dX4_come_141 ?_
      refine lv_icmp_ge (tgt := 187) hx hb dX4_come_144 (by decide) (fun c_144 => ?_) (fun c_144 => ?_)
      · have c_144 : ku x ≤ k := (nI_leI (a := ku x) (b := k) (by omega) (by omega)).mp c_144
        have e_mem : f = cmW mem km (8192 * x) ga gl (bth sz (ks x)) 8192 := by rw [hf, show i = 8192 by omega]; unfold bth; rw [if_pos (by omega)]
        have e_pl : g = outW pl kl (64 * x) (ku x) := by rw [hg, show k = ku x by omega]
        have e_ln : h = outW ln kn (64 * x) (ku x) := by rw [hh, show k = ku x by omega]
        have hP : va_P (dC, dI) vwCl (mw cI a (ks x) (kt x) (ku x) kp ga gl cs (cmW mem km (8192 * x) ga gl (bth sz (ks x)) 8192) (outW pl kl (64 * x) (ku x)) (outW ln kn (64 * x) (ku x)) km ks kt ku kl kn cd wt) H := by rw [← e_mem, ← e_pl, ← e_ln]; exact hP
        have hD : va_D A (mw cI a (ks x) (kt x) (ku x) kp ga gl cs (cmW mem km (8192 * x) ga gl (bth sz (ks x)) 8192) (outW pl kl (64 * x) (ku x)) (outW ln kn (64 * x) (ku x)) km ks kt ku kl kn cd wt) := by rw [← e_mem, ← e_pl, ← e_ln]; exact hD
        exact W.vret hx hb hr (fun t ht hW => ⟨⟨(), rfl, trivial, by rw [ht]; exact hP, va_K.moved hW.alike hK, hD⟩, hS.F ht⟩) hS.2.2 dX4_come_187
      · have c_144 : ¬ ku x ≤ k := fun q => c_144 ((nI_leI (a := ku x) (b := k) (by omega) (by omega)).mpr q)
        refine lv_aload_n hx hb dX4_come_147 rfl (lv_at hl 2 rfl) ?_
        refine va_get (D := (dC, dI)) (ci := 4) (v := .ref (a 2)) (C := RX4) (T := TX4) (N := 18) hx hb hts in_X4 hown hK hP 0 rfl rfl 4 (by decide) lk_11 (fun _ h9 => h9) rfl dX4_come_148 ?_
        refine lv_iload_n hx hb dX4_come_151 rfl (lv_at hl 0 rfl) ?_
        refine lv_aload_n hx hb dX4_come_152 rfl (lv_at hl 2 rfl) ?_
        refine va_get (D := (dC, dI)) (ci := 4) (v := .ref (a 8)) (C := RX4) (T := TX4) (N := 18) hx hb hts in_X4 hown hK hP 0 rfl rfl 11 (by decide) lk_12 (fun _ h9 => h9) rfl dX4_come_153 ?_
        refine lv_bipush (v := (nI 64)) hx hb dX4_come_156 (by decide) ?_
        refine lv_iload_n hx hb dX4_come_158 rfl (lv_at hl 3 rfl) ?_
        refine lv_imul hx hb dX4_come_159 ?_
        refine tpi (pk_mul _ _) ?_
        refine lv_iload_n hx hb dX4_come_160 rfl (lv_at hl 0 rfl) ?_
        refine lv_iadd hx hb dX4_come_161 ?_
        refine tpi (nI_add _ _) ?_
        refine va_iald hx hb hK hP 8 0 rfl rfl (vp_in_nI (by omega) (by omega)) dX4_come_162 ?_
        refine tpi (nf_at (by omega)) ?_
        refine va_iast hx hb hK hP hD hS 2 0 rfl rfl (vp_in_nI (by omega) (by omega)) dX4_come_163 (fun H locs hP hD hS => ?_)
        rw [nf_up (by omega)] at hP hD
        have hP : va_P (dC, dI) vwCl (mw cI a (ks x) (kt x) (ku x) kp ga gl cs f (va_up g k (kl (64 * x + k))) h km ks kt ku kl kn cd wt) H := hP
        have hD : va_D A (mw cI a (ks x) (kt x) (ku x) kp ga gl cs f (va_up g k (kl (64 * x + k))) h km ks kt ku kl kn cd wt) := hD
        refine lv_aload_n hx hb dX4_come_164 rfl (lv_at hl 2 rfl) ?_
        refine va_get (D := (dC, dI)) (ci := 4) (v := .ref (a 3)) (C := RX4) (T := TX4) (N := 18) hx hb hts in_X4 hown hK hP 0 rfl rfl 5 (by decide) lk_13 (fun _ h9 => h9) rfl dX4_come_165 ?_
        refine lv_iload_n hx hb dX4_come_168 rfl (lv_at hl 0 rfl) ?_
        refine lv_aload_n hx hb dX4_come_169 rfl (lv_at hl 2 rfl) ?_
        refine va_get (D := (dC, dI)) (ci := 4) (v := .ref (a 9)) (C := RX4) (T := TX4) (N := 18) hx hb hts in_X4 hown hK hP 0 rfl rfl 12 (by decide) lk_14 (fun _ h9 => h9) rfl dX4_come_170 ?_
        refine lv_bipush (v := (nI 64)) hx hb dX4_come_173 (by decide) ?_
        refine lv_iload_n hx hb dX4_come_175 rfl (lv_at hl 3 rfl) ?_
        refine lv_imul hx hb dX4_come_176 ?_
        refine tpi (pk_mul _ _) ?_
        refine lv_iload_n hx hb dX4_come_177 rfl (lv_at hl 0 rfl) ?_
        refine lv_iadd hx hb dX4_come_178 ?_
        refine tpi (nI_add _ _) ?_
        refine va_iald hx hb hK hP 9 0 rfl rfl (vp_in_nI (by omega) (by omega)) dX4_come_179 ?_
        refine tpi (nf_at (by omega)) ?_
        refine va_iast hx hb hK hP hD hS 3 0 rfl rfl (vp_in_nI (by omega) (by omega)) dX4_come_180 (fun H locs hP hD hS => ?_)
        rw [nf_up (by omega)] at hP hD
        have hP : va_P (dC, dI) vwCl (mw cI a (ks x) (kt x) (ku x) kp ga gl cs f (va_up g k (kl (64 * x + k))) (va_up h k (kn (64 * x + k))) km ks kt ku kl kn cd wt) H := hP
        have hD : va_D A (mw cI a (ks x) (kt x) (ku x) kp ga gl cs f (va_up g k (kl (64 * x + k))) (va_up h k (kn (64 * x + k))) km ks kt ku kl kn cd wt) := hD
        refine lv_iinc (v := (nI (k + 1))) (lv' := [(3, .int (nI (k + 1))), (2, .int (nI sz)), (0, .ref (a 0)), (1, .int (nI x))]) hx hb dX4_come_181 hl (k := 0) rfl (nI_inc _) (by decide) rfl (fun ls hl => ?_)
        refine lv_goto (tgt := 139) hx hb dX4_come_184 (by decide) ?_
        exact ih_139 (k + 1, va_up g k (kl (64 * x + k)), va_up h k (kn (64 * x + k))) (⟨by omega, by rw [hg, outW_s], by rw [hh, outW_s]⟩) (show ku x - (k + 1) < ku x - k by omega) H locs ls (hP) (hD) hS (lv_sub hl [0, 1, 2, 3] rfl)
    · have c_33 : ¬ 8192 ≤ i := fun q => c_33 ((nI_leI (a := 8192) (b := i) (by omega) (by omega)).mpr q)
      refine lv_iload_n hx hb dX4_come_36 rfl (lv_at hl 0 rfl) ?_
      refine lv_aload_n hx hb dX4_come_37 rfl (lv_at hl 2 rfl) ?_
      refine va_get (D := (dC, dI)) (ci := 4) (v := .int (nI ga)) (C := RX4) (T := TX4) (N := 18) hx hb hts in_X4 hown hK hP 0 rfl rfl 13 (by decide) lk_3 (fun _ h9 => h9) rfl dX4_come_38 ?_
      refine lv_icmp_lt (tgt := 66) hx hb dX4_come_41 (by decide) (fun c_41 => ?_) (fun c_41 => ?_)
      · have c_41 : i < ga := (nI_ltI (a := i) (b := ga) (by omega) (by omega)).mp c_41
        refine lv_iconst (v := (nI 0)) hx hb dX4_come_66 (by decide) ?_
        refine lv_istore (lv' := [(4, .int (nI 0)), (3, .int (nI i)), (2, .int (nI sz)), (0, .ref (a 0)), (1, .int (nI x))]) hx hb dX4_come_67 hl (by decide) rfl (fun ls hl => ?_)
        refine lv_aload_n hx hb dX4_come_69 rfl (lv_at hl 3 rfl) ?_
        refine va_get (D := (dC, dI)) (ci := 4) (v := .ref (a 1)) (C := RX4) (T := TX4) (N := 18) hx hb hts in_X4 hown hK hP 0 rfl rfl 0 (by decide) lk_5 (fun _ h9 => h9) rfl dX4_come_70 ?_
        refine lv_iload_n hx hb dX4_come_73 rfl (lv_at hl 1 rfl) ?_
        refine lv_iload hx hb dX4_come_74 (lv_at hl 0 rfl) ?_
        refine lv_if_eq (tgt := 88) hx hb dX4_come_76 (by decide) (fun c_76 => ?_) (fun c_76 => ?_)
        · have c_76 : 0 = 0 := (nZ_eq (by omega)).mp c_76
          refine lv_aload_n hx hb dX4_come_88 rfl (lv_at hl 3 rfl) ?_
          refine va_get (D := (dC, dI)) (ci := 4) (v := .ref (a 4)) (C := RX4) (T := TX4) (N := 18) hx hb hts in_X4 hown hK hP 0 rfl rfl 7 (by decide) lk_6 (fun _ h9 => h9) rfl dX4_come_89 ?_
          refine lv_sipush (v := (nI 8192)) hx hb dX4_come_92 (by decide) ?_
          refine lv_iload_n hx hb dX4_come_95 rfl (lv_at hl 4 rfl) ?_
          refine lv_imul hx hb dX4_come_96 ?_
          refine tpi (pk_mul _ _) ?_
          refine lv_iload_n hx hb dX4_come_97 rfl (lv_at hl 1 rfl) ?_
          refine lv_iadd hx hb dX4_come_98 ?_
          refine tpi (nI_add _ _) ?_
          refine va_iald hx hb hK hP 4 0 rfl rfl (vp_in_nI (by omega) (by omega)) dX4_come_99 ?_
          refine tpi (nf_at (by omega)) ?_
          refine va_iast hx hb hK hP hD hS 1 0 rfl rfl (vp_in_nI (by omega) (by omega)) dX4_come_100 (fun H locs hP hD hS => ?_)
          rw [nf_up (by omega)] at hP hD
          have hP : va_P (dC, dI) vwCl (mw cI a sz st us kp ga gl cs (va_up f i (km (8192 * x + i))) pl ln km ks kt ku kl kn cd wt) H := hP
          have hD : va_D A (mw cI a sz st us kp ga gl cs (va_up f i (km (8192 * x + i))) pl ln km ks kt ku kl kn cd wt) := hD
          refine lv_iinc (v := (nI (i + 1))) (lv' := [(3, .int (nI (i + 1))), (4, .int (nI 0)), (2, .int (nI sz)), (0, .ref (a 0)), (1, .int (nI x))]) hx hb dX4_come_101 hl (k := 1) rfl (nI_inc _) (by decide) rfl (fun ls hl => ?_)
          refine lv_goto (tgt := 29) hx hb dX4_come_104 (by decide) ?_
          exact ih_29 (i + 1, va_up f i (km (8192 * x + i))) (⟨by omega, by rw [hf, cmW_s (by rw [if_neg (by omega)])]⟩) (show 8192 - (i + 1) < 8192 - i by omega) H locs ls (hP) (hD) hS (lv_sub hl [0, 2, 3, 4] rfl)
        · exact absurd c_76 (by decide)
      · have c_41 : ¬ i < ga := fun q => c_41 ((nI_ltI (a := i) (b := ga) (by omega) (by omega)).mpr q)
        refine lv_iload_n hx hb dX4_come_44 rfl (lv_at hl 0 rfl) ?_
        refine lv_aload_n hx hb dX4_come_45 rfl (lv_at hl 2 rfl) ?_
        refine va_get (D := (dC, dI)) (ci := 4) (v := .int (nI ga)) (C := RX4) (T := TX4) (N := 18) hx hb hts in_X4 hown hK hP 0 rfl rfl 13 (by decide) lk_3 (fun _ h9 => h9) rfl dX4_come_46 ?_
        refine lv_aload_n hx hb dX4_come_49 rfl (lv_at hl 2 rfl) ?_
        refine va_get (D := (dC, dI)) (ci := 4) (v := .int (nI gl)) (C := RX4) (T := TX4) (N := 18) hx hb hts in_X4 hown hK hP 0 rfl rfl 14 (by decide) lk_4 (fun _ h9 => h9) rfl dX4_come_50 ?_
        refine lv_iadd hx hb dX4_come_53 ?_
        refine tpi (nI_add _ _) ?_
        refine lv_icmp_ge (tgt := 66) hx hb dX4_come_54 (by decide) (fun c_54 => ?_) (fun c_54 => ?_)
        · have c_54 : ga + gl ≤ i := (nI_leI (a := ga + gl) (b := i) (by omega) (by omega)).mp c_54
          refine lv_iconst (v := (nI 0)) hx hb dX4_come_66 (by decide) ?_
          refine lv_istore (lv' := [(4, .int (nI 0)), (3, .int (nI i)), (2, .int (nI sz)), (0, .ref (a 0)), (1, .int (nI x))]) hx hb dX4_come_67 hl (by decide) rfl (fun ls hl => ?_)
          refine lv_aload_n hx hb dX4_come_69 rfl (lv_at hl 3 rfl) ?_
          refine va_get (D := (dC, dI)) (ci := 4) (v := .ref (a 1)) (C := RX4) (T := TX4) (N := 18) hx hb hts in_X4 hown hK hP 0 rfl rfl 0 (by decide) lk_5 (fun _ h9 => h9) rfl dX4_come_70 ?_
          refine lv_iload_n hx hb dX4_come_73 rfl (lv_at hl 1 rfl) ?_
          refine lv_iload hx hb dX4_come_74 (lv_at hl 0 rfl) ?_
          refine lv_if_eq (tgt := 88) hx hb dX4_come_76 (by decide) (fun c_76 => ?_) (fun c_76 => ?_)
          · have c_76 : 0 = 0 := (nZ_eq (by omega)).mp c_76
            refine lv_aload_n hx hb dX4_come_88 rfl (lv_at hl 3 rfl) ?_
            refine va_get (D := (dC, dI)) (ci := 4) (v := .ref (a 4)) (C := RX4) (T := TX4) (N := 18) hx hb hts in_X4 hown hK hP 0 rfl rfl 7 (by decide) lk_6 (fun _ h9 => h9) rfl dX4_come_89 ?_
            refine lv_sipush (v := (nI 8192)) hx hb dX4_come_92 (by decide) ?_
            refine lv_iload_n hx hb dX4_come_95 rfl (lv_at hl 4 rfl) ?_
            refine lv_imul hx hb dX4_come_96 ?_
            refine tpi (pk_mul _ _) ?_
            refine lv_iload_n hx hb dX4_come_97 rfl (lv_at hl 1 rfl) ?_
            refine lv_iadd hx hb dX4_come_98 ?_
            refine tpi (nI_add _ _) ?_
            refine va_iald hx hb hK hP 4 0 rfl rfl (vp_in_nI (by omega) (by omega)) dX4_come_99 ?_
            refine tpi (nf_at (by omega)) ?_
            refine va_iast hx hb hK hP hD hS 1 0 rfl rfl (vp_in_nI (by omega) (by omega)) dX4_come_100 (fun H locs hP hD hS => ?_)
            rw [nf_up (by omega)] at hP hD
            have hP : va_P (dC, dI) vwCl (mw cI a sz st us kp ga gl cs (va_up f i (km (8192 * x + i))) pl ln km ks kt ku kl kn cd wt) H := hP
            have hD : va_D A (mw cI a sz st us kp ga gl cs (va_up f i (km (8192 * x + i))) pl ln km ks kt ku kl kn cd wt) := hD
            refine lv_iinc (v := (nI (i + 1))) (lv' := [(3, .int (nI (i + 1))), (4, .int (nI 0)), (2, .int (nI sz)), (0, .ref (a 0)), (1, .int (nI x))]) hx hb dX4_come_101 hl (k := 1) rfl (nI_inc _) (by decide) rfl (fun ls hl => ?_)
            refine lv_goto (tgt := 29) hx hb dX4_come_104 (by decide) ?_
            exact ih_29 (i + 1, va_up f i (km (8192 * x + i))) (⟨by omega, by rw [hf, cmW_s (by rw [if_neg (by omega)])]⟩) (show 8192 - (i + 1) < 8192 - i by omega) H locs ls (hP) (hD) hS (lv_sub hl [0, 2, 3, 4] rfl)
          · exact absurd c_76 (by decide)
        · have c_54 : ¬ ga + gl ≤ i := fun q => c_54 ((nI_leI (a := ga + gl) (b := i) (by omega) (by omega)).mpr q)
          refine lv_iload_n hx hb dX4_come_57 rfl (lv_at hl 0 rfl) ?_
          refine lv_iload_n hx hb dX4_come_58 rfl (lv_at hl 1 rfl) ?_
          refine lv_icmp_ge (tgt := 66) hx hb dX4_come_59 (by decide) (fun c_59 => ?_) (fun c_59 => ?_)
          · have c_59 : sz ≤ i := (nI_leI (a := sz) (b := i) (by omega) (by omega)).mp c_59
            refine lv_iconst (v := (nI 0)) hx hb dX4_come_66 (by decide) ?_
            refine lv_istore (lv' := [(4, .int (nI 0)), (3, .int (nI i)), (2, .int (nI sz)), (0, .ref (a 0)), (1, .int (nI x))]) hx hb dX4_come_67 hl (by decide) rfl (fun ls hl => ?_)
            refine lv_aload_n hx hb dX4_come_69 rfl (lv_at hl 3 rfl) ?_
            refine va_get (D := (dC, dI)) (ci := 4) (v := .ref (a 1)) (C := RX4) (T := TX4) (N := 18) hx hb hts in_X4 hown hK hP 0 rfl rfl 0 (by decide) lk_5 (fun _ h9 => h9) rfl dX4_come_70 ?_
            refine lv_iload_n hx hb dX4_come_73 rfl (lv_at hl 1 rfl) ?_
            refine lv_iload hx hb dX4_come_74 (lv_at hl 0 rfl) ?_
            refine lv_if_eq (tgt := 88) hx hb dX4_come_76 (by decide) (fun c_76 => ?_) (fun c_76 => ?_)
            · have c_76 : 0 = 0 := (nZ_eq (by omega)).mp c_76
              refine lv_aload_n hx hb dX4_come_88 rfl (lv_at hl 3 rfl) ?_
              refine va_get (D := (dC, dI)) (ci := 4) (v := .ref (a 4)) (C := RX4) (T := TX4) (N := 18) hx hb hts in_X4 hown hK hP 0 rfl rfl 7 (by decide) lk_6 (fun _ h9 => h9) rfl dX4_come_89 ?_
              refine lv_sipush (v := (nI 8192)) hx hb dX4_come_92 (by decide) ?_
              refine lv_iload_n hx hb dX4_come_95 rfl (lv_at hl 4 rfl) ?_
              refine lv_imul hx hb dX4_come_96 ?_
              refine tpi (pk_mul _ _) ?_
              refine lv_iload_n hx hb dX4_come_97 rfl (lv_at hl 1 rfl) ?_
              refine lv_iadd hx hb dX4_come_98 ?_
              refine tpi (nI_add _ _) ?_
              refine va_iald hx hb hK hP 4 0 rfl rfl (vp_in_nI (by omega) (by omega)) dX4_come_99 ?_
              refine tpi (nf_at (by omega)) ?_
              refine va_iast hx hb hK hP hD hS 1 0 rfl rfl (vp_in_nI (by omega) (by omega)) dX4_come_100 (fun H locs hP hD hS => ?_)
              rw [nf_up (by omega)] at hP hD
              have hP : va_P (dC, dI) vwCl (mw cI a sz st us kp ga gl cs (va_up f i (km (8192 * x + i))) pl ln km ks kt ku kl kn cd wt) H := hP
              have hD : va_D A (mw cI a sz st us kp ga gl cs (va_up f i (km (8192 * x + i))) pl ln km ks kt ku kl kn cd wt) := hD
              refine lv_iinc (v := (nI (i + 1))) (lv' := [(3, .int (nI (i + 1))), (4, .int (nI 0)), (2, .int (nI sz)), (0, .ref (a 0)), (1, .int (nI x))]) hx hb dX4_come_101 hl (k := 1) rfl (nI_inc _) (by decide) rfl (fun ls hl => ?_)
              refine lv_goto (tgt := 29) hx hb dX4_come_104 (by decide) ?_
              exact ih_29 (i + 1, va_up f i (km (8192 * x + i))) (⟨by omega, by rw [hf, cmW_s (by rw [if_neg (by omega)])]⟩) (show 8192 - (i + 1) < 8192 - i by omega) H locs ls (hP) (hD) hS (lv_sub hl [0, 2, 3, 4] rfl)
            · exact absurd c_76 (by decide)
          · have c_59 : ¬ sz ≤ i := fun q => c_59 ((nI_leI (a := sz) (b := i) (by omega) (by omega)).mpr q)
            refine lv_iconst (v := (nI 1)) hx hb dX4_come_62 (by decide) ?_
            refine lv_goto (tgt := 67) hx hb dX4_come_63 (by decide) ?_
            refine lv_istore (lv' := [(4, .int (nI 1)), (3, .int (nI i)), (2, .int (nI sz)), (0, .ref (a 0)), (1, .int (nI x))]) hx hb dX4_come_67 hl (by decide) rfl (fun ls hl => ?_)
            refine lv_aload_n hx hb dX4_come_69 rfl (lv_at hl 3 rfl) ?_
            refine va_get (D := (dC, dI)) (ci := 4) (v := .ref (a 1)) (C := RX4) (T := TX4) (N := 18) hx hb hts in_X4 hown hK hP 0 rfl rfl 0 (by decide) lk_5 (fun _ h9 => h9) rfl dX4_come_70 ?_
            refine lv_iload_n hx hb dX4_come_73 rfl (lv_at hl 1 rfl) ?_
            refine lv_iload hx hb dX4_come_74 (lv_at hl 0 rfl) ?_
            refine lv_if_eq (tgt := 88) hx hb dX4_come_76 (by decide) (fun c_76 => ?_) (fun c_76 => ?_)
            · exact absurd c_76 (by decide)
            · have c_76 : ¬ 1 = 0 := fun q => c_76 ((nZ_eq (by omega)).mpr q)
              refine lv_aload_n hx hb dX4_come_79 rfl (lv_at hl 3 rfl) ?_
              refine va_get (D := (dC, dI)) (ci := 4) (v := .ref (a 1)) (C := RX4) (T := TX4) (N := 18) hx hb hts in_X4 hown hK hP 0 rfl rfl 0 (by decide) lk_5 (fun _ h9 => h9) rfl dX4_come_80 ?_
              refine lv_iload_n hx hb dX4_come_83 rfl (lv_at hl 1 rfl) ?_
              refine va_iald hx hb hK hP 1 0 rfl rfl (vp_in_nI (by omega) (by omega)) dX4_come_84 ?_
              refine tpi (nf_at (by omega)) ?_
              refine lv_goto (tgt := 100) hx hb dX4_come_85 (by decide) ?_
              refine va_iast hx hb hK hP hD hS 1 0 rfl rfl (vp_in_nI (by omega) (by omega)) dX4_come_100 (fun H locs hP hD hS => ?_)
              rw [nf_up (by omega)] at hP hD
              have hP : va_P (dC, dI) vwCl (mw cI a sz st us kp ga gl cs (va_up f i (f i)) pl ln km ks kt ku kl kn cd wt) H := hP
              have hD : va_D A (mw cI a sz st us kp ga gl cs (va_up f i (f i)) pl ln km ks kt ku kl kn cd wt) := hD
              refine lv_iinc (v := (nI (i + 1))) (lv' := [(3, .int (nI (i + 1))), (4, .int (nI 1)), (2, .int (nI sz)), (0, .ref (a 0)), (1, .int (nI x))]) hx hb dX4_come_101 hl (k := 1) rfl (nI_inc _) (by decide) rfl (fun ls hl => ?_)
              refine lv_goto (tgt := 29) hx hb dX4_come_104 (by decide) ?_
              exact ih_29 (i + 1, va_up f i (f i)) (⟨by omega, by rw [hf, cmW_s (by rw [if_pos (by omega), cmW_at])]⟩) (show 8192 - (i + 1) < 8192 - i by omega) H locs ls (hP) (hD) hS (lv_sub hl [0, 2, 3, 4] rfl)
set_option maxHeartbeats 4000000 in
set_option maxRecDepth 100000 in
theorem c_X4_back (l : Launch) (dC : Nat → ClassId) (dI : Nat → Nat → Nat) (cI : ClassId) (a : Nat → Nat) (sz st us kp ga gl cs : Nat) (mem pl ln km ks kt ku kl kn cd wt : Nat → Nat) (zz : Nat)  (g3 : sz ≤ 8192) (g4 : kp ≤ 4) (g6 : ga ≤ 8192) (g7 : gl ≤ 8192) (gks : ∀ i, i < kp → ks i ≤ 8192 ∧ ku i ≤ 64) : Met l yX4_back wsX4_back ({ frames := 1, cells := 0, slots := 0, locals := 24 }) (va_Pc [.ref (a 0)] (fun U => U.heap.size = zz ∧ va_P (dC, dI) vwCl (mw cI a sz st us kp ga gl cs mem pl ln km ks kt ku kl kn cd wt) U.heap ∧ va_K (dC, dI) vwCl [(cI, .int)] U ∧ va_D (fun _ => True) (mw cI a sz st us kp ga gl cs mem pl ln km ks kt ku kl kn cd wt))) (va_Qi (fun r _ => r = if kp = 0 then (-11) else nI (kp - 1)) (fun (_ : Unit) t => va_P (dC, dI) vwCl (mw cI a (if kp = 0 then sz else ks (kp - 1)) (if kp = 0 then st else kt (kp - 1)) (if kp = 0 then us else ku (kp - 1)) (if kp = 0 then kp else kp - 1) ga gl cs (if kp = 0 then mem else cmW mem km (8192 * (kp - 1)) ga gl (bth sz (ks (kp - 1))) 8192) (if kp = 0 then pl else outW pl kl (64 * (kp - 1)) (ku (kp - 1))) (if kp = 0 then ln else outW ln kn (64 * (kp - 1)) (ku (kp - 1))) km ks kt ku kl kn cd wt) t.heap ∧ va_K (dC, dI) vwCl [(cI, .int)] t ∧ va_D (va_A (mw cI a sz st us kp ga gl cs mem pl ln km ks kt ku kl kn cd wt) zz) (mw cI a (if kp = 0 then sz else ks (kp - 1)) (if kp = 0 then st else kt (kp - 1)) (if kp = 0 then us else ku (kp - 1)) (if kp = 0 then kp else kp - 1) ga gl cs (if kp = 0 then mem else cmW mem km (8192 * (kp - 1)) ga gl (bth sz (ks (kp - 1))) 8192) (if kp = 0 then pl else outW pl kl (64 * (kp - 1)) (ku (kp - 1))) (if kp = 0 then ln else outW ln kn (64 * (kp - 1)) (ku (kp - 1))) km ks kt ku kl kn cd wt)) (va_A (mw cI a sz st us kp ga gl cs mem pl ln km ks kt ku kl kn cd wt) zz)) 0 0 (va_A (mw cI a sz st us kp ga gl cs mem pl ln km ks kt ku kl kn cd wt) zz) := by
  refine Met.ofW (cc := cX4_back) (maxL := 1) (ret := (some .int)) (by decide) rfl ?_
  intro p e s m args below meth c s₁ B hml hv
  obtain ⟨rfl, hsz, hP, hK, hD0⟩ := hv
  have hx := B.exec
  have hb := B.bytes
  have hr := B.returns
  have hts := atoms_spec (ws := wsX4_back) B.pre
  have hown : s.vm.findClass RX4 = some m.cls := findClass_of_methodNamed B.named
  have hlocks := B.notSynchronized
  subst hsz
  have hD := hD0.self (sz := s.heap.size)
  generalize hAe : va_A (mw cI a sz st us kp ga gl cs mem pl ln km ks kt ku kl kn cd wt) s.heap.size = A at hD ⊢
  have hA : ∀ q : Nat, s.heap.size ≤ q → A q := fun q h => by rw [← hAe]; exact Or.inr h
  have hS : va_S A s.heap s.heap [] := va_S.rf
  have hP : va_P (dC, dI) vwCl (mw cI a sz st us kp ga gl cs mem pl ln km ks kt ku kl kn cd wt) s.heap := hP
  have in_X4 : ∀ w ∈ wsX40, w ∈ wsX4_back := fun _ h => List.mem_cons_of_mem _ (List.mem_append_right _ h)
  have lk_1 := hts (.fieldLink RX4 121 "GlulxHeapModel" "kept" "I") (List.mem_of_getElem? (i := 1) rfl)
  have hl := lv_entry ([.ref (a 0)]) (n := 1) (Nat.le_of_ble_eq_true rfl)
  rw [lg_entry_eq]
  generalize (lg_sl ([.ref (a 0)]) ++ List.replicate (1 - (lg_sl ([.ref (a 0)])).length) Slot.unset).toArray = ls at hl ⊢
  have hl : lv_has ls 1 [(0, .ref (a 0))] := hl
  refine lv_aload_n hx hb dX4_back_0 rfl (lv_at hl 0 rfl) ?_
  refine va_get (D := (dC, dI)) (ci := 4) (v := .int (nI kp)) (C := RX4) (T := TX4) (N := 18) hx hb hts in_X4 hown hK hP 0 rfl rfl 6 (by decide) lk_1 (fun _ h9 => h9) rfl dX4_back_1 ?_
  refine lv_if_ne (tgt := 10) hx hb dX4_back_4 (by decide) (fun c_4 => ?_) (fun c_4 => ?_)
  · have c_4 : ¬ kp = 0 := fun q => c_4 ((nZ_eq (by omega)).mpr q)
    refine lv_aload_n hx hb dX4_back_10 rfl (lv_at hl 0 rfl) ?_
    refine lv_dup hx hb dX4_back_11 rfl ?_
    refine va_get (D := (dC, dI)) (ci := 4) (v := .int (nI kp)) (C := RX4) (T := TX4) (N := 18) hx hb hts in_X4 hown hK hP 0 rfl rfl 6 (by decide) lk_1 (fun _ h9 => h9) rfl dX4_back_12 ?_
    refine lv_iconst (v := (nI 1)) hx hb dX4_back_15 (by decide) ?_
    refine lv_isub hx hb dX4_back_16 ?_
    refine tpi (pk_sub (by omega)) ?_
    refine va_put (D := (dC, dI)) (ci := 4) (v := .int (nI (kp - 1))) (ty := .int) (C := RX4) (T := TX4) (N := 18) hx hb hts in_X4 tyX4 tyX4_ok nmX4 hown hK hP hD hS 0 rfl rfl 6 (by decide) lk_1 (fun _ h9 => h9) rfl (by decide +kernel) rfl rfl (Nat.le_of_ble_eq_true rfl) dX4_back_17 (fun H locs hP hD hS => ?_)
    have hP : va_P (dC, dI) vwCl (mw cI a sz st us (kp - 1) ga gl cs mem pl ln km ks kt ku kl kn cd wt) H := hP
    have hD : va_D A (mw cI a sz st us (kp - 1) ga gl cs mem pl ln km ks kt ku kl kn cd wt) := hD
    refine lv_aload_n hx hb dX4_back_20 rfl (lv_at hl 0 rfl) ?_
    refine lv_aload_n hx hb dX4_back_21 rfl (lv_at hl 0 rfl) ?_
    refine va_get (D := (dC, dI)) (ci := 4) (v := .int (nI (kp - 1))) (C := RX4) (T := TX4) (N := 18) hx hb hts in_X4 hown hK hP 0 rfl rfl 6 (by decide) lk_1 (fun _ h9 => h9) rfl dX4_back_22 ?_
    have hFc := va_free (wc := mw cI a sz st us (kp - 1) ga gl cs mem pl ln km ks kt ku kl kn cd wt) hD hS hA [0, 1, 2, 3, 4, 5, 6, 7, 8, 9, 10, 11] rfl
    refine va_callv (va_runV (As := [.int (nI (kp - 1))]) (rest := []) ⟨hx, hb, hml, hown, hts⟩ (c_X4_come l dC dI cI a sz st us (kp - 1) ga gl cs mem pl ln km ks kt ku kl kn cd wt H.size (kp - 1) (by omega) (by omega) (by omega) (by omega) (by have := gks (kp - 1) (by omega); omega) (by have := gks (kp - 1) (by omega); omega)) (cwV 1 hts gX4_back_X4_come rfl rfl rfl (by decide +kernel) ⟨Nat.le_of_ble_eq_true rfl, Nat.le_of_ble_eq_true rfl⟩) ⟨fun a9 U g9 mk9 q9 => by obtain ⟨q0, q1, qP, qK, qD⟩ := q9; exact ⟨q0, q1, qP, va_K.moved (u := U) (U := U.calling g9 mk9 a9) (Vm.Alike.refl U.vm) qK, qD⟩, va_recv hK hP (ci := 4) (q0 := 0) rfl rfl, fun U hU hW => ⟨rfl, by rw [hU], by rw [hU]; exact hP, va_K.moved hW.alike hK, hD.weaken (fun _ _ _ _ => trivial)⟩⟩ rfl rfl hl.1 rfl (lv_room (Nat.le_of_ble_eq_true rfl)) dX4_back_25 ⟨Nat.zero_le _, Nat.zero_le _⟩) hS (fun q _ h => hFc q h) hFc (fun u t H1 locs ht hvm hw hB hz1 hk1 hS => ?_)
    obtain ⟨hP1, hK1, hD1⟩ := hB
    rw [ht] at hP1
    obtain ⟨hP, hD⟩ := va_join (wr := []) (w1 := mw cI a (ks (kp - 1)) (kt (kp - 1)) (ku (kp - 1)) (kp - 1) ga gl cs (cmW mem km (8192 * (kp - 1)) ga gl (bth sz (ks (kp - 1))) 8192) (outW pl kl (64 * (kp - 1)) (ku (kp - 1))) (outW ln kn (64 * (kp - 1)) (ku (kp - 1))) km ks kt ku kl kn cd wt) hP hD [0, 1, 2, 3, 4, 5, 6, 7, 8, 9, 10, 11] [] rfl rfl (by decide) (by decide) hk1 hFc hP1 hD1
    generalize H1 = H at hP hS ⊢
    have hP : va_P (dC, dI) vwCl (mw cI a (ks (kp - 1)) (kt (kp - 1)) (ku (kp - 1)) (kp - 1) ga gl cs (cmW mem km (8192 * (kp - 1)) ga gl (bth sz (ks (kp - 1))) 8192) (outW pl kl (64 * (kp - 1)) (ku (kp - 1))) (outW ln kn (64 * (kp - 1)) (ku (kp - 1))) km ks kt ku kl kn cd wt) H := hP
    have hD : va_D A (mw cI a (ks (kp - 1)) (kt (kp - 1)) (ku (kp - 1)) (kp - 1) ga gl cs (cmW mem km (8192 * (kp - 1)) ga gl (bth sz (ks (kp - 1))) 8192) (outW pl kl (64 * (kp - 1)) (ku (kp - 1))) (outW ln kn (64 * (kp - 1)) (ku (kp - 1))) km ks kt ku kl kn cd wt) := hD
    refine lv_aload_n hx hb dX4_back_28 rfl (lv_at hl 0 rfl) ?_
    refine va_get (D := (dC, dI)) (ci := 4) (v := .int (nI (kp - 1))) (C := RX4) (T := TX4) (N := 18) hx hb hts in_X4 hown hK hP 0 rfl rfl 6 (by decide) lk_1 (fun _ h9 => h9) rfl dX4_back_29 ?_
    have e_kp : kp - 1 = if kp = 0 then kp else kp - 1 := by rw [if_neg c_4]
    have e_mem : cmW mem km (8192 * (kp - 1)) ga gl (bth sz (ks (kp - 1))) 8192 = if kp = 0 then mem else cmW mem km (8192 * (kp - 1)) ga gl (bth sz (ks (kp - 1))) 8192 := by rw [if_neg c_4]
    have e_sz : ks (kp - 1) = if kp = 0 then sz else ks (kp - 1) := by rw [if_neg c_4]
    have e_st : kt (kp - 1) = if kp = 0 then st else kt (kp - 1) := by rw [if_neg c_4]
    have e_us : ku (kp - 1) = if kp = 0 then us else ku (kp - 1) := by rw [if_neg c_4]
    have e_pl : outW pl kl (64 * (kp - 1)) (ku (kp - 1)) = if kp = 0 then pl else outW pl kl (64 * (kp - 1)) (ku (kp - 1)) := by rw [if_neg c_4]
    have e_ln : outW ln kn (64 * (kp - 1)) (ku (kp - 1)) = if kp = 0 then ln else outW ln kn (64 * (kp - 1)) (ku (kp - 1)) := by rw [if_neg c_4]
    have hP : va_P (dC, dI) vwCl (mw cI a (if kp = 0 then sz else ks (kp - 1)) (if kp = 0 then st else kt (kp - 1)) (if kp = 0 then us else ku (kp - 1)) (if kp = 0 then kp else kp - 1) ga gl cs (if kp = 0 then mem else cmW mem km (8192 * (kp - 1)) ga gl (bth sz (ks (kp - 1))) 8192) (if kp = 0 then pl else outW pl kl (64 * (kp - 1)) (ku (kp - 1))) (if kp = 0 then ln else outW ln kn (64 * (kp - 1)) (ku (kp - 1))) km ks kt ku kl kn cd wt) H := by rw [← e_kp, ← e_mem, ← e_sz, ← e_st, ← e_us, ← e_pl, ← e_ln]; exact hP
    have hD : va_D A (mw cI a (if kp = 0 then sz else ks (kp - 1)) (if kp = 0 then st else kt (kp - 1)) (if kp = 0 then us else ku (kp - 1)) (if kp = 0 then kp else kp - 1) ga gl cs (if kp = 0 then mem else cmW mem km (8192 * (kp - 1)) ga gl (bth sz (ks (kp - 1))) 8192) (if kp = 0 then pl else outW pl kl (64 * (kp - 1)) (ku (kp - 1))) (if kp = 0 then ln else outW ln kn (64 * (kp - 1)) (ku (kp - 1))) km ks kt ku kl kn cd wt) := by rw [← e_kp, ← e_mem, ← e_sz, ← e_st, ← e_us, ← e_pl, ← e_ln]; exact hD
    exact W.iret (v := (nI (kp - 1))) hx hb hr (fun t ht hW => ⟨⟨(nI (kp - 1)), (), rfl, (show (nI (kp - 1)) = if kp = 0 then (-11) else nI (kp - 1) from by rw [if_neg c_4]), by rw [ht]; exact hP, va_K.moved hW.alike hK, hD⟩, hS.F ht⟩) hS.2.2 dX4_back_32
  · have c_4 : kp = 0 := (nZ_eq (by omega)).mp c_4
    refine lv_bipush (v := ((-11))) hx hb dX4_back_7 (by decide) ?_
    have e_kp : kp = if kp = 0 then kp else kp - 1 := by rw [if_pos c_4]
    have e_mem : mem = if kp = 0 then mem else cmW mem km (8192 * (kp - 1)) ga gl (bth sz (ks (kp - 1))) 8192 := by rw [if_pos c_4]
    have e_sz : sz = if kp = 0 then sz else ks (kp - 1) := by rw [if_pos c_4]
    have e_st : st = if kp = 0 then st else kt (kp - 1) := by rw [if_pos c_4]
    have e_us : us = if kp = 0 then us else ku (kp - 1) := by rw [if_pos c_4]
    have e_pl : pl = if kp = 0 then pl else outW pl kl (64 * (kp - 1)) (ku (kp - 1)) := by rw [if_pos c_4]
    have e_ln : ln = if kp = 0 then ln else outW ln kn (64 * (kp - 1)) (ku (kp - 1)) := by rw [if_pos c_4]
    have hP : va_P (dC, dI) vwCl (mw cI a (if kp = 0 then sz else ks (kp - 1)) (if kp = 0 then st else kt (kp - 1)) (if kp = 0 then us else ku (kp - 1)) (if kp = 0 then kp else kp - 1) ga gl cs (if kp = 0 then mem else cmW mem km (8192 * (kp - 1)) ga gl (bth sz (ks (kp - 1))) 8192) (if kp = 0 then pl else outW pl kl (64 * (kp - 1)) (ku (kp - 1))) (if kp = 0 then ln else outW ln kn (64 * (kp - 1)) (ku (kp - 1))) km ks kt ku kl kn cd wt) s.heap := by rw [← e_kp, ← e_mem, ← e_sz, ← e_st, ← e_us, ← e_pl, ← e_ln]; exact hP
    have hD : va_D A (mw cI a (if kp = 0 then sz else ks (kp - 1)) (if kp = 0 then st else kt (kp - 1)) (if kp = 0 then us else ku (kp - 1)) (if kp = 0 then kp else kp - 1) ga gl cs (if kp = 0 then mem else cmW mem km (8192 * (kp - 1)) ga gl (bth sz (ks (kp - 1))) 8192) (if kp = 0 then pl else outW pl kl (64 * (kp - 1)) (ku (kp - 1))) (if kp = 0 then ln else outW ln kn (64 * (kp - 1)) (ku (kp - 1))) km ks kt ku kl kn cd wt) := by rw [← e_kp, ← e_mem, ← e_sz, ← e_st, ← e_us, ← e_pl, ← e_ln]; exact hD
    exact W.iret (v := ((-11))) hx hb hr (fun t ht hW => ⟨⟨((-11)), (), rfl, (show ((-11)) = if kp = 0 then (-11) else nI (kp - 1) from by rw [if_pos c_4]), by rw [ht]; exact hP, va_K.moved hW.alike hK, hD⟩, hS.F ht⟩) hS.2.2 dX4_back_9
set_option maxHeartbeats 4000000 in
set_option maxRecDepth 100000 in
theorem c_X4_restart (l : Launch) (dC : Nat → ClassId) (dI : Nat → Nat → Nat) (cI : ClassId) (a : Nat → Nat) (sz st us kp ga gl cs : Nat) (mem pl ln km ks kt ku kl kn cd wt : Nat → Nat) (zz : Nat)  (g3 : sz ≤ 8192) (g6 : ga ≤ 8192) (g7 : gl ≤ 8192) : Met l yX4_restart wsX4_restart ({ frames := 1, cells := 0, slots := 0, locals := 24 }) (va_Pc [.ref (a 0)] (fun U => U.heap.size = zz ∧ va_P (dC, dI) vwCl (mw cI a sz st us kp ga gl cs mem pl ln km ks kt ku kl kn cd wt) U.heap ∧ va_K (dC, dI) vwCl [(cI, .int)] U ∧ va_D (fun _ => True) (mw cI a sz st us kp ga gl cs mem pl ln km ks kt ku kl kn cd wt))) (va_Qi (fun r _ => r = nI 1) (fun (_ : Unit) t => va_P (dC, dI) vwCl (mw cI a ((va_up ks 4 1024) 4) ((va_up kt 4 0) 4) ((va_up ku 4 0) 4) kp ga gl cs (cmW mem (blkW km 32768 fst 8192) (8192 * 4) ga gl (bth sz ((va_up ks 4 1024) 4)) 8192) (outW pl kl (64 * 4) ((va_up ku 4 0) 4)) (outW ln kn (64 * 4) ((va_up ku 4 0) 4)) (blkW km 32768 fst 8192) (va_up ks 4 1024) (va_up kt 4 0) (va_up ku 4 0) kl kn cd wt) t.heap ∧ va_K (dC, dI) vwCl [(cI, .int)] t ∧ va_D (va_A (mw cI a sz st us kp ga gl cs mem pl ln km ks kt ku kl kn cd wt) zz) (mw cI a ((va_up ks 4 1024) 4) ((va_up kt 4 0) 4) ((va_up ku 4 0) 4) kp ga gl cs (cmW mem (blkW km 32768 fst 8192) (8192 * 4) ga gl (bth sz ((va_up ks 4 1024) 4)) 8192) (outW pl kl (64 * 4) ((va_up ku 4 0) 4)) (outW ln kn (64 * 4) ((va_up ku 4 0) 4)) (blkW km 32768 fst 8192) (va_up ks 4 1024) (va_up kt 4 0) (va_up ku 4 0) kl kn cd wt)) (va_A (mw cI a sz st us kp ga gl cs mem pl ln km ks kt ku kl kn cd wt) zz)) 0 0 (va_A (mw cI a sz st us kp ga gl cs mem pl ln km ks kt ku kl kn cd wt) zz) := by
  refine Met.ofW (cc := cX4_restart) (maxL := 2) (ret := (some .int)) (by decide) rfl ?_
  intro p e s m args below meth c s₁ B hml hv
  obtain ⟨rfl, hsz, hP, hK, hD0⟩ := hv
  have hx := B.exec
  have hb := B.bytes
  have hr := B.returns
  have hts := atoms_spec (ws := wsX4_restart) B.pre
  have hown : s.vm.findClass RX4 = some m.cls := findClass_of_methodNamed B.named
  have hlocks := B.notSynchronized
  subst hsz
  have hD := hD0.self (sz := s.heap.size)
  generalize hAe : va_A (mw cI a sz st us kp ga gl cs mem pl ln km ks kt ku kl kn cd wt) s.heap.size = A at hD ⊢
  have hA : ∀ q : Nat, s.heap.size ≤ q → A q := fun q h => by rw [← hAe]; exact Or.inr h
  have hS : va_S A s.heap s.heap [] := va_S.rf
  have hP : va_P (dC, dI) vwCl (mw cI a sz st us kp ga gl cs mem pl ln km ks kt ku kl kn cd wt) s.heap := hP
  have in_X4 : ∀ w ∈ wsX40, w ∈ wsX4_restart := fun _ h => List.mem_cons_of_mem _ (List.mem_append_right _ h)
  have lk_1 := hts (.fieldLink RX4 20 "GlulxHeapModel" "keptMemory" "[I") (List.mem_of_getElem? (i := 1) rfl)
  have lk_2 := hts (.constant RX4 127 (32768)) (List.mem_of_getElem? (i := 2) rfl)
  have lk_3 := hts (.fieldLink RX4 23 "GlulxHeapModel" "keptSize" "[I") (List.mem_of_getElem? (i := 3) rfl)
  have lk_4 := hts (.fieldLink RX4 26 "GlulxHeapModel" "keptStart" "[I") (List.mem_of_getElem? (i := 4) rfl)
  have lk_5 := hts (.fieldLink RX4 29 "GlulxHeapModel" "keptUsed" "[I") (List.mem_of_getElem? (i := 5) rfl)
  have hl := lv_entry ([.ref (a 0)]) (n := 2) (Nat.le_of_ble_eq_true rfl)
  rw [lg_entry_eq]
  generalize (lg_sl ([.ref (a 0)]) ++ List.replicate (2 - (lg_sl ([.ref (a 0)])).length) Slot.unset).toArray = ls at hl ⊢
  have hl : lv_has ls 2 [(0, .ref (a 0))] := hl
  refine lv_iconst (v := (nI 0)) hx hb dX4_restart_0 (by decide) ?_
  refine lv_istore_n (lv' := [(1, .int (nI 0)), (0, .ref (a 0))]) hx hb dX4_restart_1 rfl hl (by decide) rfl (fun ls hl => ?_)
  refine lp_world (σ := Nat × (Nat → Nat)) (fun ⟨i, f⟩ => i ≤ 8192 ∧ f = blkW km 32768 fst i) (fun ⟨i, f⟩ => 8192 - i) (fun ⟨i, f⟩ => [(1, .int (nI i)), (0, .ref (a 0))]) (fun ⟨i, f⟩ => mw cI a sz st us kp ga gl cs mem pl ln f ks kt ku kl kn cd wt) ?_ ((0, km)) (⟨by omega, by rw [blkW_0]⟩) (hP) (hD) hS (lv_sub hl [0, 1] rfl)
  intro ⟨i, f⟩ hI ih H locs ls hP hD hS hl
  have hl : lv_has ls 2 [(1, .int (nI i)), (0, .ref (a 0))] := hl
  have hP : va_P (dC, dI) vwCl (mw cI a sz st us kp ga gl cs mem pl ln f ks kt ku kl kn cd wt) H := hP
  have hD : va_D A (mw cI a sz st us kp ga gl cs mem pl ln f ks kt ku kl kn cd wt) := hD
  have hI : i ≤ 8192 ∧ f = blkW km 32768 fst i := hI
  obtain ⟨hi, hf⟩ := hI
  have ih_2 := ih
  refine lv_iload_n hx hb dX4_restart_2 rfl (lv_at hl 0 rfl) ?_
  refine lv_sipush (v := (nI 8192)) hx hb dX4_restart_3 (by decide) ?_
  refine lv_icmp_ge (tgt := 28) hx hb dX4_restart_6 (by decide) (fun c_6 => ?_) (fun c_6 => ?_)
  · have c_6 : 8192 ≤ i := (nI_leI (a := 8192) (b := i) (by omega) (by omega)).mp c_6
    have hi8 : i = 8192 := by omega
    rw [hi8] at hf
    subst hf
    refine lv_aload_n hx hb dX4_restart_28 rfl (lv_at hl 1 rfl) ?_
    refine va_get (D := (dC, dI)) (ci := 4) (v := .ref (a 5)) (C := RX4) (T := TX4) (N := 18) hx hb hts in_X4 hown hK hP 0 rfl rfl 8 (by decide) lk_3 (fun _ h9 => h9) rfl dX4_restart_29 ?_
    refine lv_iconst (v := (nI 4)) hx hb dX4_restart_32 (by decide) ?_
    refine lv_sipush (v := (nI 1024)) hx hb dX4_restart_33 (by decide) ?_
    refine va_iast hx hb hK hP hD hS 5 0 rfl rfl (vp_in_nI (by omega) (by omega)) dX4_restart_36 (fun H locs hP hD hS => ?_)
    rw [nf_up (by omega)] at hP hD
    have hP : va_P (dC, dI) vwCl (mw cI a sz st us kp ga gl cs mem pl ln (blkW km 32768 fst 8192) (va_up ks 4 1024) kt ku kl kn cd wt) H := hP
    have hD : va_D A (mw cI a sz st us kp ga gl cs mem pl ln (blkW km 32768 fst 8192) (va_up ks 4 1024) kt ku kl kn cd wt) := hD
    refine lv_aload_n hx hb dX4_restart_37 rfl (lv_at hl 1 rfl) ?_
    refine va_get (D := (dC, dI)) (ci := 4) (v := .ref (a 6)) (C := RX4) (T := TX4) (N := 18) hx hb hts in_X4 hown hK hP 0 rfl rfl 9 (by decide) lk_4 (fun _ h9 => h9) rfl dX4_restart_38 ?_
    refine lv_iconst (v := (nI 4)) hx hb dX4_restart_41 (by decide) ?_
    refine lv_iconst (v := (nI 0)) hx hb dX4_restart_42 (by decide) ?_
    refine va_iast hx hb hK hP hD hS 6 0 rfl rfl (vp_in_nI (by omega) (by omega)) dX4_restart_43 (fun H locs hP hD hS => ?_)
    rw [nf_up (by omega)] at hP hD
    have hP : va_P (dC, dI) vwCl (mw cI a sz st us kp ga gl cs mem pl ln (blkW km 32768 fst 8192) (va_up ks 4 1024) (va_up kt 4 0) ku kl kn cd wt) H := hP
    have hD : va_D A (mw cI a sz st us kp ga gl cs mem pl ln (blkW km 32768 fst 8192) (va_up ks 4 1024) (va_up kt 4 0) ku kl kn cd wt) := hD
    refine lv_aload_n hx hb dX4_restart_44 rfl (lv_at hl 1 rfl) ?_
    refine va_get (D := (dC, dI)) (ci := 4) (v := .ref (a 7)) (C := RX4) (T := TX4) (N := 18) hx hb hts in_X4 hown hK hP 0 rfl rfl 10 (by decide) lk_5 (fun _ h9 => h9) rfl dX4_restart_45 ?_
    refine lv_iconst (v := (nI 4)) hx hb dX4_restart_48 (by decide) ?_
    refine lv_iconst (v := (nI 0)) hx hb dX4_restart_49 (by decide) ?_
    refine va_iast hx hb hK hP hD hS 7 0 rfl rfl (vp_in_nI (by omega) (by omega)) dX4_restart_50 (fun H locs hP hD hS => ?_)
    rw [nf_up (by omega)] at hP hD
    have hP : va_P (dC, dI) vwCl (mw cI a sz st us kp ga gl cs mem pl ln (blkW km 32768 fst 8192) (va_up ks 4 1024) (va_up kt 4 0) (va_up ku 4 0) kl kn cd wt) H := hP
    have hD : va_D A (mw cI a sz st us kp ga gl cs mem pl ln (blkW km 32768 fst 8192) (va_up ks 4 1024) (va_up kt 4 0) (va_up ku 4 0) kl kn cd wt) := hD
    refine lv_aload_n hx hb dX4_restart_51 rfl (lv_at hl 1 rfl) ?_
    refine lv_iconst (v := (nI 4)) hx hb dX4_restart_52 (by decide) ?_
    have hFc := va_free (wc := mw cI a sz st us kp ga gl cs mem pl ln (blkW km 32768 fst 8192) (va_up ks 4 1024) (va_up kt 4 0) (va_up ku 4 0) kl kn cd wt) hD hS hA [0, 1, 2, 3, 4, 5, 6, 7, 8, 9, 10, 11] rfl
    refine va_callv (va_runV (As := [.int (nI 4)]) (rest := []) ⟨hx, hb, hml, hown, hts⟩ (c_X4_come l dC dI cI a sz st us kp ga gl cs mem pl ln (blkW km 32768 fst 8192) (va_up ks 4 1024) (va_up kt 4 0) (va_up ku 4 0) kl kn cd wt H.size 4 (by omega) (by omega) (by omega) (by omega) (by rw [va_up_self]; decide) (by rw [va_up_self]; decide)) (cwV 1 hts gX4_restart_X4_come rfl rfl rfl (by decide +kernel) ⟨Nat.le_of_ble_eq_true rfl, Nat.le_of_ble_eq_true rfl⟩) ⟨fun a9 U g9 mk9 q9 => by obtain ⟨q0, q1, qP, qK, qD⟩ := q9; exact ⟨q0, q1, qP, va_K.moved (u := U) (U := U.calling g9 mk9 a9) (Vm.Alike.refl U.vm) qK, qD⟩, va_recv hK hP (ci := 4) (q0 := 0) rfl rfl, fun U hU hW => ⟨rfl, by rw [hU], by rw [hU]; exact hP, va_K.moved hW.alike hK, hD.weaken (fun _ _ _ _ => trivial)⟩⟩ rfl rfl hl.1 rfl (lv_room (Nat.le_of_ble_eq_true rfl)) dX4_restart_53 ⟨Nat.zero_le _, Nat.zero_le _⟩) hS (fun q _ h => hFc q h) hFc (fun u t H1 locs ht hvm hw hB hz1 hk1 hS => ?_)
    obtain ⟨hP1, hK1, hD1⟩ := hB
    rw [ht] at hP1
    obtain ⟨hP, hD⟩ := va_join (wr := []) (w1 := mw cI a ((va_up ks 4 1024) 4) ((va_up kt 4 0) 4) ((va_up ku 4 0) 4) kp ga gl cs (cmW mem (blkW km 32768 fst 8192) (8192 * 4) ga gl (bth sz ((va_up ks 4 1024) 4)) 8192) (outW pl kl (64 * 4) ((va_up ku 4 0) 4)) (outW ln kn (64 * 4) ((va_up ku 4 0) 4)) (blkW km 32768 fst 8192) (va_up ks 4 1024) (va_up kt 4 0) (va_up ku 4 0) kl kn cd wt) hP hD [0, 1, 2, 3, 4, 5, 6, 7, 8, 9, 10, 11] [] rfl rfl (by decide) (by decide) hk1 hFc hP1 hD1
    generalize H1 = H at hP hS ⊢
    have hP : va_P (dC, dI) vwCl (mw cI a ((va_up ks 4 1024) 4) ((va_up kt 4 0) 4) ((va_up ku 4 0) 4) kp ga gl cs (cmW mem (blkW km 32768 fst 8192) (8192 * 4) ga gl (bth sz ((va_up ks 4 1024) 4)) 8192) (outW pl kl (64 * 4) ((va_up ku 4 0) 4)) (outW ln kn (64 * 4) ((va_up ku 4 0) 4)) (blkW km 32768 fst 8192) (va_up ks 4 1024) (va_up kt 4 0) (va_up ku 4 0) kl kn cd wt) H := hP
    have hD : va_D A (mw cI a ((va_up ks 4 1024) 4) ((va_up kt 4 0) 4) ((va_up ku 4 0) 4) kp ga gl cs (cmW mem (blkW km 32768 fst 8192) (8192 * 4) ga gl (bth sz ((va_up ks 4 1024) 4)) 8192) (outW pl kl (64 * 4) ((va_up ku 4 0) 4)) (outW ln kn (64 * 4) ((va_up ku 4 0) 4)) (blkW km 32768 fst 8192) (va_up ks 4 1024) (va_up kt 4 0) (va_up ku 4 0) kl kn cd wt) := hD
    refine lv_iconst (v := (nI 1)) hx hb dX4_restart_56 (by decide) ?_
    have hP : va_P (dC, dI) vwCl (mw cI a ((va_up ks 4 1024) 4) ((va_up kt 4 0) 4) ((va_up ku 4 0) 4) kp ga gl cs (cmW mem (blkW km 32768 fst 8192) (8192 * 4) ga gl (bth sz ((va_up ks 4 1024) 4)) 8192) (outW pl kl (64 * 4) ((va_up ku 4 0) 4)) (outW ln kn (64 * 4) ((va_up ku 4 0) 4)) (blkW km 32768 fst 8192) (va_up ks 4 1024) (va_up kt 4 0) (va_up ku 4 0) kl kn cd wt) H := hP
    have hD : va_D A (mw cI a ((va_up ks 4 1024) 4) ((va_up kt 4 0) 4) ((va_up ku 4 0) 4) kp ga gl cs (cmW mem (blkW km 32768 fst 8192) (8192 * 4) ga gl (bth sz ((va_up ks 4 1024) 4)) 8192) (outW pl kl (64 * 4) ((va_up ku 4 0) 4)) (outW ln kn (64 * 4) ((va_up ku 4 0) 4)) (blkW km 32768 fst 8192) (va_up ks 4 1024) (va_up kt 4 0) (va_up ku 4 0) kl kn cd wt) := hD
    exact W.iret (v := (nI 1)) hx hb hr (fun t ht hW => ⟨⟨(nI 1), (), rfl, (show (nI 1) = nI 1 from rfl), by rw [ht]; exact hP, va_K.moved hW.alike hK, hD⟩, hS.F ht⟩) hS.2.2 dX4_restart_57
  · have c_6 : ¬ 8192 ≤ i := fun q => c_6 ((nI_leI (a := 8192) (b := i) (by omega) (by omega)).mpr q)
    refine lv_aload_n hx hb dX4_restart_9 rfl (lv_at hl 1 rfl) ?_
    refine va_get (D := (dC, dI)) (ci := 4) (v := .ref (a 4)) (C := RX4) (T := TX4) (N := 18) hx hb hts in_X4 hown hK hP 0 rfl rfl 7 (by decide) lk_1 (fun _ h9 => h9) rfl dX4_restart_10 ?_
    refine lv_ldc (own := RX4) (v := 32768) hx hb hown lk_2 dX4_restart_13 ?_
    refine tpi (show (32768 : Int32) = nI 32768 from rfl) ?_
    refine lv_iload_n hx hb dX4_restart_15 rfl (lv_at hl 0 rfl) ?_
    refine lv_iadd hx hb dX4_restart_16 ?_
    refine tpi (nI_add _ _) ?_
    refine lv_iload_n hx hb dX4_restart_17 rfl (lv_at hl 0 rfl) ?_
    refine vp_callSi (W.runS (As := [.int (nI i)]) (rest := [.int (nI (32768 + i)), .ref (a 4)]) ⟨hx, hb, hml, hown, hts⟩ (c_X4_first l i (by omega)) (va_cwS 1 hts gX4_restart_X4_first rfl rfl rfl (by decide +kernel) ⟨Nat.le_of_ble_eq_true rfl, Nat.le_of_ble_eq_true rfl⟩) ⟨fun a9 U g9 mk9 q9 => ⟨q9.1, trivial⟩, fun U hU hW => ⟨rfl, trivial⟩⟩ rfl rfl hl.1 rfl (lv_room (Nat.le_of_ble_eq_true rfl)) dX4_restart_18 ⟨Nat.zero_le _, Nat.zero_le _⟩) (fun r_18 hw => ?_)
    try dsimp only at hw
    subst hw
    have wf_18 := fst_lt i
    refine va_iast hx hb hK hP hD hS 4 0 rfl rfl (vp_in_nI (by omega) (by omega)) dX4_restart_21 (fun H locs hP hD hS => ?_)
    rw [nf_up (by omega)] at hP hD
    have hP : va_P (dC, dI) vwCl (mw cI a sz st us kp ga gl cs mem pl ln (va_up f (32768 + i) (fst i)) ks kt ku kl kn cd wt) H := hP
    have hD : va_D A (mw cI a sz st us kp ga gl cs mem pl ln (va_up f (32768 + i) (fst i)) ks kt ku kl kn cd wt) := hD
    refine lv_iinc (v := (nI (i + 1))) (lv' := [(1, .int (nI (i + 1))), (0, .ref (a 0))]) hx hb dX4_restart_22 hl (k := 0) rfl (nI_inc _) (by decide) rfl (fun ls hl => ?_)
    refine lv_goto (tgt := 2) hx hb dX4_restart_25 (by decide) ?_
    exact ih_2 (i + 1, va_up f (32768 + i) (fst i)) (⟨by omega, by rw [hf, blkW_s rfl]⟩) (show 8192 - (i + 1) < 8192 - i by omega) H locs ls (hP) (hD) hS (lv_sub hl [0, 1] rfl)
