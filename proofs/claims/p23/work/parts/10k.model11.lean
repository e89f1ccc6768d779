set_option maxHeartbeats 4000000 in
set_option maxRecDepth 100000 in
theorem c_X4_head (l : Launch) (dC : Nat → ClassId) (dI : Nat → Nat → Nat) (cI : ClassId) (a : Nat → Nat) (sz st us kp ga gl cs : Nat) (mem pl ln km ks kt ku kl kn cd wt : Nat → Nat) (zz : Nat)  (gc : cs ≤ 20000) (bcd : ∀ j, cd j < 256) (bks : ∀ j, ks j < 2 ^ 31) (bkt : ∀ j, kt j < 2 ^ 31) (bku : ∀ j, ku j < 2 ^ 31) (bkl : ∀ j, kl j < 2 ^ 31) (bkn : ∀ j, kn j < 2 ^ 31) : Met l yX4_head wsX4_head ({ frames := 1, cells := 0, slots := 0, locals := 21 }) (va_Pc [.ref (a 0)] (fun U => U.heap.size = zz ∧ va_P (dC, dI) vwCl (mw cI a sz st us kp ga gl cs mem pl ln km ks kt ku kl kn cd wt) U.heap ∧ va_K (dC, dI) vwCl [(cI, .int)] U ∧ va_D (fun _ => True) (mw cI a sz st us kp ga gl cs mem pl ln km ks kt ku kl kn cd wt))) (va_Qi (fun (r : Int32) (u : (Nat → Nat) × (Nat → Nat) × (Nat → Nat) × (Nat → Nat) × (Nat → Nat)) => match u with | ⟨ks2, kt2, ku2, kl2, kn2⟩ => r = (match hdS cs cd with | some w => nI w | none => (-1)) ∧ (∀ j, ¬ j = 4 → ks2 j = ks j ∧ kt2 j = kt j ∧ ku2 j = ku j) ∧ (∀ j, j < 256 → kl2 j = kl j ∧ kn2 j = kn j) ∧ (∀ j, ks2 j < 2 ^ 31 ∧ kt2 j < 2 ^ 31 ∧ ku2 j < 2 ^ 31 ∧ kl2 j < 2 ^ 31 ∧ kn2 j < 2 ^ 31) ∧ (hdS cs cd = none → ks2 4 = tw cd 0 ∧ kt2 4 = tw cd 2 ∧ ku2 4 = tw cd 4 ∧ ∀ j, j < tw cd 4 → kl2 (256 + j) = tw cd (6 + 4 * j) ∧ kn2 (256 + j) = tw cd (6 + 4 * j + 2))) (fun (u : (Nat → Nat) × (Nat → Nat) × (Nat → Nat) × (Nat → Nat) × (Nat → Nat)) t => match u with | ⟨ks2, kt2, ku2, kl2, kn2⟩ => va_P (dC, dI) vwCl (mw cI a sz st us kp ga gl cs mem pl ln km ks2 kt2 ku2 kl2 kn2 cd wt) t.heap ∧ va_K (dC, dI) vwCl [(cI, .int)] t ∧ va_D (va_A (mw cI a sz st us kp ga gl cs mem pl ln km ks kt ku kl kn cd wt) zz) (mw cI a sz st us kp ga gl cs mem pl ln km ks2 kt2 ku2 kl2 kn2 cd wt)) (va_A (mw cI a sz st us kp ga gl cs mem pl ln km ks kt ku kl kn cd wt) zz)) 0 0 (va_A (mw cI a sz st us kp ga gl cs mem pl ln km ks kt ku kl kn cd wt) zz) := by
  refine Met.ofW (cc := cX4_head) (maxL := 7) (ret := (some .int)) (by decide) rfl ?_
  intro p e s m args below meth c s₁ B hml hv
  obtain ⟨rfl, hsz, hP, hK, hD0⟩ := hv
  have hx := B.exec
  have hb := B.bytes
  have hr := B.returns
  have hts := atoms_spec (ws := wsX4_head) B.pre
  have hown : s.vm.findClass RX4 = some m.cls := findClass_of_methodNamed B.named
  have hlocks := B.notSynchronized
  subst hsz
  have hD := hD0.self (sz := s.heap.size)
  generalize hAe : va_A (mw cI a sz st us kp ga gl cs mem pl ln km ks kt ku kl kn cd wt) s.heap.size = A at hD ⊢
  have hA : ∀ q : Nat, s.heap.size ≤ q → A q := fun q h => by rw [← hAe]; exact Or.inr h
  have hS : va_S A s.heap s.heap [] := va_S.rf
  have hP : va_P (dC, dI) vwCl (mw cI a sz st us kp ga gl cs mem pl ln km ks kt ku kl kn cd wt) s.heap := hP
  have in_X4 : ∀ w ∈ wsX40, w ∈ wsX4_head := fun _ h => List.mem_cons_of_mem _ (List.mem_append_right _ h)
  have lk_1 := hts (.fieldLink RX4 128 "GlulxHeapModel" "codeSize" "I") (List.mem_of_getElem? (i := 1) rfl)
  have lk_2 := hts (.fieldLink RX4 23 "GlulxHeapModel" "keptSize" "[I") (List.mem_of_getElem? (i := 2) rfl)
  have lk_3 := hts (.fieldLink RX4 26 "GlulxHeapModel" "keptStart" "[I") (List.mem_of_getElem? (i := 3) rfl)
  have lk_4 := hts (.fieldLink RX4 29 "GlulxHeapModel" "keptUsed" "[I") (List.mem_of_getElem? (i := 4) rfl)
  have lk_5 := hts (.fieldLink RX4 32 "GlulxHeapModel" "keptPlace" "[I") (List.mem_of_getElem? (i := 5) rfl)
  have lk_6 := hts (.fieldLink RX4 35 "GlulxHeapModel" "keptLength" "[I") (List.mem_of_getElem? (i := 6) rfl)
  have hl := lv_entry ([.ref (a 0)]) (n := 7) (Nat.le_of_ble_eq_true rfl)
  rw [lg_entry_eq]
  generalize (lg_sl ([.ref (a 0)]) ++ List.replicate (7 - (lg_sl ([.ref (a 0)])).length) Slot.unset).toArray = ls at hl ⊢
  have hl : lv_has ls 7 [(0, .ref (a 0))] := hl
  refine lv_iconst (v := (nI 4)) hx hb dX4_head_0 (by decide) ?_
  refine lv_istore_n (lv' := [(1, .int (nI 4)), (0, .ref (a 0))]) hx hb dX4_head_1 rfl hl (by decide) rfl (fun ls hl => ?_)
  refine lv_aload_n hx hb dX4_head_2 rfl (lv_at hl 1 rfl) ?_
  refine va_get (D := (dC, dI)) (ci := 4) (v := .int (nI cs)) (C := RX4) (T := TX4) (N := 18) hx hb hts in_X4 hown hK hP 0 rfl rfl 16 (by decide) lk_1 (fun _ h9 => h9) rfl dX4_head_3 ?_
  refine lv_iconst (v := (nI 2)) hx hb dX4_head_6 (by decide) ?_
  refine lv_icmp_ge (tgt := 15) hx hb dX4_head_7 (by decide) (fun c_7 => ?_) (fun c_7 => ?_)
  · have c_7 : 2 ≤ cs := (nI_leI (a := 2) (b := cs) (by omega) (by omega)).mp c_7
    refine lv_aload_n hx hb dX4_head_15 rfl (lv_at hl 1 rfl) ?_
    refine va_get (D := (dC, dI)) (ci := 4) (v := .ref (a 5)) (C := RX4) (T := TX4) (N := 18) hx hb hts in_X4 hown hK hP 0 rfl rfl 8 (by decide) lk_2 (fun _ h9 => h9) rfl dX4_head_16 ?_
    refine lv_iload_n hx hb dX4_head_19 rfl (lv_at hl 0 rfl) ?_
    refine lv_aload_n hx hb dX4_head_20 rfl (lv_at hl 1 rfl) ?_
    refine lv_iconst (v := (nI 0)) hx hb dX4_head_21 (by decide) ?_
    refine vp_callSi (W.runV (As := [.int (nI 0)]) (rest := [.int (nI 4), .ref (a 5)]) ⟨hx, hb, hml, hown, hts⟩ (c_X4_two l dC dI cI a sz st us kp ga gl cs mem pl ln km ks kt ku kl kn cd wt 0 (by omega) bcd) (cwV 1 hts gX4_head_X4_two rfl rfl rfl (by decide +kernel) ⟨Nat.le_of_ble_eq_true rfl, Nat.le_of_ble_eq_true rfl⟩) ⟨fun a9 U g9 mk9 q9 => by obtain ⟨q0, qP, qK⟩ := q9; exact ⟨q0, qP, va_K.moved (u := U) (U := U.calling g9 mk9 a9) (Vm.Alike.refl U.vm) qK⟩, va_recv hK hP (ci := 4) (q0 := 0) rfl rfl, fun U hU hW => ⟨rfl, by rw [hU]; exact hP, va_K.moved hW.alike hK⟩⟩ rfl rfl hl.1 rfl (lv_room (Nat.le_of_ble_eq_true rfl)) dX4_head_22 ⟨Nat.zero_le _, Nat.zero_le _⟩) (fun r_22 hw => ?_)
    try dsimp only at hw
    subst hw
    have wt_22 := tw_lt bcd 0
    refine va_iast hx hb hK hP hD hS 5 0 rfl rfl (vp_in_nI (by omega) (by omega)) dX4_head_25 (fun H locs hP hD hS => ?_)
    rw [nf_up (by omega)] at hP hD
    have hP : va_P (dC, dI) vwCl (mw cI a sz st us kp ga gl cs mem pl ln km (va_up ks 4 (tw cd 0)) kt ku kl kn cd wt) H := hP
    have hD : va_D A (mw cI a sz st us kp ga gl cs mem pl ln km (va_up ks 4 (tw cd 0)) kt ku kl kn cd wt) := hD
    refine lv_aload_n hx hb dX4_head_26 rfl (lv_at hl 1 rfl) ?_
    refine va_get (D := (dC, dI)) (ci := 4) (v := .ref (a 5)) (C := RX4) (T := TX4) (N := 18) hx hb hts in_X4 hown hK hP 0 rfl rfl 8 (by decide) lk_2 (fun _ h9 => h9) rfl dX4_head_27 ?_
    refine lv_iload_n hx hb dX4_head_30 rfl (lv_at hl 0 rfl) ?_
    refine va_iald hx hb hK hP 5 0 rfl rfl (vp_in_nI (by omega) (by omega)) dX4_head_31 ?_
    refine tpi (nf_at (by omega)) ?_
    refine tpi (congrArg nI (va_up_self _ _ _)) ?_
    refine vp_callSi (W.runS (As := [.int (nI (tw cd 0))]) (rest := []) ⟨hx, hb, hml, hown, hts⟩ (c_X4_isSize l (tw cd 0) (by omega)) (va_cwS 1 hts gX4_head_X4_isSize rfl rfl rfl (by decide +kernel) ⟨Nat.le_of_ble_eq_true rfl, Nat.le_of_ble_eq_true rfl⟩) ⟨fun a9 U g9 mk9 q9 => ⟨q9.1, trivial⟩, fun U hU hW => ⟨rfl, trivial⟩⟩ rfl rfl hl.1 rfl (lv_room (Nat.le_of_ble_eq_true rfl)) dX4_head_32 ⟨Nat.zero_le _, Nat.zero_le _⟩) (fun r_32 hw => ?_)
    try dsimp only at hw
    rcases hw with ⟨hc_32, rfl⟩ | ⟨hc_32, rfl⟩
    · skip
      refine lv_if_ne (tgt := 40) hx hb dX4_head_35 (by decide) (fun c_35 => ?_) (fun c_35 => ?_)
      · have c_35 : ¬ 1 = 0 := fun q => c_35 ((nZ_eq (by omega)).mpr q)
        refine lv_aload_n hx hb dX4_head_40 rfl (lv_at hl 1 rfl) ?_
        refine va_get (D := (dC, dI)) (ci := 4) (v := .int (nI cs)) (C := RX4) (T := TX4) (N := 18) hx hb hts in_X4 hown hK hP 0 rfl rfl 16 (by decide) lk_1 (fun _ h9 => h9) rfl dX4_head_41 ?_
        refine lv_iconst (v := (nI 4)) hx hb dX4_head_44 (by decide) ?_
        refine lv_icmp_ge (tgt := 53) hx hb dX4_head_45 (by decide) (fun c_45 => ?_) (fun c_45 => ?_)
        · have c_45 : 4 ≤ cs := (nI_leI (a := 4) (b := cs) (by omega) (by omega)).mp c_45
          refine lv_aload_n hx hb dX4_head_53 rfl (lv_at hl 1 rfl) ?_
          refine va_get (D := (dC, dI)) (ci := 4) (v := .ref (a 6)) (C := RX4) (T := TX4) (N := 18) hx hb hts in_X4 hown hK hP 0 rfl rfl 9 (by decide) lk_3 (fun _ h9 => h9) rfl dX4_head_54 ?_
          refine lv_iload_n hx hb dX4_head_57 rfl (lv_at hl 0 rfl) ?_
          refine lv_aload_n hx hb dX4_head_58 rfl (lv_at hl 1 rfl) ?_
          refine lv_iconst (v := (nI 2)) hx hb dX4_head_59 (by decide) ?_
          refine vp_callSi (W.runV (As := [.int (nI 2)]) (rest := [.int (nI 4), .ref (a 6)]) ⟨hx, hb, hml, hown, hts⟩ (c_X4_two l dC dI cI a sz st us kp ga gl cs mem pl ln km (va_up ks 4 (tw cd 0)) kt ku kl kn cd wt 2 (by omega) bcd) (cwV 1 hts gX4_head_X4_two rfl rfl rfl (by decide +kernel) ⟨Nat.le_of_ble_eq_true rfl, Nat.le_of_ble_eq_true rfl⟩) ⟨fun a9 U g9 mk9 q9 => by obtain ⟨q0, qP, qK⟩ := q9; exact ⟨q0, qP, va_K.moved (u := U) (U := U.calling g9 mk9 a9) (Vm.Alike.refl U.vm) qK⟩, va_recv hK hP (ci := 4) (q0 := 0) rfl rfl, fun U hU hW => ⟨rfl, by rw [hU]; exact hP, va_K.moved hW.alike hK⟩⟩ rfl rfl hl.1 rfl (lv_room (Nat.le_of_ble_eq_true rfl)) dX4_head_60 ⟨Nat.zero_le _, Nat.zero_le _⟩) (fun r_60 hw => ?_)
          try dsimp only at hw
          subst hw
          have wt_60 := tw_lt bcd 2
          refine va_iast hx hb hK hP hD hS 6 0 rfl rfl (vp_in_nI (by omega) (by omega)) dX4_head_63 (fun H locs hP hD hS => ?_)
          rw [nf_up (by omega)] at hP hD
          have hP : va_P (dC, dI) vwCl (mw cI a sz st us kp ga gl cs mem pl ln km (va_up ks 4 (tw cd 0)) (va_up kt 4 (tw cd 2)) ku kl kn cd wt) H := hP
          have hD : va_D A (mw cI a sz st us kp ga gl cs mem pl ln km (va_up ks 4 (tw cd 0)) (va_up kt 4 (tw cd 2)) ku kl kn cd wt) := hD
          refine lv_aload_n hx hb dX4_head_64 rfl (lv_at hl 1 rfl) ?_
          refine va_get (D := (dC, dI)) (ci := 4) (v := .ref (a 6)) (C := RX4) (T := TX4) (N := 18) hx hb hts in_X4 hown hK hP 0 rfl rfl 9 (by decide) lk_3 (fun _ h9 => h9) rfl dX4_head_65 ?_
          refine lv_iload_n hx hb dX4_head_68 rfl (lv_at hl 0 rfl) ?_
          refine va_iald hx hb hK hP 6 0 rfl rfl (vp_in_nI (by omega) (by omega)) dX4_head_69 ?_
          refine tpi (nf_at (by omega)) ?_
          refine tpi (congrArg nI (va_up_self _ _ _)) ?_
          refine lv_if_eq (tgt := 102) hx hb dX4_head_70 (by decide) (fun c_70 => ?_) (fun c_70 => ?_)
          · have c_70 : tw cd 2 = 0 := (nZ_eq (by omega)).mp c_70
            refine lv_aload_n hx hb dX4_head_102 rfl (lv_at hl 1 rfl) ?_
            refine va_get (D := (dC, dI)) (ci := 4) (v := .int (nI cs)) (C := RX4) (T := TX4) (N := 18) hx hb hts in_X4 hown hK hP 0 rfl rfl 16 (by decide) lk_1 (fun _ h9 => h9) rfl dX4_head_103 ?_
            refine lv_bipush (v := (nI 6)) hx hb dX4_head_106 (by decide) ?_
            refine lv_icmp_ge (tgt := 116) hx hb dX4_head_108 (by decide) (fun c_108 => ?_) (fun c_108 => ?_)
            · have c_108 : 6 ≤ cs := (nI_leI (a := 6) (b := cs) (by omega) (by omega)).mp c_108
              refine lv_aload_n hx hb dX4_head_116 rfl (lv_at hl 1 rfl) ?_
              refine va_get (D := (dC, dI)) (ci := 4) (v := .ref (a 7)) (C := RX4) (T := TX4) (N := 18) hx hb hts in_X4 hown hK hP 0 rfl rfl 10 (by decide) lk_4 (fun _ h9 => h9) rfl dX4_head_117 ?_
              refine lv_iload_n hx hb dX4_head_120 rfl (lv_at hl 0 rfl) ?_
              refine lv_aload_n hx hb dX4_head_121 rfl (lv_at hl 1 rfl) ?_
              refine lv_iconst (v := (nI 4)) hx hb dX4_head_122 (by decide) ?_
              refine vp_callSi (W.runV (As := [.int (nI 4)]) (rest := [.int (nI 4), .ref (a 7)]) ⟨hx, hb, hml, hown, hts⟩ (c_X4_two l dC dI cI a sz st us kp ga gl cs mem pl ln km (va_up ks 4 (tw cd 0)) (va_up kt 4 (tw cd 2)) ku kl kn cd wt 4 (by omega) bcd) (cwV 1 hts gX4_head_X4_two rfl rfl rfl (by decide +kernel) ⟨Nat.le_of_ble_eq_true rfl, Nat.le_of_ble_eq_true rfl⟩) ⟨fun a9 U g9 mk9 q9 => by obtain ⟨q0, qP, qK⟩ := q9; exact ⟨q0, qP, va_K.moved (u := U) (U := U.calling g9 mk9 a9) (Vm.Alike.refl U.vm) qK⟩, va_recv hK hP (ci := 4) (q0 := 0) rfl rfl, fun U hU hW => ⟨rfl, by rw [hU]; exact hP, va_K.moved hW.alike hK⟩⟩ rfl rfl hl.1 rfl (lv_room (Nat.le_of_ble_eq_true rfl)) dX4_head_123 ⟨Nat.zero_le _, Nat.zero_le _⟩) (fun r_123 hw => ?_)
              try dsimp only at hw
              subst hw
              have wt_123 := tw_lt bcd 4
              refine va_iast hx hb hK hP hD hS 7 0 rfl rfl (vp_in_nI (by omega) (by omega)) dX4_head_126 (fun H locs hP hD hS => ?_)
              rw [nf_up (by omega)] at hP hD
              have hP : va_P (dC, dI) vwCl (mw cI a sz st us kp ga gl cs mem pl ln km (va_up ks 4 (tw cd 0)) (va_up kt 4 (tw cd 2)) (va_up ku 4 (tw cd 4)) kl kn cd wt) H := hP
              have hD : va_D A (mw cI a sz st us kp ga gl cs mem pl ln km (va_up ks 4 (tw cd 0)) (va_up kt 4 (tw cd 2)) (va_up ku 4 (tw cd 4)) kl kn cd wt) := hD
              refine lv_aload_n hx hb dX4_head_127 rfl (lv_at hl 1 rfl) ?_
              refine va_get (D := (dC, dI)) (ci := 4) (v := .ref (a 7)) (C := RX4) (T := TX4) (N := 18) hx hb hts in_X4 hown hK hP 0 rfl rfl 10 (by decide) lk_4 (fun _ h9 => h9) rfl dX4_head_128 ?_
              refine lv_iload_n hx hb dX4_head_131 rfl (lv_at hl 0 rfl) ?_
              refine va_iald hx hb hK hP 7 0 rfl rfl (vp_in_nI (by omega) (by omega)) dX4_head_132 ?_
              refine tpi (nf_at (by omega)) ?_
              refine tpi (congrArg nI (va_up_self _ _ _)) ?_
              refine lv_bipush (v := (nI 64)) hx hb dX4_head_133 (by decide) ?_
              refine lv_icmp_gt (tgt := 169) hx hb dX4_head_135 (by decide) (fun c_135 => ?_) (fun c_135 => ?_)
              · have c_135 : 64 < tw cd 4 := (nI_ltI (a := 64) (b := tw cd 4) (by omega) (by omega)).mp c_135
                refine lv_iconst (v := (nI 4)) hx hb dX4_head_169 (by decide) ?_
                have hS9 : hdS cs cd = some (4) := by unfold hdS; rw [if_neg (by omega), if_neg (fun q => q hc_32), if_neg (by omega), if_neg (fun q => q.1 c_70), if_neg (by omega), if_pos (by omega)]
                exact W.iret (v := (nI 4)) hx hb hr (fun t ht hW => ⟨⟨(nI 4), (va_up ks 4 (tw cd 0), va_up kt 4 (tw cd 2), va_up ku 4 (tw cd 4), kl, kn), rfl, ⟨by rw [hS9], fun j hj => ⟨va_up_ne _ _ hj, va_up_ne _ _ hj, va_up_ne _ _ hj⟩, fun j hj => ⟨rfl, rfl⟩, fun j => ⟨up_lt bks (by omega) j, up_lt bkt (by omega) j, up_lt bku (by omega) j, bkl j, bkn j⟩, fun q => by rw [hS9] at q; cases q⟩, by rw [ht]; exact hP, va_K.moved hW.alike hK, hD⟩, hS.F ht⟩) hS.2.2 dX4_head_170
              · have c_135 : ¬ 64 < tw cd 4 := fun q => c_135 ((nI_ltI (a := 64) (b := tw cd 4) (by omega) (by omega)).mpr q)
                refine lv_aload_n hx hb dX4_head_138 rfl (lv_at hl 1 rfl) ?_
                refine va_get (D := (dC, dI)) (ci := 4) (v := .ref (a 7)) (C := RX4) (T := TX4) (N := 18) hx hb hts in_X4 hown hK hP 0 rfl rfl 10 (by decide) lk_4 (fun _ h9 => h9) rfl dX4_head_139 ?_
                refine lv_iload_n hx hb dX4_head_142 rfl (lv_at hl 0 rfl) ?_
                refine va_iald hx hb hK hP 7 0 rfl rfl (vp_in_nI (by omega) (by omega)) dX4_head_143 ?_
                refine tpi (nf_at (by omega)) ?_
                refine tpi (congrArg nI (va_up_self _ _ _)) ?_
                refine lv_if_ne (tgt := 151) hx hb dX4_head_144 (by decide) (fun c_144 => ?_) (fun c_144 => ?_)
                · have c_144 : ¬ tw cd 4 = 0 := fun q => c_144 ((nZ_eq (by omega)).mpr q)
                  refine lv_iconst (v := (nI 0)) hx hb dX4_head_151 (by decide) ?_
                  refine lv_aload_n hx hb dX4_head_152 rfl (lv_at hl 1 rfl) ?_
                  refine va_get (D := (dC, dI)) (ci := 4) (v := .ref (a 6)) (C := RX4) (T := TX4) (N := 18) hx hb hts in_X4 hown hK hP 0 rfl rfl 9 (by decide) lk_3 (fun _ h9 => h9) rfl dX4_head_153 ?_
                  refine lv_iload_n hx hb dX4_head_156 rfl (lv_at hl 0 rfl) ?_
                  refine va_iald hx hb hK hP 6 0 rfl rfl (vp_in_nI (by omega) (by omega)) dX4_head_157 ?_
                  refine tpi (nf_at (by omega)) ?_
                  refine tpi (congrArg nI (va_up_self _ _ _)) ?_
                  refine lv_if_ne (tgt := 165) hx hb dX4_head_158 (by decide) (fun c_158 => ?_) (fun c_158 => ?_)
                  · have c_158 : ¬ tw cd 2 = 0 := fun q => c_158 ((nZ_eq (by omega)).mpr q)
                    refine lv_iconst (v := (nI 0)) hx hb dX4_head_165 (by decide) ?_
                    refine lv_icmp_eq (tgt := 171) hx hb dX4_head_166 (by decide) (fun c_166 => ?_) (fun c_166 => ?_)
                    · have c_166 : 0 = 0 := (nI_eq (a := 0) (b := 0) (by omega) (by omega)).mp c_166
                      refine lv_aload_n hx hb dX4_head_171 rfl (lv_at hl 1 rfl) ?_
                      refine va_get (D := (dC, dI)) (ci := 4) (v := .ref (a 6)) (C := RX4) (T := TX4) (N := 18) hx hb hts in_X4 hown hK hP 0 rfl rfl 9 (by decide) lk_3 (fun _ h9 => h9) rfl dX4_head_172 ?_
                      refine lv_iload_n hx hb dX4_head_175 rfl (lv_at hl 0 rfl) ?_
                      refine va_iald hx hb hK hP 6 0 rfl rfl (vp_in_nI (by omega) (by omega)) dX4_head_176 ?_
                      refine tpi (nf_at (by omega)) ?_
                      refine tpi (congrArg nI (va_up_self _ _ _)) ?_
                      refine lv_istore_n (lv' := [(2, .int (nI (tw cd 2))), (1, .int (nI 4)), (0, .ref (a 0))]) hx hb dX4_head_177 rfl hl (by decide) rfl (fun ls hl => ?_)
                      refine lv_iconst (v := (nI 0)) hx hb dX4_head_178 (by decide) ?_
                      refine lv_istore_n (lv' := [(3, .int (nI 0)), (2, .int (nI (tw cd 2))), (1, .int (nI 4)), (0, .ref (a 0))]) hx hb dX4_head_179 rfl hl (by decide) rfl (fun ls hl => ?_)
                      have hS0 : hdS cs cd = hdB cs cd (tw cd 0) (tw cd 4) 0 (tw cd 2) := by unfold hdS; rw [if_neg (by omega), if_neg (fun q => q hc_32), if_neg (by omega), if_neg (fun q => q.1 c_70), if_neg (by omega), if_neg (by omega)]
                      refine lp_world (σ := Nat × Nat × (Nat → Nat) × (Nat → Nat)) (fun ⟨i, en, g, h⟩ => i ≤ tw cd 4 ∧ hdS cs cd = hdB cs cd (tw cd 0) (tw cd 4 - i) i en ∧ (∀ j, j < 256 → g j = kl j ∧ h j = kn j) ∧ (∀ j, j < i → g (256 + j) = tw cd (6 + 4 * j) ∧ h (256 + j) = tw cd (6 + 4 * j + 2)) ∧ (∀ j, g j < 2 ^ 31 ∧ h j < 2 ^ 31) ∧ en ≤ 131072) (fun ⟨i, en, g, h⟩ => tw cd 4 - i) (fun ⟨i, en, g, h⟩ => [(3, .int (nI i)), (2, .int (nI en)), (1, .int (nI 4)), (0, .ref (a 0))]) (fun ⟨i, en, g, h⟩ => mw cI a sz st us kp ga gl cs mem pl ln km (va_up ks 4 (tw cd 0)) (va_up kt 4 (tw cd 2)) (va_up ku 4 (tw cd 4)) g h cd wt) ?_ ((0, tw cd 2, kl, kn)) (⟨by omega, hS0, fun j hj => ⟨rfl, rfl⟩, fun j hj => absurd hj (Nat.not_lt_zero _), fun j => ⟨bkl j, bkn j⟩, by omega⟩) (hP) (hD) hS (lv_sub hl [0, 1, 2, 3] rfl)
                      intro ⟨i, en, g, h⟩ hI ih H locs ls hP hD hS hl
                      have hl : lv_has ls 7 [(3, .int (nI i)), (2, .int (nI en)), (1, .int (nI 4)), (0, .ref (a 0))] := hl
                      have hP : va_P (dC, dI) vwCl (mw cI a sz st us kp ga gl cs mem pl ln km (va_up ks 4 (tw cd 0)) (va_up kt 4 (tw cd 2)) (va_up ku 4 (tw cd 4)) g h cd wt) H := hP
                      have hD : va_D A (mw cI a sz st us kp ga gl cs mem pl ln km (va_up ks 4 (tw cd 0)) (va_up kt 4 (tw cd 2)) (va_up ku 4 (tw cd 4)) g h cd wt) := hD
                      have hI : i ≤ tw cd 4 ∧ hdS cs cd = hdB cs cd (tw cd 0) (tw cd 4 - i) i en ∧ (∀ j, j < 256 → g j = kl j ∧ h j = kn j) ∧ (∀ j, j < i → g (256 + j) = tw cd (6 + 4 * j) ∧ h (256 + j) = tw cd (6 + 4 * j + 2)) ∧ (∀ j, g j < 2 ^ 31 ∧ h j < 2 ^ 31) ∧ en ≤ 131072 := hI
                      obtain ⟨hi, hv, hgk, hgd, hgb, hen⟩ := hI
                      have ih_180 := ih
                      refine lv_iload_n hx hb dX4_head_180 rfl (lv_at hl 0 rfl) ?_
                      refine lv_aload_n hx hb dX4_head_181 rfl (lv_at hl 3 rfl) ?_
                      refine va_get (D := (dC, dI)) (ci := 4) (v := .ref (a 7)) (C := RX4) (T := TX4) (N := 18) hx hb hts in_X4 hown hK hP 0 rfl rfl 10 (by decide) lk_4 (fun _ h9 => h9) rfl dX4_head_182 ?_
                      refine lv_iload_n hx hb dX4_head_185 rfl (lv_at hl 2 rfl) ?_
                      refine va_iald hx hb hK hP 7 0 rfl rfl (vp_in_nI (by omega) (by omega)) dX4_head_186 ?_
                      refine tpi (nf_at (by omega)) ?_
                      refine tpi (congrArg nI (va_up_self _ _ _)) ?_
                      refine lv_icmp_ge (tgt := 319) hx hb dX4_head_187 (by decide) (fun c_187 => ?_) (fun c_187 => ?_)
                      · have c_187 : tw cd 4 ≤ i := (nI_leI (a := tw cd 4) (b := i) (by omega) (by omega)).mp c_187
                        refine lv_iconst (v := ((-1))) hx hb dX4_head_319 (by decide) ?_
                        have hS9 : hdS cs cd = none := by rw [hv, show tw cd 4 - i = 0 by omega]; rfl
                        exact W.iret (v := ((-1))) hx hb hr (fun t ht hW => ⟨⟨((-1)), (va_up ks 4 (tw cd 0), va_up kt 4 (tw cd 2), va_up ku 4 (tw cd 4), g, h), rfl, ⟨by rw [hS9], fun j hj => ⟨va_up_ne _ _ hj, va_up_ne _ _ hj, va_up_ne _ _ hj⟩, hgk, fun j => ⟨up_lt bks (by omega) j, up_lt bkt (by omega) j, up_lt bku (by omega) j, (hgb j).1, (hgb j).2⟩, fun _ => ⟨va_up_self _ _ _, va_up_self _ _ _, va_up_self _ _ _, fun j hj => hgd j (by omega)⟩⟩, by rw [ht]; exact hP, va_K.moved hW.alike hK, hD⟩, hS.F ht⟩) hS.2.2 dX4_head_320
                      · have c_187 : ¬ tw cd 4 ≤ i := fun q => c_187 ((nI_leI (a := tw cd 4) (b := i) (by omega) (by omega)).mpr q)
                        refine lv_bipush (v := (nI 6)) hx hb dX4_head_190 (by decide) ?_
                        refine lv_iconst (v := (nI 4)) hx hb dX4_head_192 (by decide) ?_
                        refine lv_iload_n hx hb dX4_head_193 rfl (lv_at hl 0 rfl) ?_
                        refine lv_imul hx hb dX4_head_194 ?_
                        refine tpi (pk_mul _ _) ?_
                        refine lv_iadd hx hb dX4_head_195 ?_
                        refine tpi (nI_add _ _) ?_
                        refine lv_istore (lv' := [(4, .int (nI (6 + (4 * i)))), (3, .int (nI i)), (2, .int (nI en)), (1, .int (nI 4)), (0, .ref (a 0))]) hx hb dX4_head_196 hl (by decide) rfl (fun ls hl => ?_)
                        refine lv_aload_n hx hb dX4_head_198 rfl (lv_at hl 4 rfl) ?_
                        refine va_get (D := (dC, dI)) (ci := 4) (v := .int (nI cs)) (C := RX4) (T := TX4) (N := 18) hx hb hts in_X4 hown hK hP 0 rfl rfl 16 (by decide) lk_1 (fun _ h9 => h9) rfl dX4_head_199 ?_
                        refine lv_iload hx hb dX4_head_202 (lv_at hl 0 rfl) ?_
                        refine lv_iconst (v := (nI 2)) hx hb dX4_head_204 (by decide) ?_
                        refine lv_iadd hx hb dX4_head_205 ?_
                        refine tpi (nI_add _ _) ?_
                        refine lv_icmp_ge (tgt := 214) hx hb dX4_head_206 (by decide) (fun c_206 => ?_) (fun c_206 => ?_)
                        · have c_206 : 6 + (4 * i) + 2 ≤ cs := (nI_leI (a := 6 + (4 * i) + 2) (b := cs) (by omega) (by omega)).mp c_206
                          refine lv_aload_n hx hb dX4_head_214 rfl (lv_at hl 4 rfl) ?_
                          refine lv_iload hx hb dX4_head_215 (lv_at hl 0 rfl) ?_
                          refine vp_callSi (W.runV (As := [.int (nI (6 + (4 * i)))]) (rest := []) ⟨hx, hb, hml, hown, hts⟩ (c_X4_two l dC dI cI a sz st us kp ga gl cs mem pl ln km (va_up ks 4 (tw cd 0)) (va_up kt 4 (tw cd 2)) (va_up ku 4 (tw cd 4)) g h cd wt (6 + (4 * i)) (by omega) bcd) (cwV 1 hts gX4_head_X4_two rfl rfl rfl (by decide +kernel) ⟨Nat.le_of_ble_eq_true rfl, Nat.le_of_ble_eq_true rfl⟩) ⟨fun a9 U g9 mk9 q9 => by obtain ⟨q0, qP, qK⟩ := q9; exact ⟨q0, qP, va_K.moved (u := U) (U := U.calling g9 mk9 a9) (Vm.Alike.refl U.vm) qK⟩, va_recv hK hP (ci := 4) (q0 := 0) rfl rfl, fun U hU hW => ⟨rfl, by rw [hU]; exact hP, va_K.moved hW.alike hK⟩⟩ rfl rfl hl.1 rfl (lv_room (Nat.le_of_ble_eq_true rfl)) dX4_head_217 ⟨Nat.zero_le _, Nat.zero_le _⟩) (fun r_217 hw => ?_)
                          try dsimp only at hw
                          subst hw
                          have wt_217 := tw_lt bcd (6 + (4 * i))
                          refine lv_istore (lv' := [(5, .int (nI (tw cd (6 + (4 * i))))), (4, .int (nI (6 + (4 * i)))), (3, .int (nI i)), (2, .int (nI en)), (1, .int (nI 4)), (0, .ref (a 0))]) hx hb dX4_head_220 hl (by decide) rfl (fun ls hl => ?_)
                          refine lv_iload hx hb dX4_head_222 (lv_at hl 0 rfl) ?_
                          refine lv_iload_n hx hb dX4_head_224 rfl (lv_at hl 3 rfl) ?_
                          refine lv_icmp_ge (tgt := 231) hx hb dX4_head_225 (by decide) (fun c_225 => ?_) (fun c_225 => ?_)
                          · have c_225 : en ≤ tw cd (6 + (4 * i)) := (nI_leI (a := en) (b := tw cd (6 + (4 * i))) (by omega) (by omega)).mp c_225
                            refine lv_aload_n hx hb dX4_head_231 rfl (lv_at hl 5 rfl) ?_
                            refine va_get (D := (dC, dI)) (ci := 4) (v := .int (nI cs)) (C := RX4) (T := TX4) (N := 18) hx hb hts in_X4 hown hK hP 0 rfl rfl 16 (by decide) lk_1 (fun _ h9 => h9) rfl dX4_head_232 ?_
                            refine lv_iload hx hb dX4_head_235 (lv_at hl 1 rfl) ?_
                            refine lv_iconst (v := (nI 4)) hx hb dX4_head_237 (by decide) ?_
                            refine lv_iadd hx hb dX4_head_238 ?_
                            refine tpi (nI_add _ _) ?_
                            refine lv_icmp_ge (tgt := 247) hx hb dX4_head_239 (by decide) (fun c_239 => ?_) (fun c_239 => ?_)
                            · have c_239 : 6 + (4 * i) + 4 ≤ cs := (nI_leI (a := 6 + (4 * i) + 4) (b := cs) (by omega) (by omega)).mp c_239
                              refine lv_aload_n hx hb dX4_head_247 rfl (lv_at hl 5 rfl) ?_
                              refine lv_iload hx hb dX4_head_248 (lv_at hl 1 rfl) ?_
                              refine lv_iconst (v := (nI 2)) hx hb dX4_head_250 (by decide) ?_
                              refine lv_iadd hx hb dX4_head_251 ?_
                              refine tpi (nI_add _ _) ?_
                              refine vp_callSi (W.runV (As := [.int (nI (6 + (4 * i) + 2))]) (rest := []) ⟨hx, hb, hml, hown, hts⟩ (c_X4_two l dC dI cI a sz st us kp ga gl cs mem pl ln km (va_up ks 4 (tw cd 0)) (va_up kt 4 (tw cd 2)) (va_up ku 4 (tw cd 4)) g h cd wt (6 + (4 * i) + 2) (by omega) bcd) (cwV 1 hts gX4_head_X4_two rfl rfl rfl (by decide +kernel) ⟨Nat.le_of_ble_eq_true rfl, Nat.le_of_ble_eq_true rfl⟩) ⟨fun a9 U g9 mk9 q9 => by obtain ⟨q0, qP, qK⟩ := q9; exact ⟨q0, qP, va_K.moved (u := U) (U := U.calling g9 mk9 a9) (Vm.Alike.refl U.vm) qK⟩, va_recv hK hP (ci := 4) (q0 := 0) rfl rfl, fun U hU hW => ⟨rfl, by rw [hU]; exact hP, va_K.moved hW.alike hK⟩⟩ rfl rfl hl.1 rfl (lv_room (Nat.le_of_ble_eq_true rfl)) dX4_head_252 ⟨Nat.zero_le _, Nat.zero_le _⟩) (fun r_252 hw => ?_)
                              try dsimp only at hw
                              subst hw
                              have wt_252 := tw_lt bcd (6 + (4 * i) + 2)
                              refine lv_istore (lv' := [(6, .int (nI (tw cd (6 + (4 * i) + 2)))), (5, .int (nI (tw cd (6 + (4 * i))))), (4, .int (nI (6 + (4 * i)))), (3, .int (nI i)), (2, .int (nI en)), (1, .int (nI 4)), (0, .ref (a 0))]) hx hb dX4_head_255 hl (by decide) rfl (fun ls hl => ?_)
                              refine lv_iload hx hb dX4_head_257 (lv_at hl 0 rfl) ?_
                              refine lv_if_eq (tgt := 276) hx hb dX4_head_259 (by decide) (fun c_259 => ?_) (fun c_259 => ?_)
                              · have c_259 : tw cd (6 + (4 * i) + 2) = 0 := (nZ_eq (by omega)).mp c_259
                                refine lv_iload hx hb dX4_head_276 (lv_at hl 2 rfl) ?_
                                refine lv_iconst (v := (nI 2)) hx hb dX4_head_278 (by decide) ?_
                                refine lv_iadd hx hb dX4_head_279 ?_
                                refine tpi (nI_add _ _) ?_
                                have hS9 : hdS cs cd = some (6 + (4 * i) + 2) := by rw [hv, hdB_s (by omega), if_neg (by omega), if_neg (by omega), if_neg (by omega), if_pos (by omega)]
                                exact W.iret (v := (nI (6 + (4 * i) + 2))) hx hb hr (fun t ht hW => ⟨⟨(nI (6 + (4 * i) + 2)), (va_up ks 4 (tw cd 0), va_up kt 4 (tw cd 2), va_up ku 4 (tw cd 4), g, h), rfl, ⟨by rw [hS9], fun j hj => ⟨va_up_ne _ _ hj, va_up_ne _ _ hj, va_up_ne _ _ hj⟩, hgk, fun j => ⟨up_lt bks (by omega) j, up_lt bkt (by omega) j, up_lt bku (by omega) j, (hgb j).1, (hgb j).2⟩, fun q => by rw [hS9] at q; cases q⟩, by rw [ht]; exact hP, va_K.moved hW.alike hK, hD⟩, hS.F ht⟩) hS.2.2 dX4_head_280
                              · have c_259 : ¬ tw cd (6 + (4 * i) + 2) = 0 := fun q => c_259 ((nZ_eq (by omega)).mpr q)
                                refine lv_iload hx hb dX4_head_262 (lv_at hl 1 rfl) ?_
                                refine lv_iload hx hb dX4_head_264 (lv_at hl 0 rfl) ?_
                                refine lv_iadd hx hb dX4_head_266 ?_
                                refine tpi (nI_add _ _) ?_
                                refine lv_aload_n hx hb dX4_head_267 rfl (lv_at hl 6 rfl) ?_
                                refine va_get (D := (dC, dI)) (ci := 4) (v := .ref (a 5)) (C := RX4) (T := TX4) (N := 18) hx hb hts in_X4 hown hK hP 0 rfl rfl 8 (by decide) lk_2 (fun _ h9 => h9) rfl dX4_head_268 ?_
                                refine lv_iload_n hx hb dX4_head_271 rfl (lv_at hl 5 rfl) ?_
                                refine va_iald hx hb hK hP 5 0 rfl rfl (vp_in_nI (by omega) (by omega)) dX4_head_272 ?_
                                refine tpi (nf_at (by omega)) ?_
                                refine tpi (congrArg nI (va_up_self _ _ _)) ?_
                                refine lv_icmp_le (tgt := 281) hx hb dX4_head_273 (by decide) (fun c_273 => ?_) (fun c_273 => ?_)
                                · have c_273 : tw cd (6 + (4 * i)) + (tw cd (6 + (4 * i) + 2)) ≤ tw cd 0 := (nI_leI (a := tw cd (6 + (4 * i)) + (tw cd (6 + (4 * i) + 2))) (b := tw cd 0) (by omega) (by omega)).mp c_273
                                  refine lv_aload_n hx hb dX4_head_281 rfl (lv_at hl 6 rfl) ?_
                                  refine va_get (D := (dC, dI)) (ci := 4) (v := .ref (a 8)) (C := RX4) (T := TX4) (N := 18) hx hb hts in_X4 hown hK hP 0 rfl rfl 11 (by decide) lk_5 (fun _ h9 => h9) rfl dX4_head_282 ?_
                                  refine lv_bipush (v := (nI 64)) hx hb dX4_head_285 (by decide) ?_
                                  refine lv_iload_n hx hb dX4_head_287 rfl (lv_at hl 5 rfl) ?_
                                  refine lv_imul hx hb dX4_head_288 ?_
                                  refine tpi (pk_mul _ _) ?_
                                  refine lv_iload_n hx hb dX4_head_289 rfl (lv_at hl 3 rfl) ?_
                                  refine lv_iadd hx hb dX4_head_290 ?_
                                  refine tpi (nI_add _ _) ?_
                                  refine lv_iload hx hb dX4_head_291 (lv_at hl 1 rfl) ?_
                                  refine va_iast hx hb hK hP hD hS 8 0 rfl rfl (vp_in_nI (by omega) (by omega)) dX4_head_293 (fun H locs hP hD hS => ?_)
                                  rw [nf_up (by omega)] at hP hD
                                  have hP : va_P (dC, dI) vwCl (mw cI a sz st us kp ga gl cs mem pl ln km (va_up ks 4 (tw cd 0)) (va_up kt 4 (tw cd 2)) (va_up ku 4 (tw cd 4)) (va_up g (256 + i) (tw cd (6 + (4 * i)))) h cd wt) H := hP
                                  have hD : va_D A (mw cI a sz st us kp ga gl cs mem pl ln km (va_up ks 4 (tw cd 0)) (va_up kt 4 (tw cd 2)) (va_up ku 4 (tw cd 4)) (va_up g (256 + i) (tw cd (6 + (4 * i)))) h cd wt) := hD
                                  refine lv_aload_n hx hb dX4_head_294 rfl (lv_at hl 6 rfl) ?_
                                  refine va_get (D := (dC, dI)) (ci := 4) (v := .ref (a 9)) (C := RX4) (T := TX4) (N := 18) hx hb hts in_X4 hown hK hP 0 rfl rfl 12 (by decide) lk_6 (fun _ h9 => h9) rfl dX4_head_295 ?_
                                  refine lv_bipush (v := (nI 64)) hx hb dX4_head_298 (by decide) ?_
                                  refine lv_iload_n hx hb dX4_head_300 rfl (lv_at hl 5 rfl) ?_
                                  refine lv_imul hx hb dX4_head_301 ?_
                                  refine tpi (pk_mul _ _) ?_
                                  refine lv_iload_n hx hb dX4_head_302 rfl (lv_at hl 3 rfl) ?_
                                  refine lv_iadd hx hb dX4_head_303 ?_
                                  refine tpi (nI_add _ _) ?_
                                  refine lv_iload hx hb dX4_head_304 (lv_at hl 0 rfl) ?_
                                  refine va_iast hx hb hK hP hD hS 9 0 rfl rfl (vp_in_nI (by omega) (by omega)) dX4_head_306 (fun H locs hP hD hS => ?_)
                                  rw [nf_up (by omega)] at hP hD
                                  have hP : va_P (dC, dI) vwCl (mw cI a sz st us kp ga gl cs mem pl ln km (va_up ks 4 (tw cd 0)) (va_up kt 4 (tw cd 2)) (va_up ku 4 (tw cd 4)) (va_up g (256 + i) (tw cd (6 + (4 * i)))) (va_up h (256 + i) (tw cd (6 + (4 * i) + 2))) cd wt) H := hP
                                  have hD : va_D A (mw cI a sz st us kp ga gl cs mem pl ln km (va_up ks 4 (tw cd 0)) (va_up kt 4 (tw cd 2)) (va_up ku 4 (tw cd 4)) (va_up g (256 + i) (tw cd (6 + (4 * i)))) (va_up h (256 + i) (tw cd (6 + (4 * i) + 2))) cd wt) := hD
                                  refine lv_iload hx hb dX4_head_307 (lv_at hl 1 rfl) ?_
                                  refine lv_iload hx hb dX4_head_309 (lv_at hl 0 rfl) ?_
                                  refine lv_iadd hx hb dX4_head_311 ?_
                                  refine tpi (nI_add _ _) ?_
                                  refine lv_istore_n (lv' := [(2, .int (nI (tw cd (6 + (4 * i)) + (tw cd (6 + (4 * i) + 2))))), (6, .int (nI (tw cd (6 + (4 * i) + 2)))), (5, .int (nI (tw cd (6 + (4 * i))))), (4, .int (nI (6 + (4 * i)))), (3, .int (nI i)), (1, .int (nI 4)), (0, .ref (a 0))]) hx hb dX4_head_312 rfl hl (by decide) rfl (fun ls hl => ?_)
                                  refine lv_iinc (v := (nI (i + 1))) (lv' := [(3, .int (nI (i + 1))), (2, .int (nI (tw cd (6 + (4 * i)) + (tw cd (6 + (4 * i) + 2))))), (6, .int (nI (tw cd (6 + (4 * i) + 2)))), (5, .int (nI (tw cd (6 + (4 * i))))), (4, .int (nI (6 + (4 * i)))), (1, .int (nI 4)), (0, .ref (a 0))]) hx hb dX4_head_313 hl (k := 4) rfl (nI_inc _) (by decide) rfl (fun ls hl => ?_)
                                  refine lv_goto (tgt := 180) hx hb dX4_head_316 (by decide) ?_
                                  exact ih_180 (i + 1, tw cd (6 + (4 * i)) + (tw cd (6 + (4 * i) + 2)), va_up g (256 + i) (tw cd (6 + (4 * i))), va_up h (256 + i) (tw cd (6 + (4 * i) + 2))) (⟨by omega, by rw [hv, hdB_s (by omega), if_neg (by omega), if_neg (by omega), if_neg (by omega), if_neg (by omega)], fun j hj => ⟨by rw [va_up_ne _ _ (by omega)]; exact (hgk j hj).1, by rw [va_up_ne _ _ (by omega)]; exact (hgk j hj).2⟩, lt_s (fun j hj => ⟨by rw [va_up_ne _ _ (by omega)]; exact (hgd j hj).1, by rw [va_up_ne _ _ (by omega)]; exact (hgd j hj).2⟩) ⟨va_up_self _ _ _, va_up_self _ _ _⟩, fun j => ⟨up_lt (fun j => (hgb j).1) (by omega) j, up_lt (fun j => (hgb j).2) (by omega) j⟩, by omega⟩) (show tw cd 4 - (i + 1) < tw cd 4 - i by omega) H locs ls (hP) (hD) hS (lv_sub hl [0, 1, 5, 6] rfl)
                                · have c_273 : ¬ tw cd (6 + (4 * i)) + (tw cd (6 + (4 * i) + 2)) ≤ tw cd 0 := fun q => c_273 ((nI_leI (a := tw cd (6 + (4 * i)) + (tw cd (6 + (4 * i) + 2))) (b := tw cd 0) (by omega) (by omega)).mpr q)
                                  refine lv_iload hx hb dX4_head_276 (lv_at hl 2 rfl) ?_
                                  refine lv_iconst (v := (nI 2)) hx hb dX4_head_278 (by decide) ?_
                                  refine lv_iadd hx hb dX4_head_279 ?_
                                  refine tpi (nI_add _ _) ?_
                                  have hS9 : hdS cs cd = some (6 + (4 * i) + 2) := by rw [hv, hdB_s (by omega), if_neg (by omega), if_neg (by omega), if_neg (by omega), if_pos (by omega)]
                                  exact W.iret (v := (nI (6 + (4 * i) + 2))) hx hb hr (fun t ht hW => ⟨⟨(nI (6 + (4 * i) + 2)), (va_up ks 4 (tw cd 0), va_up kt 4 (tw cd 2), va_up ku 4 (tw cd 4), g, h), rfl, ⟨by rw [hS9], fun j hj => ⟨va_up_ne _ _ hj, va_up_ne _ _ hj, va_up_ne _ _ hj⟩, hgk, fun j => ⟨up_lt bks (by omega) j, up_lt bkt (by omega) j, up_lt bku (by omega) j, (hgb j).1, (hgb j).2⟩, fun q => by rw [hS9] at q; cases q⟩, by rw [ht]; exact hP, va_K.moved hW.alike hK, hD⟩, hS.F ht⟩) hS.2.2 dX4_head_280
                            · have c_239 : ¬ 6 + (4 * i) + 4 ≤ cs := fun q => c_239 ((nI_leI (a := 6 + (4 * i) + 4) (b := cs) (by omega) (by omega)).mpr q)
                              refine lv_aload_n hx hb dX4_head_242 rfl (lv_at hl 5 rfl) ?_
                              refine va_get (D := (dC, dI)) (ci := 4) (v := .int (nI cs)) (C := RX4) (T := TX4) (N := 18) hx hb hts in_X4 hown hK hP 0 rfl rfl 16 (by decide) lk_1 (fun _ h9 => h9) rfl dX4_head_243 ?_
                              have hS9 : hdS cs cd = some (cs) := by rw [hv, hdB_s (by omega), if_neg (by omega), if_neg (by omega), if_pos (by omega)]
                              exact W.iret (v := (nI cs)) hx hb hr (fun t ht hW => ⟨⟨(nI cs), (va_up ks 4 (tw cd 0), va_up kt 4 (tw cd 2), va_up ku 4 (tw cd 4), g, h), rfl, ⟨by rw [hS9], fun j hj => ⟨va_up_ne _ _ hj, va_up_ne _ _ hj, va_up_ne _ _ hj⟩, hgk, fun j => ⟨up_lt bks (by omega) j, up_lt bkt (by omega) j, up_lt bku (by omega) j, (hgb j).1, (hgb j).2⟩, fun q => by rw [hS9] at q; cases q⟩, by rw [ht]; exact hP, va_K.moved hW.alike hK, hD⟩, hS.F ht⟩) hS.2.2 dX4_head_246
                          · have c_225 : ¬ en ≤ tw cd (6 + (4 * i)) := fun q => c_225 ((nI_leI (a := en) (b := tw cd (6 + (4 * i))) (by omega) (by omega)).mpr q)
                            refine lv_iload hx hb dX4_head_228 (lv_at hl 1 rfl) ?_
                            have hS9 : hdS cs cd = some (6 + (4 * i)) := by rw [hv, hdB_s (by omega), if_neg (by omega), if_pos (by omega)]
                            exact W.iret (v := (nI (6 + (4 * i)))) hx hb hr (fun t ht hW => ⟨⟨(nI (6 + (4 * i))), (va_up ks 4 (tw cd 0), va_up kt 4 (tw cd 2), va_up ku 4 (tw cd 4), g, h), rfl, ⟨by rw [hS9], fun j hj => ⟨va_up_ne _ _ hj, va_up_ne _ _ hj, va_up_ne _ _ hj⟩, hgk, fun j => ⟨up_lt bks (by omega) j, up_lt bkt (by omega) j, up_lt bku (by omega) j, (hgb j).1, (hgb j).2⟩, fun q => by rw [hS9] at q; cases q⟩, by rw [ht]; exact hP, va_K.moved hW.alike hK, hD⟩, hS.F ht⟩) hS.2.2 dX4_head_230
                        · have c_206 : ¬ 6 + (4 * i) + 2 ≤ cs := fun q => c_206 ((nI_leI (a := 6 + (4 * i) + 2) (b := cs) (by omega) (by omega)).mpr q)
                          refine lv_aload_n hx hb dX4_head_209 rfl (lv_at hl 4 rfl) ?_
                          refine va_get (D := (dC, dI)) (ci := 4) (v := .int (nI cs)) (C := RX4) (T := TX4) (N := 18) hx hb hts in_X4 hown hK hP 0 rfl rfl 16 (by decide) lk_1 (fun _ h9 => h9) rfl dX4_head_210 ?_
                          have hS9 : hdS cs cd = some (cs) := by rw [hv, hdB_s (by omega), if_pos (by omega)]
                          exact W.iret (v := (nI cs)) hx hb hr (fun t ht hW => ⟨⟨(nI cs), (va_up ks 4 (tw cd 0), va_up kt 4 (tw cd 2), va_up ku 4 (tw cd 4), g, h), rfl, ⟨by rw [hS9], fun j hj => ⟨va_up_ne _ _ hj, va_up_ne _ _ hj, va_up_ne _ _ hj⟩, hgk, fun j => ⟨up_lt bks (by omega) j, up_lt bkt (by omega) j, up_lt bku (by omega) j, (hgb j).1, (hgb j).2⟩, fun q => by rw [hS9] at q; cases q⟩, by rw [ht]; exact hP, va_K.moved hW.alike hK, hD⟩, hS.F ht⟩) hS.2.2 dX4_head_213
                    · exact absurd c_166 (by decide)
                  · have c_158 : tw cd 2 = 0 := (nZ_eq (by omega)).mp c_158
                    refine lv_iconst (v := (nI 1)) hx hb dX4_head_161 (by decide) ?_
                    refine lv_goto (tgt := 166) hx hb dX4_head_162 (by decide) ?_
                    refine lv_icmp_eq (tgt := 171) hx hb dX4_head_166 (by decide) (fun c_166 => ?_) (fun c_166 => ?_)
                    · exact absurd c_166 (by decide)
                    · have c_166 : ¬ 0 = 1 := fun q => c_166 ((nI_eq (a := 0) (b := 1) (by omega) (by omega)).mpr q)
                      refine lv_iconst (v := (nI 4)) hx hb dX4_head_169 (by decide) ?_
                      have hS9 : hdS cs cd = some (4) := by unfold hdS; rw [if_neg (by omega), if_neg (fun q => q hc_32), if_neg (by omega), if_neg (fun q => q.1 c_70), if_neg (by omega), if_pos (by omega)]
                      exact W.iret (v := (nI 4)) hx hb hr (fun t ht hW => ⟨⟨(nI 4), (va_up ks 4 (tw cd 0), va_up kt 4 (tw cd 2), va_up ku 4 (tw cd 4), kl, kn), rfl, ⟨by rw [hS9], fun j hj => ⟨va_up_ne _ _ hj, va_up_ne _ _ hj, va_up_ne _ _ hj⟩, fun j hj => ⟨rfl, rfl⟩, fun j => ⟨up_lt bks (by omega) j, up_lt bkt (by omega) j, up_lt bku (by omega) j, bkl j, bkn j⟩, fun q => by rw [hS9] at q; cases q⟩, by rw [ht]; exact hP, va_K.moved hW.alike hK, hD⟩, hS.F ht⟩) hS.2.2 dX4_head_170
                · have c_144 : tw cd 4 = 0 := (nZ_eq (by omega)).mp c_144
                  refine lv_iconst (v := (nI 1)) hx hb dX4_head_147 (by decide) ?_
                  refine lv_goto (tgt := 152) hx hb dX4_head_148 (by decide) ?_
                  refine lv_aload_n hx hb dX4_head_152 rfl (lv_at hl 1 rfl) ?_
                  refine va_get (D := (dC, dI)) (ci := 4) (v := .ref (a 6)) (C := RX4) (T := TX4) (N := 18) hx hb hts in_X4 hown hK hP 0 rfl rfl 9 (by decide) lk_3 (fun _ h9 => h9) rfl dX4_head_153 ?_
                  refine lv_iload_n hx hb dX4_head_156 rfl (lv_at hl 0 rfl) ?_
                  refine va_iald hx hb hK hP 6 0 rfl rfl (vp_in_nI (by omega) (by omega)) dX4_head_157 ?_
                  refine tpi (nf_at (by omega)) ?_
                  refine tpi (congrArg nI (va_up_self _ _ _)) ?_
                  refine lv_if_ne (tgt := 165) hx hb dX4_head_158 (by decide) (fun c_158 => ?_) (fun c_158 => ?_)
                  · have c_158 : ¬ tw cd 2 = 0 := fun q => c_158 ((nZ_eq (by omega)).mpr q)
                    refine lv_iconst (v := (nI 0)) hx hb dX4_head_165 (by decide) ?_
                    refine lv_icmp_eq (tgt := 171) hx hb dX4_head_166 (by decide) (fun c_166 => ?_) (fun c_166 => ?_)
                    · exact absurd c_166 (by decide)
                    · have c_166 : ¬ 1 = 0 := fun q => c_166 ((nI_eq (a := 1) (b := 0) (by omega) (by omega)).mpr q)
                      refine lv_iconst (v := (nI 4)) hx hb dX4_head_169 (by decide) ?_
                      have hS9 : hdS cs cd = some (4) := by unfold hdS; rw [if_neg (by omega), if_neg (fun q => q hc_32), if_neg (by omega), if_neg (fun q => q.1 c_70), if_neg (by omega), if_pos (by omega)]
                      exact W.iret (v := (nI 4)) hx hb hr (fun t ht hW => ⟨⟨(nI 4), (va_up ks 4 (tw cd 0), va_up kt 4 (tw cd 2), va_up ku 4 (tw cd 4), kl, kn), rfl, ⟨by rw [hS9], fun j hj => ⟨va_up_ne _ _ hj, va_up_ne _ _ hj, va_up_ne _ _ hj⟩, fun j hj => ⟨rfl, rfl⟩, fun j => ⟨up_lt bks (by omega) j, up_lt bkt (by omega) j, up_lt bku (by omega) j, bkl j, bkn j⟩, fun q => by rw [hS9] at q; cases q⟩, by rw [ht]; exact hP, va_K.moved hW.alike hK, hD⟩, hS.F ht⟩) hS.2.2 dX4_head_170
                  · have c_158 : tw cd 2 = 0 := (nZ_eq (by omega)).mp c_158
                    refine lv_iconst (v := (nI 1)) hx hb dX4_head_161 (by decide) ?_
                    refine lv_goto (tgt := 166) hx hb dX4_head_162 (by decide) ?_
                    refine lv_icmp_eq (tgt := 171) hx hb dX4_head_166 (by decide) (fun c_166 => ?_) (fun c_166 => ?_)
                    · have c_166 : 1 = 1 := (nI_eq (a := 1) (b := 1) (by omega) (by omega)).mp c_166
                      refine lv_aload_n hx hb dX4_head_171 rfl (lv_at hl 1 rfl) ?_
                      refine va_get (D := (dC, dI)) (ci := 4) (v := .ref (a 6)) (C := RX4) (T := TX4) (N := 18) hx hb hts in_X4 hown hK hP 0 rfl rfl 9 (by decide) lk_3 (fun _ h9 => h9) rfl dX4_head_172 ?_
                      refine lv_iload_n hx hb dX4_head_175 rfl (lv_at hl 0 rfl) ?_
                      refine va_iald hx hb hK hP 6 0 rfl rfl (vp_in_nI (by omega) (by omega)) dX4_head_176 ?_
                      refine tpi (nf_at (by omega)) ?_
                      refine tpi (congrArg nI (va_up_self _ _ _)) ?_
                      refine lv_istore_n (lv' := [(2, .int (nI (tw cd 2))), (1, .int (nI 4)), (0, .ref (a 0))]) hx hb dX4_head_177 rfl hl (by decide) rfl (fun ls hl => ?_)
                      refine lv_iconst (v := (nI 0)) hx hb dX4_head_178 (by decide) ?_
                      refine lv_istore_n (lv' := [(3, .int (nI 0)), (2, .int (nI (tw cd 2))), (1, .int (nI 4)), (0, .ref (a 0))]) hx hb dX4_head_179 rfl hl (by decide) rfl (fun ls hl => ?_)
                      have hS0 : hdS cs cd = hdB cs cd (tw cd 0) (tw cd 4) 0 (tw cd 2) := by unfold hdS; rw [if_neg (by omega), if_neg (fun q => q hc_32), if_neg (by omega), if_neg (fun q => q.1 c_70), if_neg (by omega), if_neg (by omega)]
                      refine lp_world (σ := Nat × Nat × (Nat → Nat) × (Nat → Nat)) (fun ⟨i, en, g, h⟩ => i ≤ tw cd 4 ∧ hdS cs cd = hdB cs cd (tw cd 0) (tw cd 4 - i) i en ∧ (∀ j, j < 256 → g j = kl j ∧ h j = kn j) ∧ (∀ j, j < i → g (256 + j) = tw cd (6 + 4 * j) ∧ h (256 + j) = tw cd (6 + 4 * j + 2)) ∧ (∀ j, g j < 2 ^ 31 ∧ h j < 2 ^ 31) ∧ en ≤ 131072) (fun ⟨i, en, g, h⟩ => tw cd 4 - i) (fun ⟨i, en, g, h⟩ => [(3, .int (nI i)), (2, .int (nI en)), (1, .int (nI 4)), (0, .ref (a 0))]) (fun ⟨i, en, g, h⟩ => mw cI a sz st us kp ga gl cs mem pl ln km (va_up ks 4 (tw cd 0)) (va_up kt 4 (tw cd 2)) (va_up ku 4 (tw cd 4)) g h cd wt) ?_ ((0, tw cd 2, kl, kn)) (⟨by omega, hS0, fun j hj => ⟨rfl, rfl⟩, fun j hj => absurd hj (Nat.not_lt_zero _), fun j => ⟨bkl j, bkn j⟩, by omega⟩) (hP) (hD) hS (lv_sub hl [0, 1, 2, 3] rfl)
                      intro ⟨i, en, g, h⟩ hI ih H locs ls hP hD hS hl
                      have hl : lv_has ls 7 [(3, .int (nI i)), (2, .int (nI en)), (1, .int (nI 4)), (0, .ref (a 0))] := hl
                      have hP : va_P (dC, dI) vwCl (mw cI a sz st us kp ga gl cs mem pl ln km (va_up ks 4 (tw cd 0)) (va_up kt 4 (tw cd 2)) (va_up ku 4 (tw cd 4)) g h cd wt) H := hP
                      have hD : va_D A (mw cI a sz st us kp ga gl cs mem pl ln km (va_up ks 4 (tw cd 0)) (va_up kt 4 (tw cd 2)) (va_up ku 4 (tw cd 4)) g h cd wt) := hD
                      have hI : i ≤ tw cd 4 ∧ hdS cs cd = hdB cs cd (tw cd 0) (tw cd 4 - i) i en ∧ (∀ j, j < 256 → g j = kl j ∧ h j = kn j) ∧ (∀ j, j < i → g (256 + j) = tw cd (6 + 4 * j) ∧ h (256 + j) = tw cd (6 + 4 * j + 2)) ∧ (∀ j, g j < 2 ^ 31 ∧ h j < 2 ^ 31) ∧ en ≤ 131072 := hI
                      obtain ⟨hi, hv, hgk, hgd, hgb, hen⟩ := hI
                      have ih_180 := ih
                      refine lv_iload_n hx hb dX4_head_180 rfl (lv_at hl 0 rfl) ?_
                      refine lv_aload_n hx hb dX4_head_181 rfl (lv_at hl 3 rfl) ?_
                      refine va_get (D := (dC, dI)) (ci := 4) (v := .ref (a 7)) (C := RX4) (T := TX4) (N := 18) hx hb hts in_X4 hown hK hP 0 rfl rfl 10 (by decide) lk_4 (fun _ h9 => h9) rfl dX4_head_182 ?_
                      refine lv_iload_n hx hb dX4_head_185 rfl (lv_at hl 2 rfl) ?_
                      refine va_iald hx hb hK hP 7 0 rfl rfl (vp_in_nI (by omega) (by omega)) dX4_head_186 ?_
                      refine tpi (nf_at (by omega)) ?_
                      refine tpi (congrArg nI (va_up_self _ _ _)) ?_
                      refine lv_icmp_ge (tgt := 319) hx hb dX4_head_187 (by decide) (fun c_187 => ?_) (fun c_187 => ?_)
                      · have c_187 : tw cd 4 ≤ i := (nI_leI (a := tw cd 4) (b := i) (by omega) (by omega)).mp c_187
                        refine lv_iconst (v := ((-1))) hx hb dX4_head_319 (by decide) ?_
                        have hS9 : hdS cs cd = none := by rw [hv, show tw cd 4 - i = 0 by omega]; rfl
                        exact W.iret (v := ((-1))) hx hb hr (fun t ht hW => ⟨⟨((-1)), (va_up ks 4 (tw cd 0), va_up kt 4 (tw cd 2), va_up ku 4 (tw cd 4), g, h), rfl, ⟨by rw [hS9], fun j hj => ⟨va_up_ne _ _ hj, va_up_ne _ _ hj, va_up_ne _ _ hj⟩, hgk, fun j => ⟨up_lt bks (by omega) j, up_lt bkt (by omega) j, up_lt bku (by omega) j, (hgb j).1, (hgb j).2⟩, fun _ => ⟨va_up_self _ _ _, va_up_self _ _ _, va_up_self _ _ _, fun j hj => hgd j (by omega)⟩⟩, by rw [ht]; exact hP, va_K.moved hW.alike hK, hD⟩, hS.F ht⟩) hS.2.2 dX4_head_320
                      · have c_187 : ¬ tw cd 4 ≤ i := fun q => c_187 ((nI_leI (a := tw cd 4) (b := i) (by omega) (by omega)).mpr q)
                        refine lv_bipush (v := (nI 6)) hx hb dX4_head_190 (by decide) ?_
                        refine lv_iconst (v := (nI 4)) hx hb dX4_head_192 (by decide) ?_
                        refine lv_iload_n hx hb dX4_head_193 rfl (lv_at hl 0 rfl) ?_
                        refine lv_imul hx hb dX4_head_194 ?_
                        refine tpi (pk_mul _ _) ?_
                        refine lv_iadd hx hb dX4_head_195 ?_
                        refine tpi (nI_add _ _) ?_
                        refine lv_istore (lv' := [(4, .int (nI (6 + (4 * i)))), (3, .int (nI i)), (2, .int (nI en)), (1, .int (nI 4)), (0, .ref (a 0))]) hx hb dX4_head_196 hl (by decide) rfl (fun ls hl => ?_)
                        refine lv_aload_n hx hb dX4_head_198 rfl (lv_at hl 4 rfl) ?_
                        refine va_get (D := (dC, dI)) (ci := 4) (v := .int (nI cs)) (C := RX4) (T := TX4) (N := 18) hx hb hts in_X4 hown hK hP 0 rfl rfl 16 (by decide) lk_1 (fun _ h9 => h9) rfl dX4_head_199 ?_
                        refine lv_iload hx hb dX4_head_202 (lv_at hl 0 rfl) ?_
                        refine lv_iconst (v := (nI 2)) hx hb dX4_head_204 (by decide) ?_
                        refine lv_iadd hx hb dX4_head_205 ?_
                        refine tpi (nI_add _ _) ?_
                        refine lv_icmp_ge (tgt := 214) hx hb dX4_head_206 (by decide) (fun c_206 => ?_) (fun c_206 => ?_)
                        · have c_206 : 6 + (4 * i) + 2 ≤ cs := (nI_leI (a := 6 + (4 * i) + 2) (b := cs) (by omega) (by omega)).mp c_206
                          refine lv_aload_n hx hb dX4_head_214 rfl (lv_at hl 4 rfl) ?_
                          refine lv_iload hx hb dX4_head_215 (lv_at hl 0 rfl) ?_
                          refine vp_callSi (W.runV (As := [.int (nI (6 + (4 * i)))]) (rest := []) ⟨hx, hb, hml, hown, hts⟩ (c_X4_two l dC dI cI a sz st us kp ga gl cs mem pl ln km (va_up ks 4 (tw cd 0)) (va_up kt 4 (tw cd 2)) (va_up ku 4 (tw cd 4)) g h cd wt (6 + (4 * i)) (by omega) bcd) (cwV 1 hts gX4_head_X4_two rfl rfl rfl (by decide +kernel) ⟨Nat.le_of_ble_eq_true rfl, Nat.le_of_ble_eq_true rfl⟩) ⟨fun a9 U g9 mk9 q9 => by obtain ⟨q0, qP, qK⟩ := q9; exact ⟨q0, qP, va_K.moved (u := U) (U := U.calling g9 mk9 a9) (Vm.Alike.refl U.vm) qK⟩, va_recv hK hP (ci := 4) (q0 := 0) rfl rfl, fun U hU hW => ⟨rfl, by rw [hU]; exact hP, va_K.moved hW.alike hK⟩⟩ rfl rfl hl.1 rfl (lv_room (Nat.le_of_ble_eq_true rfl)) dX4_head_217 ⟨Nat.zero_le _, Nat.zero_le _⟩) (fun r_217 hw => ?_)
                          try dsimp only at hw
                          subst hw
                          have wt_217 := tw_lt bcd (6 + (4 * i))
                          refine lv_istore (lv' := [(5, .int (nI (tw cd (6 + (4 * i))))), (4, .int (nI (6 + (4 * i)))), (3, .int (nI i)), (2, .int (nI en)), (1, .int (nI 4)), (0, .ref (a 0))]) hx hb dX4_head_220 hl (by decide) rfl (fun ls hl => ?_)
                          refine lv_iload hx hb dX4_head_222 (lv_at hl 0 rfl) ?_
                          refine lv_iload_n hx hb dX4_head_224 rfl (lv_at hl 3 rfl) ?_
                          refine lv_icmp_ge (tgt := 231) hx hb dX4_head_225 (by decide) (fun c_225 => ?_) (fun c_225 => ?_)
                          · have c_225 : en ≤ tw cd (6 + (4 * i)) := (nI_leI (a := en) (b := tw cd (6 + (4 * i))) (by omega) (by omega)).mp c_225
                            refine lv_aload_n hx hb dX4_head_231 rfl (lv_at hl 5 rfl) ?_
                            refine va_get (D := (dC, dI)) (ci := 4) (v := .int (nI cs)) (C := RX4) (T := TX4) (N := 18) hx hb hts in_X4 hown hK hP 0 rfl rfl 16 (by decide) lk_1 (fun _ h9 => h9) rfl dX4_head_232 ?_
                            refine lv_iload hx hb dX4_head_235 (lv_at hl 1 rfl) ?_
                            refine lv_iconst (v := (nI 4)) hx hb dX4_head_237 (by decide) ?_
                            refine lv_iadd hx hb dX4_head_238 ?_
                            refine tpi (nI_add _ _) ?_
                            refine lv_icmp_ge (tgt := 247) hx hb dX4_head_239 (by decide) (fun c_239 => ?_) (fun c_239 => ?_)
                            · have c_239 : 6 + (4 * i) + 4 ≤ cs := (nI_leI (a := 6 + (4 * i) + 4) (b := cs) (by omega) (by omega)).mp c_239
                              refine lv_aload_n hx hb dX4_head_247 rfl (lv_at hl 5 rfl) ?_
                              refine lv_iload hx hb dX4_head_248 (lv_at hl 1 rfl) ?_
                              refine lv_iconst (v := (nI 2)) hx hb dX4_head_250 (by decide) ?_
                              refine lv_iadd hx hb dX4_head_251 ?_
                              refine tpi (nI_add _ _) ?_
                              refine vp_callSi (W.runV (As := [.int (nI (6 + (4 * i) + 2))]) (rest := []) ⟨hx, hb, hml, hown, hts⟩ (c_X4_two l dC dI cI a sz st us kp ga gl cs mem pl ln km (va_up ks 4 (tw cd 0)) (va_up kt 4 (tw cd 2)) (va_up ku 4 (tw cd 4)) g h cd wt (6 + (4 * i) + 2) (by omega) bcd) (cwV 1 hts gX4_head_X4_two rfl rfl rfl (by decide +kernel) ⟨Nat.le_of_ble_eq_true rfl, Nat.le_of_ble_eq_true rfl⟩) ⟨fun a9 U g9 mk9 q9 => by obtain ⟨q0, qP, qK⟩ := q9; exact ⟨q0, qP, va_K.moved (u := U) (U := U.calling g9 mk9 a9) (Vm.Alike.refl U.vm) qK⟩, va_recv hK hP (ci := 4) (q0 := 0) rfl rfl, fun U hU hW => ⟨rfl, by rw [hU]; exact hP, va_K.moved hW.alike hK⟩⟩ rfl rfl hl.1 rfl (lv_room (Nat.le_of_ble_eq_true rfl)) dX4_head_252 ⟨Nat.zero_le _, Nat.zero_le _⟩) (fun r_252 hw => ?_)
                              try dsimp only at hw
                              subst hw
                              have wt_252 := tw_lt bcd (6 + (4 * i) + 2)
                              refine lv_istore (lv' := [(6, .int (nI (tw cd (6 + (4 * i) + 2)))), (5, .int (nI (tw cd (6 + (4 * i))))), (4, .int (nI (6 + (4 * i)))), (3, .int (nI i)), (2, .int (nI en)), (1, .int (nI 4)), (0, .ref (a 0))]) hx hb dX4_head_255 hl (by decide) rfl (fun ls hl => ?_)
                              refine lv_iload hx hb dX4_head_257 (lv_at hl 0 rfl) ?_
                              refine lv_if_eq (tgt := 276) hx hb dX4_head_259 (by decide) (fun c_259 => ?_) (fun c_259 => ?_)
                              · have c_259 : tw cd (6 + (4 * i) + 2) = 0 := (nZ_eq (by omega)).mp c_259
                                refine lv_iload hx hb dX4_head_276 (lv_at hl 2 rfl) ?_
                                refine lv_iconst (v := (nI 2)) hx hb dX4_head_278 (by decide) ?_
                                refine lv_iadd hx hb dX4_head_279 ?_
                                refine tpi (nI_add _ _) ?_
                                have hS9 : hdS cs cd = some (6 + (4 * i) + 2) := by rw [hv, hdB_s (by omega), if_neg (by omega), if_neg (by omega), if_neg (by omega), if_pos (by omega)]
                                exact W.iret (v := (nI (6 + (4 * i) + 2))) hx hb hr (fun t ht hW => ⟨⟨(nI (6 + (4 * i) + 2)), (va_up ks 4 (tw cd 0), va_up kt 4 (tw cd 2), va_up ku 4 (tw cd 4), g, h), rfl, ⟨by rw [hS9], fun j hj => ⟨va_up_ne _ _ hj, va_up_ne _ _ hj, va_up_ne _ _ hj⟩, hgk, fun j => ⟨up_lt bks (by omega) j, up_lt bkt (by omega) j, up_lt bku (by omega) j, (hgb j).1, (hgb j).2⟩, fun q => by rw [hS9] at q; cases q⟩, by rw [ht]; exact hP, va_K.moved hW.alike hK, hD⟩, hS.F ht⟩) hS.2.2 dX4_head_280
                              · have c_259 : ¬ tw cd (6 + (4 * i) + 2) = 0 := fun q => c_259 ((nZ_eq (by omega)).mpr q)
                                refine lv_iload hx hb dX4_head_262 (lv_at hl 1 rfl) ?_
                                refine lv_iload hx hb dX4_head_264 (lv_at hl 0 rfl) ?_
                                refine lv_iadd hx hb dX4_head_266 ?_
                                refine tpi (nI_add _ _) ?_
                                refine lv_aload_n hx hb dX4_head_267 rfl (lv_at hl 6 rfl) ?_
                                refine va_get (D := (dC, dI)) (ci := 4) (v := .ref (a 5)) (C := RX4) (T := TX4) (N := 18) hx hb hts in_X4 hown hK hP 0 rfl rfl 8 (by decide) lk_2 (fun _ h9 => h9) rfl dX4_head_268 ?_
                                refine lv_iload_n hx hb dX4_head_271 rfl (lv_at hl 5 rfl) ?_
                                refine va_iald hx hb hK hP 5 0 rfl rfl (vp_in_nI (by omega) (by omega)) dX4_head_272 ?_
                                refine tpi (nf_at (by omega)) ?_
                                refine tpi (congrArg nI (va_up_self _ _ _)) ?_
                                refine lv_icmp_le (tgt := 281) hx hb dX4_head_273 (by decide) (fun c_273 => ?_) (fun c_273 => ?_)
                                · have c_273 : tw cd (6 + (4 * i)) + (tw cd (6 + (4 * i) + 2)) ≤ tw cd 0 := (nI_leI (a := tw cd (6 + (4 * i)) + (tw cd (6 + (4 * i) + 2))) (b := tw cd 0) (by omega) (by omega)).mp c_273
                                  refine lv_aload_n hx hb dX4_head_281 rfl (lv_at hl 6 rfl) ?_
                                  refine va_get (D := (dC, dI)) (ci := 4) (v := .ref (a 8)) (C := RX4) (T := TX4) (N := 18) hx hb hts in_X4 hown hK hP 0 rfl rfl 11 (by decide) lk_5 (fun _ h9 => h9) rfl dX4_head_282 ?_
                                  refine lv_bipush (v := (nI 64)) hx hb dX4_head_285 (by decide) ?_
                                  refine lv_iload_n hx hb dX4_head_287 rfl (lv_at hl 5 rfl) ?_
                                  refine lv_imul hx hb dX4_head_288 ?_
                                  refine tpi (pk_mul _ _) ?_
                                  refine lv_iload_n hx hb dX4_head_289 rfl (lv_at hl 3 rfl) ?_
                                  refine lv_iadd hx hb dX4_head_290 ?_
                                  refine tpi (nI_add _ _) ?_
                                  refine lv_iload hx hb dX4_head_291 (lv_at hl 1 rfl) ?_
                                  refine va_iast hx hb hK hP hD hS 8 0 rfl rfl (vp_in_nI (by omega) (by omega)) dX4_head_293 (fun H locs hP hD hS => ?_)
                                  rw [nf_up (by omega)] at hP hD
                                  have hP : va_P (dC, dI) vwCl (mw cI a sz st us kp ga gl cs mem pl ln km (va_up ks 4 (tw cd 0)) (va_up kt 4 (tw cd 2)) (va_up ku 4 (tw cd 4)) (va_up g (256 + i) (tw cd (6 + (4 * i)))) h cd wt) H := hP
                                  have hD : va_D A (mw cI a sz st us kp ga gl cs mem pl ln km (va_up ks 4 (tw cd 0)) (va_up kt 4 (tw cd 2)) (va_up ku 4 (tw cd 4)) (va_up g (256 + i) (tw cd (6 + (4 * i)))) h cd wt) := hD
                                  refine lv_aload_n hx hb dX4_head_294 rfl (lv_at hl 6 rfl) ?_
                                  refine va_get (D := (dC, dI)) (ci := 4) (v := .ref (a 9)) (C := RX4) (T := TX4) (N := 18) hx hb hts in_X4 hown hK hP 0 rfl rfl 12 (by decide) lk_6 (fun _ h9 => h9) rfl dX4_head_295 ?_
                                  refine lv_bipush (v := (nI 64)) hx hb dX4_head_298 (by decide) ?_
                                  refine lv_iload_n hx hb dX4_head_300 rfl (lv_at hl 5 rfl) ?_
                                  refine lv_imul hx hb dX4_head_301 ?_
                                  refine tpi (pk_mul _ _) ?_
                                  refine lv_iload_n hx hb dX4_head_302 rfl (lv_at hl 3 rfl) ?_
                                  refine lv_iadd hx hb dX4_head_303 ?_
                                  refine tpi (nI_add _ _) ?_
                                  refine lv_iload hx hb dX4_head_304 (lv_at hl 0 rfl) ?_
                                  refine va_iast hx hb hK hP hD hS 9 0 rfl rfl (vp_in_nI (by omega) (by omega)) dX4_head_306 (fun H locs hP hD hS => ?_)
                                  rw [nf_up (by omega)] at hP hD
                                  have hP : va_P (dC, dI) vwCl (mw cI a sz st us kp ga gl cs mem pl ln km (va_up ks 4 (tw cd 0)) (va_up kt 4 (tw cd 2)) (va_up ku 4 (tw cd 4)) (va_up g (256 + i) (tw cd (6 + (4 * i)))) (va_up h (256 + i) (tw cd (6 + (4 * i) + 2))) cd wt) H := hP
                                  have hD : va_D A (mw cI a sz st us kp ga gl cs mem pl ln km (va_up ks 4 (tw cd 0)) (va_up kt 4 (tw cd 2)) (va_up ku 4 (tw cd 4)) (va_up g (256 + i) (tw cd (6 + (4 * i)))) (va_up h (256 + i) (tw cd (6 + (4 * i) + 2))) cd wt) := hD
                                  refine lv_iload hx hb dX4_head_307 (lv_at hl 1 rfl) ?_
                                  refine lv_iload hx hb dX4_head_309 (lv_at hl 0 rfl) ?_
                                  refine lv_iadd hx hb dX4_head_311 ?_
                                  refine tpi (nI_add _ _) ?_
                                  refine lv_istore_n (lv' := [(2, .int (nI (tw cd (6 + (4 * i)) + (tw cd (6 + (4 * i) + 2))))), (6, .int (nI (tw cd (6 + (4 * i) + 2)))), (5, .int (nI (tw cd (6 + (4 * i))))), (4, .int (nI (6 + (4 * i)))), (3, .int (nI i)), (1, .int (nI 4)), (0, .ref (a 0))]) hx hb dX4_head_312 rfl hl (by decide) rfl (fun ls hl => ?_)
                                  refine lv_iinc (v := (nI (i + 1))) (lv' := [(3, .int (nI (i + 1))), (2, .int (nI (tw cd (6 + (4 * i)) + (tw cd (6 + (4 * i) + 2))))), (6, .int (nI (tw cd (6 + (4 * i) + 2)))), (5, .int (nI (tw cd (6 + (4 * i))))), (4, .int (nI (6 + (4 * i)))), (1, .int (nI 4)), (0, .ref (a 0))]) hx hb dX4_head_313 hl (k := 4) rfl (nI_inc _) (by decide) rfl (fun ls hl => ?_)
                                  refine lv_goto (tgt := 180) hx hb dX4_head_316 (by decide) ?_
                                  exact ih_180 (i + 1, tw cd (6 + (4 * i)) + (tw cd (6 + (4 * i) + 2)), va_up g (256 + i) (tw cd (6 + (4 * i))), va_up h (256 + i) (tw cd (6 + (4 * i) + 2))) (⟨by omega, by rw [hv, hdB_s (by omega), if_neg (by omega), if_neg (by omega), if_neg (by omega), if_neg (by omega)], fun j hj => ⟨by rw [va_up_ne _ _ (by omega)]; exact (hgk j hj).1, by rw [va_up_ne _ _ (by omega)]; exact (hgk j hj).2⟩, lt_s (fun j hj => ⟨by rw [va_up_ne _ _ (by omega)]; exact (hgd j hj).1, by rw [va_up_ne _ _ (by omega)]; exact (hgd j hj).2⟩) ⟨va_up_self _ _ _, va_up_self _ _ _⟩, fun j => ⟨up_lt (fun j => (hgb j).1) (by omega) j, up_lt (fun j => (hgb j).2) (by omega) j⟩, by omega⟩) (show tw cd 4 - (i + 1) < tw cd 4 - i by omega) H locs ls (hP) (hD) hS (lv_sub hl [0, 1, 5, 6] rfl)
                                · have c_273 : ¬ tw cd (6 + (4 * i)) + (tw cd (6 + (4 * i) + 2)) ≤ tw cd 0 := fun q => c_273 ((nI_leI (a := tw cd (6 + (4 * i)) + (tw cd (6 + (4 * i) + 2))) (b := tw cd 0) (by omega) (by omega)).mpr q)
                                  refine lv_iload hx hb dX4_head_276 (lv_at hl 2 rfl) ?_
                                  refine lv_iconst (v := (nI 2)) hx hb dX4_head_278 (by decide) ?_
                                  refine lv_iadd hx hb dX4_head_279 ?_
                                  refine tpi (nI_add _ _) ?_
                                  have hS9 : hdS cs cd = some (6 + (4 * i) + 2) := by rw [hv, hdB_s (by omega), if_neg (by omega), if_neg (by omega), if_neg (by omega), if_pos (by omega)]
                                  exact W.iret (v := (nI (6 + (4 * i) + 2))) hx hb hr (fun t ht hW => ⟨⟨(nI (6 + (4 * i) + 2)), (va_up ks 4 (tw cd 0), va_up kt 4 (tw cd 2), va_up ku 4 (tw cd 4), g, h), rfl, ⟨by rw [hS9], fun j hj => ⟨va_up_ne _ _ hj, va_up_ne _ _ hj, va_up_ne _ _ hj⟩, hgk, fun j => ⟨up_lt bks (by omega) j, up_lt bkt (by omega) j, up_lt bku (by omega) j, (hgb j).1, (hgb j).2⟩, fun q => by rw [hS9] at q; cases q⟩, by rw [ht]; exact hP, va_K.moved hW.alike hK, hD⟩, hS.F ht⟩) hS.2.2 dX4_head_280
                            · have c_239 : ¬ 6 + (4 * i) + 4 ≤ cs := fun q => c_239 ((nI_leI (a := 6 + (4 * i) + 4) (b := cs) (by omega) (by omega)).mpr q)
                              refine lv_aload_n hx hb dX4_head_242 rfl (lv_at hl 5 rfl) ?_
                              refine va_get (D := (dC, dI)) (ci := 4) (v := .int (nI cs)) (C := RX4) (T := TX4) (N := 18) hx hb hts in_X4 hown hK hP 0 rfl rfl 16 (by decide) lk_1 (fun _ h9 => h9) rfl dX4_head_243 ?_
                              have hS9 : hdS cs cd = some (cs) := by rw [hv, hdB_s (by omega), if_neg (by omega), if_neg (by omega), if_pos (by omega)]
                              exact W.iret (v := (nI cs)) hx hb hr (fun t ht hW => ⟨⟨(nI cs), (va_up ks 4 (tw cd 0), va_up kt 4 (tw cd 2), va_up ku 4 (tw cd 4), g, h), rfl, ⟨by rw [hS9], fun j hj => ⟨va_up_ne _ _ hj, va_up_ne _ _ hj, va_up_ne _ _ hj⟩, hgk, fun j => ⟨up_lt bks (by omega) j, up_lt bkt (by omega) j, up_lt bku (by omega) j, (hgb j).1, (hgb j).2⟩, fun q => by rw [hS9] at q; cases q⟩, by rw [ht]; exact hP, va_K.moved hW.alike hK, hD⟩, hS.F ht⟩) hS.2.2 dX4_head_246
                          · have c_225 : ¬ en ≤ tw cd (6 + (4 * i)) := fun q => c_225 ((nI_leI (a := en) (b := tw cd (6 + (4 * i))) (by omega) (by omega)).mpr q)
                            refine lv_iload hx hb dX4_head_228 (lv_at hl 1 rfl) ?_
                            have hS9 : hdS cs cd = some (6 + (4 * i)) := by rw [hv, hdB_s (by omega), if_neg (by omega), if_pos (by omega)]
                            exact W.iret (v := (nI (6 + (4 * i)))) hx hb hr (fun t ht hW => ⟨⟨(nI (6 + (4 * i))), (va_up ks 4 (tw cd 0), va_up kt 4 (tw cd 2), va_up ku 4 (tw cd 4), g, h), rfl, ⟨by rw [hS9], fun j hj => ⟨va_up_ne _ _ hj, va_up_ne _ _ hj, va_up_ne _ _ hj⟩, hgk, fun j => ⟨up_lt bks (by omega) j, up_lt bkt (by omega) j, up_lt bku (by omega) j, (hgb j).1, (hgb j).2⟩, fun q => by rw [hS9] at q; cases q⟩, by rw [ht]; exact hP, va_K.moved hW.alike hK, hD⟩, hS.F ht⟩) hS.2.2 dX4_head_230
                        · have c_206 : ¬ 6 + (4 * i) + 2 ≤ cs := fun q => c_206 ((nI_leI (a := 6 + (4 * i) + 2) (b := cs) (by omega) (by omega)).mpr q)
                          refine lv_aload_n hx hb dX4_head_209 rfl (lv_at hl 4 rfl) ?_
                          refine va_get (D := (dC, dI)) (ci := 4) (v := .int (nI cs)) (C := RX4) (T := TX4) (N := 18) hx hb hts in_X4 hown hK hP 0 rfl rfl 16 (by decide) lk_1 (fun _ h9 => h9) rfl dX4_head_210 ?_
                          have hS9 : hdS cs cd = some (cs) := by rw [hv, hdB_s (by omega), if_pos (by omega)]
                          exact W.iret (v := (nI cs)) hx hb hr (fun t ht hW => ⟨⟨(nI cs), (va_up ks 4 (tw cd 0), va_up kt 4 (tw cd 2), va_up ku 4 (tw cd 4), g, h), rfl, ⟨by rw [hS9], fun j hj => ⟨va_up_ne _ _ hj, va_up_ne _ _ hj, va_up_ne _ _ hj⟩, hgk, fun j => ⟨up_lt bks (by omega) j, up_lt bkt (by omega) j, up_lt bku (by omega) j, (hgb j).1, (hgb j).2⟩, fun q => by rw [hS9] at q; cases q⟩, by rw [ht]; exact hP, va_K.moved hW.alike hK, hD⟩, hS.F ht⟩) hS.2.2 dX4_head_213
                    · exact absurd c_166 (by decide)
            · have c_108 : ¬ 6 ≤ cs := fun q => c_108 ((nI_leI (a := 6) (b := cs) (by omega) (by omega)).mpr q)
              refine lv_aload_n hx hb dX4_head_111 rfl (lv_at hl 1 rfl) ?_
              refine va_get (D := (dC, dI)) (ci := 4) (v := .int (nI cs)) (C := RX4) (T := TX4) (N := 18) hx hb hts in_X4 hown hK hP 0 rfl rfl 16 (by decide) lk_1 (fun _ h9 => h9) rfl dX4_head_112 ?_
              have hS9 : hdS cs cd = some (cs) := by unfold hdS; rw [if_neg (by omega), if_neg (fun q => q hc_32), if_neg (by omega), if_neg (fun q => q.1 c_70), if_pos (by omega)]
              exact W.iret (v := (nI cs)) hx hb hr (fun t ht hW => ⟨⟨(nI cs), (va_up ks 4 (tw cd 0), va_up kt 4 (tw cd 2), ku, kl, kn), rfl, ⟨by rw [hS9], fun j hj => ⟨va_up_ne _ _ hj, va_up_ne _ _ hj, rfl⟩, fun j hj => ⟨rfl, rfl⟩, fun j => ⟨up_lt bks (by omega) j, up_lt bkt (by omega) j, bku j, bkl j, bkn j⟩, fun q => by rw [hS9] at q; cases q⟩, by rw [ht]; exact hP, va_K.moved hW.alike hK, hD⟩, hS.F ht⟩) hS.2.2 dX4_head_115
          · have c_70 : ¬ tw cd 2 = 0 := fun q => c_70 ((nZ_eq (by omega)).mpr q)
            refine lv_aload_n hx hb dX4_head_73 rfl (lv_at hl 1 rfl) ?_
            refine va_get (D := (dC, dI)) (ci := 4) (v := .ref (a 6)) (C := RX4) (T := TX4) (N := 18) hx hb hts in_X4 hown hK hP 0 rfl rfl 9 (by decide) lk_3 (fun _ h9 => h9) rfl dX4_head_74 ?_
            refine lv_iload_n hx hb dX4_head_77 rfl (lv_at hl 0 rfl) ?_
            refine va_iald hx hb hK hP 6 0 rfl rfl (vp_in_nI (by omega) (by omega)) dX4_head_78 ?_
            refine tpi (nf_at (by omega)) ?_
            refine tpi (congrArg nI (va_up_self _ _ _)) ?_
            refine vp_callSi (W.runS (As := [.int (nI (tw cd 2))]) (rest := []) ⟨hx, hb, hml, hown, hts⟩ (c_X4_isSize l (tw cd 2) (by omega)) (va_cwS 1 hts gX4_head_X4_isSize rfl rfl rfl (by decide +kernel) ⟨Nat.le_of_ble_eq_true rfl, Nat.le_of_ble_eq_true rfl⟩) ⟨fun a9 U g9 mk9 q9 => ⟨q9.1, trivial⟩, fun U hU hW => ⟨rfl, trivial⟩⟩ rfl rfl hl.1 rfl (lv_room (Nat.le_of_ble_eq_true rfl)) dX4_head_79 ⟨Nat.zero_le _, Nat.zero_le _⟩) (fun r_79 hw => ?_)
            try dsimp only at hw
            rcases hw with ⟨hc_79, rfl⟩ | ⟨hc_79, rfl⟩
            · skip
              refine lv_if_eq (tgt := 100) hx hb dX4_head_82 (by decide) (fun c_82 => ?_) (fun c_82 => ?_)
              · exact absurd c_82 (by decide)
              · have c_82 : ¬ 1 = 0 := fun q => c_82 ((nZ_eq (by omega)).mpr q)
                refine lv_aload_n hx hb dX4_head_85 rfl (lv_at hl 1 rfl) ?_
                refine va_get (D := (dC, dI)) (ci := 4) (v := .ref (a 6)) (C := RX4) (T := TX4) (N := 18) hx hb hts in_X4 hown hK hP 0 rfl rfl 9 (by decide) lk_3 (fun _ h9 => h9) rfl dX4_head_86 ?_
                refine lv_iload_n hx hb dX4_head_89 rfl (lv_at hl 0 rfl) ?_
                refine va_iald hx hb hK hP 6 0 rfl rfl (vp_in_nI (by omega) (by omega)) dX4_head_90 ?_
                refine tpi (nf_at (by omega)) ?_
                refine tpi (congrArg nI (va_up_self _ _ _)) ?_
                refine lv_aload_n hx hb dX4_head_91 rfl (lv_at hl 1 rfl) ?_
                refine va_get (D := (dC, dI)) (ci := 4) (v := .ref (a 5)) (C := RX4) (T := TX4) (N := 18) hx hb hts in_X4 hown hK hP 0 rfl rfl 8 (by decide) lk_2 (fun _ h9 => h9) rfl dX4_head_92 ?_
                refine lv_iload_n hx hb dX4_head_95 rfl (lv_at hl 0 rfl) ?_
                refine va_iald hx hb hK hP 5 0 rfl rfl (vp_in_nI (by omega) (by omega)) dX4_head_96 ?_
                refine tpi (nf_at (by omega)) ?_
                refine tpi (congrArg nI (va_up_self _ _ _)) ?_
                refine lv_icmp_lt (tgt := 102) hx hb dX4_head_97 (by decide) (fun c_97 => ?_) (fun c_97 => ?_)
                · have c_97 : tw cd 2 < tw cd 0 := (nI_ltI (a := tw cd 2) (b := tw cd 0) (by omega) (by omega)).mp c_97
                  refine lv_aload_n hx hb dX4_head_102 rfl (lv_at hl 1 rfl) ?_
                  refine va_get (D := (dC, dI)) (ci := 4) (v := .int (nI cs)) (C := RX4) (T := TX4) (N := 18) hx hb hts in_X4 hown hK hP 0 rfl rfl 16 (by decide) lk_1 (fun _ h9 => h9) rfl dX4_head_103 ?_
                  refine lv_bipush (v := (nI 6)) hx hb dX4_head_106 (by decide) ?_
                  refine lv_icmp_ge (tgt := 116) hx hb dX4_head_108 (by decide) (fun c_108 => ?_) (fun c_108 => ?_)
                  · have c_108 : 6 ≤ cs := (nI_leI (a := 6) (b := cs) (by omega) (by omega)).mp c_108
                    refine lv_aload_n hx hb dX4_head_116 rfl (lv_at hl 1 rfl) ?_
                    refine va_get (D := (dC, dI)) (ci := 4) (v := .ref (a 7)) (C := RX4) (T := TX4) (N := 18) hx hb hts in_X4 hown hK hP 0 rfl rfl 10 (by decide) lk_4 (fun _ h9 => h9) rfl dX4_head_117 ?_
                    refine lv_iload_n hx hb dX4_head_120 rfl (lv_at hl 0 rfl) ?_
                    refine lv_aload_n hx hb dX4_head_121 rfl (lv_at hl 1 rfl) ?_
                    refine lv_iconst (v := (nI 4)) hx hb dX4_head_122 (by decide) ?_
                    refine vp_callSi (W.runV (As := [.int (nI 4)]) (rest := [.int (nI 4), .ref (a 7)]) ⟨hx, hb, hml, hown, hts⟩ (c_X4_two l dC dI cI a sz st us kp ga gl cs mem pl ln km (va_up ks 4 (tw cd 0)) (va_up kt 4 (tw cd 2)) ku kl kn cd wt 4 (by omega) bcd) (cwV 1 hts gX4_head_X4_two rfl rfl rfl (by decide +kernel) ⟨Nat.le_of_ble_eq_true rfl, Nat.le_of_ble_eq_true rfl⟩) ⟨fun a9 U g9 mk9 q9 => by obtain ⟨q0, qP, qK⟩ := q9; exact ⟨q0, qP, va_K.moved (u := U) (U := U.calling g9 mk9 a9) (Vm.Alike.refl U.vm) qK⟩, va_recv hK hP (ci := 4) (q0 := 0) rfl rfl, fun U hU hW => ⟨rfl, by rw [hU]; exact hP, va_K.moved hW.alike hK⟩⟩ rfl rfl hl.1 rfl (lv_room (Nat.le_of_ble_eq_true rfl)) dX4_head_123 ⟨Nat.zero_le _, Nat.zero_le _⟩) (fun r_123 hw => ?_)
                    try dsimp only at hw
                    subst hw
                    have wt_123 := tw_lt bcd 4
                    refine va_iast hx hb hK hP hD hS 7 0 rfl rfl (vp_in_nI (by omega) (by omega)) dX4_head_126 (fun H locs hP hD hS => ?_)
                    rw [nf_up (by omega)] at hP hD
                    have hP : va_P (dC, dI) vwCl (mw cI a sz st us kp ga gl cs mem pl ln km (va_up ks 4 (tw cd 0)) (va_up kt 4 (tw cd 2)) (va_up ku 4 (tw cd 4)) kl kn cd wt) H := hP
                    have hD : va_D A (mw cI a sz st us kp ga gl cs mem pl ln km (va_up ks 4 (tw cd 0)) (va_up kt 4 (tw cd 2)) (va_up ku 4 (tw cd 4)) kl kn cd wt) := hD
                    refine lv_aload_n hx hb dX4_head_127 rfl (lv_at hl 1 rfl) ?_
                    refine va_get (D := (dC, dI)) (ci := 4) (v := .ref (a 7)) (C := RX4) (T := TX4) (N := 18) hx hb hts in_X4 hown hK hP 0 rfl rfl 10 (by decide) lk_4 (fun _ h9 => h9) rfl dX4_head_128 ?_
                    refine lv_iload_n hx hb dX4_head_131 rfl (lv_at hl 0 rfl) ?_
                    refine va_iald hx hb hK hP 7 0 rfl rfl (vp_in_nI (by omega) (by omega)) dX4_head_132 ?_
                    refine tpi (nf_at (by omega)) ?_
                    refine tpi (congrArg nI (va_up_self _ _ _)) ?_
                    refine lv_bipush (v := (nI 64)) hx hb dX4_head_133 (by decide) ?_
                    refine lv_icmp_gt (tgt := 169) hx hb dX4_head_135 (by decide) (fun c_135 => ?_) (fun c_135 => ?_)
                    · have c_135 : 64 < tw cd 4 := (nI_ltI (a := 64) (b := tw cd 4) (by omega) (by omega)).mp c_135
                      refine lv_iconst (v := (nI 4)) hx hb dX4_head_169 (by decide) ?_
                      have hS9 : hdS cs cd = some (4) := by unfold hdS; rw [if_neg (by omega), if_neg (fun q => q hc_32), if_neg (by omega), if_neg (fun q => q.2.elim (fun q => q hc_79) (fun q => q (by omega))), if_neg (by omega), if_pos (by omega)]
                      exact W.iret (v := (nI 4)) hx hb hr (fun t ht hW => ⟨⟨(nI 4), (va_up ks 4 (tw cd 0), va_up kt 4 (tw cd 2), va_up ku 4 (tw cd 4), kl, kn), rfl, ⟨by rw [hS9], fun j hj => ⟨va_up_ne _ _ hj, va_up_ne _ _ hj, va_up_ne _ _ hj⟩, fun j hj => ⟨rfl, rfl⟩, fun j => ⟨up_lt bks (by omega) j, up_lt bkt (by omega) j, up_lt bku (by omega) j, bkl j, bkn j⟩, fun q => by rw [hS9] at q; cases q⟩, by rw [ht]; exact hP, va_K.moved hW.alike hK, hD⟩, hS.F ht⟩) hS.2.2 dX4_head_170
                    · have c_135 : ¬ 64 < tw cd 4 := fun q => c_135 ((nI_ltI (a := 64) (b := tw cd 4) (by omega) (by omega)).mpr q)
                      refine lv_aload_n hx hb dX4_head_138 rfl (lv_at hl 1 rfl) ?_
                      refine va_get (D := (dC, dI)) (ci := 4) (v := .ref (a 7)) (C := RX4) (T := TX4) (N := 18) hx hb hts in_X4 hown hK hP 0 rfl rfl 10 (by decide) lk_4 (fun _ h9 => h9) rfl dX4_head_139 ?_
                      refine lv_iload_n hx hb dX4_head_142 rfl (lv_at hl 0 rfl) ?_
                      refine va_iald hx hb hK hP 7 0 rfl rfl (vp_in_nI (by omega) (by omega)) dX4_head_143 ?_
                      refine tpi (nf_at (by omega)) ?_
                      refine tpi (congrArg nI (va_up_self _ _ _)) ?_
                      refine lv_if_ne (tgt := 151) hx hb dX4_head_144 (by decide) (fun c_144 => ?_) (fun c_144 => ?_)
                      · have c_144 : ¬ tw cd 4 = 0 := fun q => c_144 ((nZ_eq (by omega)).mpr q)
                        refine lv_iconst (v := (nI 0)) hx hb dX4_head_151 (by decide) ?_
                        refine lv_aload_n hx hb dX4_head_152 rfl (lv_at hl 1 rfl) ?_
                        refine va_get (D := (dC, dI)) (ci := 4) (v := .ref (a 6)) (C := RX4) (T := TX4) (N := 18) hx hb hts in_X4 hown hK hP 0 rfl rfl 9 (by decide) lk_3 (fun _ h9 => h9) rfl dX4_head_153 ?_
                        refine lv_iload_n hx hb dX4_head_156 rfl (lv_at hl 0 rfl) ?_
                        refine va_iald hx hb hK hP 6 0 rfl rfl (vp_in_nI (by omega) (by omega)) dX4_head_157 ?_
                        refine tpi (nf_at (by omega)) ?_
                        refine tpi (congrArg nI (va_up_self _ _ _)) ?_
                        refine lv_if_ne (tgt := 165) hx hb dX4_head_158 (by decide) (fun c_158 => ?_) (fun c_158 => ?_)
                        · have c_158 : ¬ tw cd 2 = 0 := fun q => c_158 ((nZ_eq (by omega)).mpr q)
                          refine lv_iconst (v := (nI 0)) hx hb dX4_head_165 (by decide) ?_
                          refine lv_icmp_eq (tgt := 171) hx hb dX4_head_166 (by decide) (fun c_166 => ?_) (fun c_166 => ?_)
                          · have c_166 : 0 = 0 := (nI_eq (a := 0) (b := 0) (by omega) (by omega)).mp c_166
                            refine lv_aload_n hx hb dX4_head_171 rfl (lv_at hl 1 rfl) ?_
                            refine va_get (D := (dC, dI)) (ci := 4) (v := .ref (a 6)) (C := RX4) (T := TX4) (N := 18) hx hb hts in_X4 hown hK hP 0 rfl rfl 9 (by decide) lk_3 (fun _ h9 => h9) rfl dX4_head_172 ?_
                            refine lv_iload_n hx hb dX4_head_175 rfl (lv_at hl 0 rfl) ?_
                            refine va_iald hx hb hK hP 6 0 rfl rfl (vp_in_nI (by omega) (by omega)) dX4_head_176 ?_
                            refine tpi (nf_at (by omega)) ?_
                            refine tpi (congrArg nI (va_up_self _ _ _)) ?_
                            refine lv_istore_n (lv' := [(2, .int (nI (tw cd 2))), (1, .int (nI 4)), (0, .ref (a 0))]) hx hb dX4_head_177 rfl hl (by decide) rfl (fun ls hl => ?_)
                            refine lv_iconst (v := (nI 0)) hx hb dX4_head_178 (by decide) ?_
                            refine lv_istore_n (lv' := [(3, .int (nI 0)), (2, .int (nI (tw cd 2))), (1, .int (nI 4)), (0, .ref (a 0))]) hx hb dX4_head_179 rfl hl (by decide) rfl (fun ls hl => ?_)
                            have hS0 : hdS cs cd = hdB cs cd (tw cd 0) (tw cd 4) 0 (tw cd 2) := by unfold hdS; rw [if_neg (by omega), if_neg (fun q => q hc_32), if_neg (by omega), if_neg (fun q => q.2.elim (fun q => q hc_79) (fun q => q (by omega))), if_neg (by omega), if_neg (by omega)]
                            refine lp_world (σ := Nat × Nat × (Nat → Nat) × (Nat → Nat)) (fun ⟨i, en, g, h⟩ => i ≤ tw cd 4 ∧ hdS cs cd = hdB cs cd (tw cd 0) (tw cd 4 - i) i en ∧ (∀ j, j < 256 → g j = kl j ∧ h j = kn j) ∧ (∀ j, j < i → g (256 + j) = tw cd (6 + 4 * j) ∧ h (256 + j) = tw cd (6 + 4 * j + 2)) ∧ (∀ j, g j < 2 ^ 31 ∧ h j < 2 ^ 31) ∧ en ≤ 131072) (fun ⟨i, en, g, h⟩ => tw cd 4 - i) (fun ⟨i, en, g, h⟩ => [(3, .int (nI i)), (2, .int (nI en)), (1, .int (nI 4)), (0, .ref (a 0))]) (fun ⟨i, en, g, h⟩ => mw cI a sz st us kp ga gl cs mem pl ln km (va_up ks 4 (tw cd 0)) (va_up kt 4 (tw cd 2)) (va_up ku 4 (tw cd 4)) g h cd wt) ?_ ((0, tw cd 2, kl, kn)) (⟨by omega, hS0, fun j hj => ⟨rfl, rfl⟩, fun j hj => absurd hj (Nat.not_lt_zero _), fun j => ⟨bkl j, bkn j⟩, by omega⟩) (hP) (hD) hS (lv_sub hl [0, 1, 2, 3] rfl)
                            intro ⟨i, en, g, h⟩ hI ih H locs ls hP hD hS hl
                            have hl : lv_has ls 7 [(3, .int (nI i)), (2, .int (nI en)), (1, .int (nI 4)), (0, .ref (a 0))] := hl
                            have hP : va_P (dC, dI) vwCl (mw cI a sz st us kp ga gl cs mem pl ln km (va_up ks 4 (tw cd 0)) (va_up kt 4 (tw cd 2)) (va_up ku 4 (tw cd 4)) g h cd wt) H := hP
                            have hD : va_D A (mw cI a sz st us kp ga gl cs mem pl ln km (va_up ks 4 (tw cd 0)) (va_up kt 4 (tw cd 2)) (va_up ku 4 (tw cd 4)) g h cd wt) := hD
                            have hI : i ≤ tw cd 4 ∧ hdS cs cd = hdB cs cd (tw cd 0) (tw cd 4 - i) i en ∧ (∀ j, j < 256 → g j = kl j ∧ h j = kn j) ∧ (∀ j, j < i → g (256 + j) = tw cd (6 + 4 * j) ∧ h (256 + j) = tw cd (6 + 4 * j + 2)) ∧ (∀ j, g j < 2 ^ 31 ∧ h j < 2 ^ 31) ∧ en ≤ 131072 := hI
                            obtain ⟨hi, hv, hgk, hgd, hgb, hen⟩ := hI
                            have ih_180 := ih
                            refine lv_iload_n hx hb dX4_head_180 rfl (lv_at hl 0 rfl) ?_
                            refine lv_aload_n hx hb dX4_head_181 rfl (lv_at hl 3 rfl) ?_
                            refine va_get (D := (dC, dI)) (ci := 4) (v := .ref (a 7)) (C := RX4) (T := TX4) (N := 18) hx hb hts in_X4 hown hK hP 0 rfl rfl 10 (by decide) lk_4 (fun _ h9 => h9) rfl dX4_head_182 ?_
                            refine lv_iload_n hx hb dX4_head_185 rfl (lv_at hl 2 rfl) ?_
                            refine va_iald hx hb hK hP 7 0 rfl rfl (vp_in_nI (by omega) (by omega)) dX4_head_186 ?_
                            refine tpi (nf_at (by omega)) ?_
                            refine tpi (congrArg nI (va_up_self _ _ _)) ?_
                            refine lv_icmp_ge (tgt := 319) hx hb dX4_head_187 (by decide) (fun c_187 => ?_) (fun c_187 => ?_)
                            · have c_187 : tw cd 4 ≤ i := (nI_leI (a := tw cd 4) (b := i) (by omega) (by omega)).mp c_187
                              refine lv_iconst (v := ((-1))) hx hb dX4_head_319 (by decide) ?_
                              have hS9 : hdS cs cd = none := by rw [hv, show tw cd 4 - i = 0 by omega]; rfl
                              exact W.iret (v := ((-1))) hx hb hr (fun t ht hW => ⟨⟨((-1)), (va_up ks 4 (tw cd 0), va_up kt 4 (tw cd 2), va_up ku 4 (tw cd 4), g, h), rfl, ⟨by rw [hS9], fun j hj => ⟨va_up_ne _ _ hj, va_up_ne _ _ hj, va_up_ne _ _ hj⟩, hgk, fun j => ⟨up_lt bks (by omega) j, up_lt bkt (by omega) j, up_lt bku (by omega) j, (hgb j).1, (hgb j).2⟩, fun _ => ⟨va_up_self _ _ _, va_up_self _ _ _, va_up_self _ _ _, fun j hj => hgd j (by omega)⟩⟩, by rw [ht]; exact hP, va_K.moved hW.alike hK, hD⟩, hS.F ht⟩) hS.2.2 dX4_head_320
                            · have c_187 : ¬ tw cd 4 ≤ i := fun q => c_187 ((nI_leI (a := tw cd 4) (b := i) (by omega) (by omega)).mpr q)
                              refine lv_bipush (v := (nI 6)) hx hb dX4_head_190 (by decide) ?_
                              refine lv_iconst (v := (nI 4)) hx hb dX4_head_192 (by decide) ?_
                              refine lv_iload_n hx hb dX4_head_193 rfl (lv_at hl 0 rfl) ?_
                              refine lv_imul hx hb dX4_head_194 ?_
                              refine tpi (pk_mul _ _) ?_
                              refine lv_iadd hx hb dX4_head_195 ?_
                              refine tpi (nI_add _ _) ?_
                              refine lv_istore (lv' := [(4, .int (nI (6 + (4 * i)))), (3, .int (nI i)), (2, .int (nI en)), (1, .int (nI 4)), (0, .ref (a 0))]) hx hb dX4_head_196 hl (by decide) rfl (fun ls hl => ?_)
                              refine lv_aload_n hx hb dX4_head_198 rfl (lv_at hl 4 rfl) ?_
                              refine va_get (D := (dC, dI)) (ci := 4) (v := .int (nI cs)) (C := RX4) (T := TX4) (N := 18) hx hb hts in_X4 hown hK hP 0 rfl rfl 16 (by decide) lk_1 (fun _ h9 => h9) rfl dX4_head_199 ?_
                              refine lv_iload hx hb dX4_head_202 (lv_at hl 0 rfl) ?_
                              refine lv_iconst (v := (nI 2)) hx hb dX4_head_204 (by decide) ?_
                              refine lv_iadd hx hb dX4_head_205 ?_
                              refine tpi (nI_add _ _) ?_
                              refine lv_icmp_ge (tgt := 214) hx hb dX4_head_206 (by decide) (fun c_206 => ?_) (fun c_206 => ?_)
                              · have c_206 : 6 + (4 * i) + 2 ≤ cs := (nI_leI (a := 6 + (4 * i) + 2) (b := cs) (by omega) (by omega)).mp c_206
                                refine lv_aload_n hx hb dX4_head_214 rfl (lv_at hl 4 rfl) ?_
                                refine lv_iload hx hb dX4_head_215 (lv_at hl 0 rfl) ?_
                                refine vp_callSi (W.runV (As := [.int (nI (6 + (4 * i)))]) (rest := []) ⟨hx, hb, hml, hown, hts⟩ (c_X4_two l dC dI cI a sz st us kp ga gl cs mem pl ln km (va_up ks 4 (tw cd 0)) (va_up kt 4 (tw cd 2)) (va_up ku 4 (tw cd 4)) g h cd wt (6 + (4 * i)) (by omega) bcd) (cwV 1 hts gX4_head_X4_two rfl rfl rfl (by decide +kernel) ⟨Nat.le_of_ble_eq_true rfl, Nat.le_of_ble_eq_true rfl⟩) ⟨fun a9 U g9 mk9 q9 => by obtain ⟨q0, qP, qK⟩ := q9; exact ⟨q0, qP, va_K.moved (u := U) (U := U.calling g9 mk9 a9) (Vm.Alike.refl U.vm) qK⟩, va_recv hK hP (ci := 4) (q0 := 0) rfl rfl, fun U hU hW => ⟨rfl, by rw [hU]; exact hP, va_K.moved hW.alike hK⟩⟩ rfl rfl hl.1 rfl (lv_room (Nat.le_of_ble_eq_true rfl)) dX4_head_217 ⟨Nat.zero_le _, Nat.zero_le _⟩) (fun r_217 hw => ?_)
                                try dsimp only at hw
                                subst hw
                                have wt_217 := tw_lt bcd (6 + (4 * i))
                                refine lv_istore (lv' := [(5, .int (nI (tw cd (6 + (4 * i))))), (4, .int (nI (6 + (4 * i)))), (3, .int (nI i)), (2, .int (nI en)), (1, .int (nI 4)), (0, .ref (a 0))]) hx hb dX4_head_220 hl (by decide) rfl (fun ls hl => ?_)
                                refine lv_iload hx hb dX4_head_222 (lv_at hl 0 rfl) ?_
                                refine lv_iload_n hx hb dX4_head_224 rfl (lv_at hl 3 rfl) ?_
                                refine lv_icmp_ge (tgt := 231) hx hb dX4_head_225 (by decide) (fun c_225 => ?_) (fun c_225 => ?_)
                                · have c_225 : en ≤ tw cd (6 + (4 * i)) := (nI_leI (a := en) (b := tw cd (6 + (4 * i))) (by omega) (by omega)).mp c_225
                                  refine lv_aload_n hx hb dX4_head_231 rfl (lv_at hl 5 rfl) ?_
                                  refine va_get (D := (dC, dI)) (ci := 4) (v := .int (nI cs)) (C := RX4) (T := TX4) (N := 18) hx hb hts in_X4 hown hK hP 0 rfl rfl 16 (by decide) lk_1 (fun _ h9 => h9) rfl dX4_head_232 ?_
                                  refine lv_iload hx hb dX4_head_235 (lv_at hl 1 rfl) ?_
                                  refine lv_iconst (v := (nI 4)) hx hb dX4_head_237 (by decide) ?_
                                  refine lv_iadd hx hb dX4_head_238 ?_
                                  refine tpi (nI_add _ _) ?_
                                  refine lv_icmp_ge (tgt := 247) hx hb dX4_head_239 (by decide) (fun c_239 => ?_) (fun c_239 => ?_)
                                  · have c_239 : 6 + (4 * i) + 4 ≤ cs := (nI_leI (a := 6 + (4 * i) + 4) (b := cs) (by omega) (by omega)).mp c_239
                                    refine lv_aload_n hx hb dX4_head_247 rfl (lv_at hl 5 rfl) ?_
                                    refine lv_iload hx hb dX4_head_248 (lv_at hl 1 rfl) ?_
                                    refine lv_iconst (v := (nI 2)) hx hb dX4_head_250 (by decide) ?_
                                    refine lv_iadd hx hb dX4_head_251 ?_
                                    refine tpi (nI_add _ _) ?_
                                    refine vp_callSi (W.runV (As := [.int (nI (6 + (4 * i) + 2))]) (rest := []) ⟨hx, hb, hml, hown, hts⟩ (c_X4_two l dC dI cI a sz st us kp ga gl cs mem pl ln km (va_up ks 4 (tw cd 0)) (va_up kt 4 (tw cd 2)) (va_up ku 4 (tw cd 4)) g h cd wt (6 + (4 * i) + 2) (by omega) bcd) (cwV 1 hts gX4_head_X4_two rfl rfl rfl (by decide +kernel) ⟨Nat.le_of_ble_eq_true rfl, Nat.le_of_ble_eq_true rfl⟩) ⟨fun a9 U g9 mk9 q9 => by obtain ⟨q0, qP, qK⟩ := q9; exact ⟨q0, qP, va_K.moved (u := U) (U := U.calling g9 mk9 a9) (Vm.Alike.refl U.vm) qK⟩, va_recv hK hP (ci := 4) (q0 := 0) rfl rfl, fun U hU hW => ⟨rfl, by rw [hU]; exact hP, va_K.moved hW.alike hK⟩⟩ rfl rfl hl.1 rfl (lv_room (Nat.le_of_ble_eq_true rfl)) dX4_head_252 ⟨Nat.zero_le _, Nat.zero_le _⟩) (fun r_252 hw => ?_)
                                    try dsimp only at hw
                                    subst hw
                                    have wt_252 := tw_lt bcd (6 + (4 * i) + 2)
                                    refine lv_istore (lv' := [(6, .int (nI (tw cd (6 + (4 * i) + 2)))), (5, .int (nI (tw cd (6 + (4 * i))))), (4, .int (nI (6 + (4 * i)))), (3, .int (nI i)), (2, .int (nI en)), (1, .int (nI 4)), (0, .ref (a 0))]) hx hb dX4_head_255 hl (by decide) rfl (fun ls hl => ?_)
                                    refine lv_iload hx hb dX4_head_257 (lv_at hl 0 rfl) ?_
                                    refine lv_if_eq (tgt := 276) hx hb dX4_head_259 (by decide) (fun c_259 => ?_) (fun c_259 => ?_)
                                    · have c_259 : tw cd (6 + (4 * i) + 2) = 0 := (nZ_eq (by omega)).mp c_259
                                      refine lv_iload hx hb dX4_head_276 (lv_at hl 2 rfl) ?_
                                      refine lv_iconst (v := (nI 2)) hx hb dX4_head_278 (by decide) ?_
                                      refine lv_iadd hx hb dX4_head_279 ?_
                                      refine tpi (nI_add _ _) ?_
                                      have hS9 : hdS cs cd = some (6 + (4 * i) + 2) := by rw [hv, hdB_s (by omega), if_neg (by omega), if_neg (by omega), if_neg (by omega), if_pos (by omega)]
                                      exact W.iret (v := (nI (6 + (4 * i) + 2))) hx hb hr (fun t ht hW => ⟨⟨(nI (6 + (4 * i) + 2)), (va_up ks 4 (tw cd 0), va_up kt 4 (tw cd 2), va_up ku 4 (tw cd 4), g, h), rfl, ⟨by rw [hS9], fun j hj => ⟨va_up_ne _ _ hj, va_up_ne _ _ hj, va_up_ne _ _ hj⟩, hgk, fun j => ⟨up_lt bks (by omega) j, up_lt bkt (by omega) j, up_lt bku (by omega) j, (hgb j).1, (hgb j).2⟩, fun q => by rw [hS9] at q; cases q⟩, by rw [ht]; exact hP, va_K.moved hW.alike hK, hD⟩, hS.F ht⟩) hS.2.2 dX4_head_280
                                    · have c_259 : ¬ tw cd (6 + (4 * i) + 2) = 0 := fun q => c_259 ((nZ_eq (by omega)).mpr q)
                                      refine lv_iload hx hb dX4_head_262 (lv_at hl 1 rfl) ?_
                                      refine lv_iload hx hb dX4_head_264 (lv_at hl 0 rfl) ?_
                                      refine lv_iadd hx hb dX4_head_266 ?_
                                      refine tpi (nI_add _ _) ?_
                                      refine lv_aload_n hx hb dX4_head_267 rfl (lv_at hl 6 rfl) ?_
                                      refine va_get (D := (dC, dI)) (ci := 4) (v := .ref (a 5)) (C := RX4) (T := TX4) (N := 18) hx hb hts in_X4 hown hK hP 0 rfl rfl 8 (by decide) lk_2 (fun _ h9 => h9) rfl dX4_head_268 ?_
                                      refine lv_iload_n hx hb dX4_head_271 rfl (lv_at hl 5 rfl) ?_
                                      refine va_iald hx hb hK hP 5 0 rfl rfl (vp_in_nI (by omega) (by omega)) dX4_head_272 ?_
                                      refine tpi (nf_at (by omega)) ?_
                                      refine tpi (congrArg nI (va_up_self _ _ _)) ?_
                                      refine lv_icmp_le (tgt := 281) hx hb dX4_head_273 (by decide) (fun c_273 => ?_) (fun c_273 => ?_)
                                      · have c_273 : tw cd (6 + (4 * i)) + (tw cd (6 + (4 * i) + 2)) ≤ tw cd 0 := (nI_leI (a := tw cd (6 + (4 * i)) + (tw cd (6 + (4 * i) + 2))) (b := tw cd 0) (by omega) (by omega)).mp c_273
                                        refine lv_aload_n hx hb dX4_head_281 rfl (lv_at hl 6 rfl) ?_
                                        refine va_get (D := (dC, dI)) (ci := 4) (v := .ref (a 8)) (C := RX4) (T := TX4) (N := 18) hx hb hts in_X4 hown hK hP 0 rfl rfl 11 (by decide) lk_5 (fun _ h9 => h9) rfl dX4_head_282 ?_
                                        refine lv_bipush (v := (nI 64)) hx hb dX4_head_285 (by decide) ?_
                                        refine lv_iload_n hx hb dX4_head_287 rfl (lv_at hl 5 rfl) ?_
                                        refine lv_imul hx hb dX4_head_288 ?_
                                        refine tpi (pk_mul _ _) ?_
                                        refine lv_iload_n hx hb dX4_head_289 rfl (lv_at hl 3 rfl) ?_
                                        refine lv_iadd hx hb dX4_head_290 ?_
                                        refine tpi (nI_add _ _) ?_
                                        refine lv_iload hx hb dX4_head_291 (lv_at hl 1 rfl) ?_
                                        refine va_iast hx hb hK hP hD hS 8 0 rfl rfl (vp_in_nI (by omega) (by omega)) dX4_head_293 (fun H locs hP hD hS => ?_)
                                        rw [nf_up (by omega)] at hP hD
                                        have hP : va_P (dC, dI) vwCl (mw cI a sz st us kp ga gl cs mem pl ln km (va_up ks 4 (tw cd 0)) (va_up kt 4 (tw cd 2)) (va_up ku 4 (tw cd 4)) (va_up g (256 + i) (tw cd (6 + (4 * i)))) h cd wt) H := hP
                                        have hD : va_D A (mw cI a sz st us kp ga gl cs mem pl ln km (va_up ks 4 (tw cd 0)) (va_up kt 4 (tw cd 2)) (va_up ku 4 (tw cd 4)) (va_up g (256 + i) (tw cd (6 + (4 * i)))) h cd wt) := hD
                                        refine lv_aload_n hx hb dX4_head_294 rfl (lv_at hl 6 rfl) ?_
                                        refine va_get (D := (dC, dI)) (ci := 4) (v := .ref (a 9)) (C := RX4) (T := TX4) (N := 18) hx hb hts in_X4 hown hK hP 0 rfl rfl 12 (by decide) lk_6 (fun _ h9 => h9) rfl dX4_head_295 ?_
                                        refine lv_bipush (v := (nI 64)) hx hb dX4_head_298 (by decide) ?_
                                        refine lv_iload_n hx hb dX4_head_300 rfl (lv_at hl 5 rfl) ?_
                                        refine lv_imul hx hb dX4_head_301 ?_
                                        refine tpi (pk_mul _ _) ?_
                                        refine lv_iload_n hx hb dX4_head_302 rfl (lv_at hl 3 rfl) ?_
                                        refine lv_iadd hx hb dX4_head_303 ?_
                                        refine tpi (nI_add _ _) ?_
                                        refine lv_iload hx hb dX4_head_304 (lv_at hl 0 rfl) ?_
                                        refine va_iast hx hb hK hP hD hS 9 0 rfl rfl (vp_in_nI (by omega) (by omega)) dX4_head_306 (fun H locs hP hD hS => ?_)
                                        rw [nf_up (by omega)] at hP hD
                                        have hP : va_P (dC, dI) vwCl (mw cI a sz st us kp ga gl cs mem pl ln km (va_up ks 4 (tw cd 0)) (va_up kt 4 (tw cd 2)) (va_up ku 4 (tw cd 4)) (va_up g (256 + i) (tw cd (6 + (4 * i)))) (va_up h (256 + i) (tw cd (6 + (4 * i) + 2))) cd wt) H := hP
                                        have hD : va_D A (mw cI a sz st us kp ga gl cs mem pl ln km (va_up ks 4 (tw cd 0)) (va_up kt 4 (tw cd 2)) (va_up ku 4 (tw cd 4)) (va_up g (256 + i) (tw cd (6 + (4 * i)))) (va_up h (256 + i) (tw cd (6 + (4 * i) + 2))) cd wt) := hD
                                        refine lv_iload hx hb dX4_head_307 (lv_at hl 1 rfl) ?_
                                        refine lv_iload hx hb dX4_head_309 (lv_at hl 0 rfl) ?_
                                        refine lv_iadd hx hb dX4_head_311 ?_
                                        refine tpi (nI_add _ _) ?_
                                        refine lv_istore_n (lv' := [(2, .int (nI (tw cd (6 + (4 * i)) + (tw cd (6 + (4 * i) + 2))))), (6, .int (nI (tw cd (6 + (4 * i) + 2)))), (5, .int (nI (tw cd (6 + (4 * i))))), (4, .int (nI (6 + (4 * i)))), (3, .int (nI i)), (1, .int (nI 4)), (0, .ref (a 0))]) hx hb dX4_head_312 rfl hl (by decide) rfl (fun ls hl => ?_)
                                        refine lv_iinc (v := (nI (i + 1))) (lv' := [(3, .int (nI (i + 1))), (2, .int (nI (tw cd (6 + (4 * i)) + (tw cd (6 + (4 * i) + 2))))), (6, .int (nI (tw cd (6 + (4 * i) + 2)))), (5, .int (nI (tw cd (6 + (4 * i))))), (4, .int (nI (6 + (4 * i)))), (1, .int (nI 4)), (0, .ref (a 0))]) hx hb dX4_head_313 hl (k := 4) rfl (nI_inc _) (by decide) rfl (fun ls hl => ?_)
                                        refine lv_goto (tgt := 180) hx hb dX4_head_316 (by decide) ?_
                                        exact ih_180 (i + 1, tw cd (6 + (4 * i)) + (tw cd (6 + (4 * i) + 2)), va_up g (256 + i) (tw cd (6 + (4 * i))), va_up h (256 + i) (tw cd (6 + (4 * i) + 2))) (⟨by omega, by rw [hv, hdB_s (by omega), if_neg (by omega), if_neg (by omega), if_neg (by omega), if_neg (by omega)], fun j hj => ⟨by rw [va_up_ne _ _ (by omega)]; exact (hgk j hj).1, by rw [va_up_ne _ _ (by omega)]; exact (hgk j hj).2⟩, lt_s (fun j hj => ⟨by rw [va_up_ne _ _ (by omega)]; exact (hgd j hj).1, by rw [va_up_ne _ _ (by omega)]; exact (hgd j hj).2⟩) ⟨va_up_self _ _ _, va_up_self _ _ _⟩, fun j => ⟨up_lt (fun j => (hgb j).1) (by omega) j, up_lt (fun j => (hgb j).2) (by omega) j⟩, by omega⟩) (show tw cd 4 - (i + 1) < tw cd 4 - i by omega) H locs ls (hP) (hD) hS (lv_sub hl [0, 1, 5, 6] rfl)
                                      · have c_273 : ¬ tw cd (6 + (4 * i)) + (tw cd (6 + (4 * i) + 2)) ≤ tw cd 0 := fun q => c_273 ((nI_leI (a := tw cd (6 + (4 * i)) + (tw cd (6 + (4 * i) + 2))) (b := tw cd 0) (by omega) (by omega)).mpr q)
                                        refine lv_iload hx hb dX4_head_276 (lv_at hl 2 rfl) ?_
                                        refine lv_iconst (v := (nI 2)) hx hb dX4_head_278 (by decide) ?_
                                        refine lv_iadd hx hb dX4_head_279 ?_
                                        refine tpi (nI_add _ _) ?_
                                        have hS9 : hdS cs cd = some (6 + (4 * i) + 2) := by rw [hv, hdB_s (by omega), if_neg (by omega), if_neg (by omega), if_neg (by omega), if_pos (by omega)]
                                        exact W.iret (v := (nI (6 + (4 * i) + 2))) hx hb hr (fun t ht hW => ⟨⟨(nI (6 + (4 * i) + 2)), (va_up ks 4 (tw cd 0), va_up kt 4 (tw cd 2), va_up ku 4 (tw cd 4), g, h), rfl, ⟨by rw [hS9], fun j hj => ⟨va_up_ne _ _ hj, va_up_ne _ _ hj, va_up_ne _ _ hj⟩, hgk, fun j => ⟨up_lt bks (by omega) j, up_lt bkt (by omega) j, up_lt bku (by omega) j, (hgb j).1, (hgb j).2⟩, fun q => by rw [hS9] at q; cases q⟩, by rw [ht]; exact hP, va_K.moved hW.alike hK, hD⟩, hS.F ht⟩) hS.2.2 dX4_head_280
                                  · have c_239 : ¬ 6 + (4 * i) + 4 ≤ cs := fun q => c_239 ((nI_leI (a := 6 + (4 * i) + 4) (b := cs) (by omega) (by omega)).mpr q)
                                    refine lv_aload_n hx hb dX4_head_242 rfl (lv_at hl 5 rfl) ?_
                                    refine va_get (D := (dC, dI)) (ci := 4) (v := .int (nI cs)) (C := RX4) (T := TX4) (N := 18) hx hb hts in_X4 hown hK hP 0 rfl rfl 16 (by decide) lk_1 (fun _ h9 => h9) rfl dX4_head_243 ?_
                                    have hS9 : hdS cs cd = some (cs) := by rw [hv, hdB_s (by omega), if_neg (by omega), if_neg (by omega), if_pos (by omega)]
                                    exact W.iret (v := (nI cs)) hx hb hr (fun t ht hW => ⟨⟨(nI cs), (va_up ks 4 (tw cd 0), va_up kt 4 (tw cd 2), va_up ku 4 (tw cd 4), g, h), rfl, ⟨by rw [hS9], fun j hj => ⟨va_up_ne _ _ hj, va_up_ne _ _ hj, va_up_ne _ _ hj⟩, hgk, fun j => ⟨up_lt bks (by omega) j, up_lt bkt (by omega) j, up_lt bku (by omega) j, (hgb j).1, (hgb j).2⟩, fun q => by rw [hS9] at q; cases q⟩, by rw [ht]; exact hP, va_K.moved hW.alike hK, hD⟩, hS.F ht⟩) hS.2.2 dX4_head_246
                                · have c_225 : ¬ en ≤ tw cd (6 + (4 * i)) := fun q => c_225 ((nI_leI (a := en) (b := tw cd (6 + (4 * i))) (by omega) (by omega)).mpr q)
                                  refine lv_iload hx hb dX4_head_228 (lv_at hl 1 rfl) ?_
                                  have hS9 : hdS cs cd = some (6 + (4 * i)) := by rw [hv, hdB_s (by omega), if_neg (by omega), if_pos (by omega)]
                                  exact W.iret (v := (nI (6 + (4 * i)))) hx hb hr (fun t ht hW => ⟨⟨(nI (6 + (4 * i))), (va_up ks 4 (tw cd 0), va_up kt 4 (tw cd 2), va_up ku 4 (tw cd 4), g, h), rfl, ⟨by rw [hS9], fun j hj => ⟨va_up_ne _ _ hj, va_up_ne _ _ hj, va_up_ne _ _ hj⟩, hgk, fun j => ⟨up_lt bks (by omega) j, up_lt bkt (by omega) j, up_lt bku (by omega) j, (hgb j).1, (hgb j).2⟩, fun q => by rw [hS9] at q; cases q⟩, by rw [ht]; exact hP, va_K.moved hW.alike hK, hD⟩, hS.F ht⟩) hS.2.2 dX4_head_230
                              · have c_206 : ¬ 6 + (4 * i) + 2 ≤ cs := fun q => c_206 ((nI_leI (a := 6 + (4 * i) + 2) (b := cs) (by omega) (by omega)).mpr q)
                                refine lv_aload_n hx hb dX4_head_209 rfl (lv_at hl 4 rfl) ?_
                                refine va_get (D := (dC, dI)) (ci := 4) (v := .int (nI cs)) (C := RX4) (T := TX4) (N := 18) hx hb hts in_X4 hown hK hP 0 rfl rfl 16 (by decide) lk_1 (fun _ h9 => h9) rfl dX4_head_210 ?_
                                have hS9 : hdS cs cd = some (cs) := by rw [hv, hdB_s (by omega), if_pos (by omega)]
                                exact W.iret (v := (nI cs)) hx hb hr (fun t ht hW => ⟨⟨(nI cs), (va_up ks 4 (tw cd 0), va_up kt 4 (tw cd 2), va_up ku 4 (tw cd 4), g, h), rfl, ⟨by rw [hS9], fun j hj => ⟨va_up_ne _ _ hj, va_up_ne _ _ hj, va_up_ne _ _ hj⟩, hgk, fun j => ⟨up_lt bks (by omega) j, up_lt bkt (by omega) j, up_lt bku (by omega) j, (hgb j).1, (hgb j).2⟩, fun q => by rw [hS9] at q; cases q⟩, by rw [ht]; exact hP, va_K.moved hW.alike hK, hD⟩, hS.F ht⟩) hS.2.2 dX4_head_213
                          · exact absurd c_166 (by decide)
                        · have c_158 : tw cd 2 = 0 := (nZ_eq (by omega)).mp c_158
                          refine lv_iconst (v := (nI 1)) hx hb dX4_head_161 (by decide) ?_
                          refine lv_goto (tgt := 166) hx hb dX4_head_162 (by decide) ?_
                          refine lv_icmp_eq (tgt := 171) hx hb dX4_head_166 (by decide) (fun c_166 => ?_) (fun c_166 => ?_)
                          · exact absurd c_166 (by decide)
                          · have c_166 : ¬ 0 = 1 := fun q => c_166 ((nI_eq (a := 0) (b := 1) (by omega) (by omega)).mpr q)
                            refine lv_iconst (v := (nI 4)) hx hb dX4_head_169 (by decide) ?_
                            have hS9 : hdS cs cd = some (4) := by unfold hdS; rw [if_neg (by omega), if_neg (fun q => q hc_32), if_neg (by omega), if_neg (fun q => q.2.elim (fun q => q hc_79) (fun q => q (by omega))), if_neg (by omega), if_pos (by omega)]
                            exact W.iret (v := (nI 4)) hx hb hr (fun t ht hW => ⟨⟨(nI 4), (va_up ks 4 (tw cd 0), va_up kt 4 (tw cd 2), va_up ku 4 (tw cd 4), kl, kn), rfl, ⟨by rw [hS9], fun j hj => ⟨va_up_ne _ _ hj, va_up_ne _ _ hj, va_up_ne _ _ hj⟩, fun j hj => ⟨rfl, rfl⟩, fun j => ⟨up_lt bks (by omega) j, up_lt bkt (by omega) j, up_lt bku (by omega) j, bkl j, bkn j⟩, fun q => by rw [hS9] at q; cases q⟩, by rw [ht]; exact hP, va_K.moved hW.alike hK, hD⟩, hS.F ht⟩) hS.2.2 dX4_head_170
                      · have c_144 : tw cd 4 = 0 := (nZ_eq (by omega)).mp c_144
                        refine lv_iconst (v := (nI 1)) hx hb dX4_head_147 (by decide) ?_
                        refine lv_goto (tgt := 152) hx hb dX4_head_148 (by decide) ?_
                        refine lv_aload_n hx hb dX4_head_152 rfl (lv_at hl 1 rfl) ?_
                        refine va_get (D := (dC, dI)) (ci := 4) (v := .ref (a 6)) (C := RX4) (T := TX4) (N := 18) hx hb hts in_X4 hown hK hP 0 rfl rfl 9 (by decide) lk_3 (fun _ h9 => h9) rfl dX4_head_153 ?_
                        refine lv_iload_n hx hb dX4_head_156 rfl (lv_at hl 0 rfl) ?_
                        refine va_iald hx hb hK hP 6 0 rfl rfl (vp_in_nI (by omega) (by omega)) dX4_head_157 ?_
                        refine tpi (nf_at (by omega)) ?_
                        refine tpi (congrArg nI (va_up_self _ _ _)) ?_
                        refine lv_if_ne (tgt := 165) hx hb dX4_head_158 (by decide) (fun c_158 => ?_) (fun c_158 => ?_)
                        · have c_158 : ¬ tw cd 2 = 0 := fun q => c_158 ((nZ_eq (by omega)).mpr q)
                          refine lv_iconst (v := (nI 0)) hx hb dX4_head_165 (by decide) ?_
                          refine lv_icmp_eq (tgt := 171) hx hb dX4_head_166 (by decide) (fun c_166 => ?_) (fun c_166 => ?_)
                          · exact absurd c_166 (by decide)
                          · have c_166 : ¬ 1 = 0 := fun q => c_166 ((nI_eq (a := 1) (b := 0) (by omega) (by omega)).mpr q)
                            refine lv_iconst (v := (nI 4)) hx hb dX4_head_169 (by decide) ?_
                            have hS9 : hdS cs cd = some (4) := by unfold hdS; rw [if_neg (by omega), if_neg (fun q => q hc_32), if_neg (by omega), if_neg (fun q => q.2.elim (fun q => q hc_79) (fun q => q (by omega))), if_neg (by omega), if_pos (by omega)]
                            exact W.iret (v := (nI 4)) hx hb hr (fun t ht hW => ⟨⟨(nI 4), (va_up ks 4 (tw cd 0), va_up kt 4 (tw cd 2), va_up ku 4 (tw cd 4), kl, kn), rfl, ⟨by rw [hS9], fun j hj => ⟨va_up_ne _ _ hj, va_up_ne _ _ hj, va_up_ne _ _ hj⟩, fun j hj => ⟨rfl, rfl⟩, fun j => ⟨up_lt bks (by omega) j, up_lt bkt (by omega) j, up_lt bku (by omega) j, bkl j, bkn j⟩, fun q => by rw [hS9] at q; cases q⟩, by rw [ht]; exact hP, va_K.moved hW.alike hK, hD⟩, hS.F ht⟩) hS.2.2 dX4_head_170
                        · have c_158 : tw cd 2 = 0 := (nZ_eq (by omega)).mp c_158
                          refine lv_iconst (v := (nI 1)) hx hb dX4_head_161 (by decide) ?_
                          refine lv_goto (tgt := 166) hx hb dX4_head_162 (by decide) ?_
                          refine lv_icmp_eq (tgt := 171) hx hb dX4_head_166 (by decide) (fun c_166 => ?_) (fun c_166 => ?_)
                          · have c_166 : 1 = 1 := (nI_eq (a := 1) (b := 1) (by omega) (by omega)).mp c_166
                            refine lv_aload_n hx hb dX4_head_171 rfl (lv_at hl 1 rfl) ?_
                            refine va_get (D := (dC, dI)) (ci := 4) (v := .ref (a 6)) (C := RX4) (T := TX4) (N := 18) hx hb hts in_X4 hown hK hP 0 rfl rfl 9 (by decide) lk_3 (fun _ h9 => h9) rfl dX4_head_172 ?_
                            refine lv_iload_n hx hb dX4_head_175 rfl (lv_at hl 0 rfl) ?_
                            refine va_iald hx hb hK hP 6 0 rfl rfl (vp_in_nI (by omega) (by omega)) dX4_head_176 ?_
                            refine tpi (nf_at (by omega)) ?_
                            refine tpi (congrArg nI (va_up_self _ _ _)) ?_
                            refine lv_istore_n (lv' := [(2, .int (nI (tw cd 2))), (1, .int (nI 4)), (0, .ref (a 0))]) hx hb dX4_head_177 rfl hl (by decide) rfl (fun ls hl => ?_)
                            refine lv_iconst (v := (nI 0)) hx hb dX4_head_178 (by decide) ?_
                            refine lv_istore_n (lv' := [(3, .int (nI 0)), (2, .int (nI (tw cd 2))), (1, .int (nI 4)), (0, .ref (a 0))]) hx hb dX4_head_179 rfl hl (by decide) rfl (fun ls hl => ?_)
                            have hS0 : hdS cs cd = hdB cs cd (tw cd 0) (tw cd 4) 0 (tw cd 2) := by unfold hdS; rw [if_neg (by omega), if_neg (fun q => q hc_32), if_neg (by omega), if_neg (fun q => q.2.elim (fun q => q hc_79) (fun q => q (by omega))), if_neg (by omega), if_neg (by omega)]
                            refine lp_world (σ := Nat × Nat × (Nat → Nat) × (Nat → Nat)) (fun ⟨i, en, g, h⟩ => i ≤ tw cd 4 ∧ hdS cs cd = hdB cs cd (tw cd 0) (tw cd 4 - i) i en ∧ (∀ j, j < 256 → g j = kl j ∧ h j = kn j) ∧ (∀ j, j < i → g (256 + j) = tw cd (6 + 4 * j) ∧ h (256 + j) = tw cd (6 + 4 * j + 2)) ∧ (∀ j, g j < 2 ^ 31 ∧ h j < 2 ^ 31) ∧ en ≤ 131072) (fun ⟨i, en, g, h⟩ => tw cd 4 - i) (fun ⟨i, en, g, h⟩ => [(3, .int (nI i)), (2, .int (nI en)), (1, .int (nI 4)), (0, .ref (a 0))]) (fun ⟨i, en, g, h⟩ => mw cI a sz st us kp ga gl cs mem pl ln km (va_up ks 4 (tw cd 0)) (va_up kt 4 (tw cd 2)) (va_up ku 4 (tw cd 4)) g h cd wt) ?_ ((0, tw cd 2, kl, kn)) (⟨by omega, hS0, fun j hj => ⟨rfl, rfl⟩, fun j hj => absurd hj (Nat.not_lt_zero _), fun j => ⟨bkl j, bkn j⟩, by omega⟩) (hP) (hD) hS (lv_sub hl [0, 1, 2, 3] rfl)
                            intro ⟨i, en, g, h⟩ hI ih H locs ls hP hD hS hl
                            have hl : lv_has ls 7 [(3, .int (nI i)), (2, .int (nI en)), (1, .int (nI 4)), (0, .ref (a 0))] := hl
                            have hP : va_P (dC, dI) vwCl (mw cI a sz st us kp ga gl cs mem pl ln km (va_up ks 4 (tw cd 0)) (va_up kt 4 (tw cd 2)) (va_up ku 4 (tw cd 4)) g h cd wt) H := hP
                            have hD : va_D A (mw cI a sz st us kp ga gl cs mem pl ln km (va_up ks 4 (tw cd 0)) (va_up kt 4 (tw cd 2)) (va_up ku 4 (tw cd 4)) g h cd wt) := hD
                            have hI : i ≤ tw cd 4 ∧ hdS cs cd = hdB cs cd (tw cd 0) (tw cd 4 - i) i en ∧ (∀ j, j < 256 → g j = kl j ∧ h j = kn j) ∧ (∀ j, j < i → g (256 + j) = tw cd (6 + 4 * j) ∧ h (256 + j) = tw cd (6 + 4 * j + 2)) ∧ (∀ j, g j < 2 ^ 31 ∧ h j < 2 ^ 31) ∧ en ≤ 131072 := hI
                            obtain ⟨hi, hv, hgk, hgd, hgb, hen⟩ := hI
                            have ih_180 := ih
                            refine lv_iload_n hx hb dX4_head_180 rfl (lv_at hl 0 rfl) ?_
                            refine lv_aload_n hx hb dX4_head_181 rfl (lv_at hl 3 rfl) ?_
                            refine va_get (D := (dC, dI)) (ci := 4) (v := .ref (a 7)) (C := RX4) (T := TX4) (N := 18) hx hb hts in_X4 hown hK hP 0 rfl rfl 10 (by decide) lk_4 (fun _ h9 => h9) rfl dX4_head_182 ?_
                            refine lv_iload_n hx hb dX4_head_185 rfl (lv_at hl 2 rfl) ?_
                            refine va_iald hx hb hK hP 7 0 rfl rfl (vp_in_nI (by omega) (by omega)) dX4_head_186 ?_
                            refine tpi (nf_at (by omega)) ?_
                            refine tpi (congrArg nI (va_up_self _ _ _)) ?_
                            refine lv_icmp_ge (tgt := 319) hx hb dX4_head_187 (by decide) (fun c_187 => ?_) (fun c_187 => ?_)
                            · have c_187 : tw cd 4 ≤ i := (nI_leI (a := tw cd 4) (b := i) (by omega) (by omega)).mp c_187
                              refine lv_iconst (v := ((-1))) hx hb dX4_head_319 (by decide) ?_
                              have hS9 : hdS cs cd = none := by rw [hv, show tw cd 4 - i = 0 by omega]; rfl
                              exact W.iret (v := ((-1))) hx hb hr (fun t ht hW => ⟨⟨((-1)), (va_up ks 4 (tw cd 0), va_up kt 4 (tw cd 2), va_up ku 4 (tw cd 4), g, h), rfl, ⟨by rw [hS9], fun j hj => ⟨va_up_ne _ _ hj, va_up_ne _ _ hj, va_up_ne _ _ hj⟩, hgk, fun j => ⟨up_lt bks (by omega) j, up_lt bkt (by omega) j, up_lt bku (by omega) j, (hgb j).1, (hgb j).2⟩, fun _ => ⟨va_up_self _ _ _, va_up_self _ _ _, va_up_self _ _ _, fun j hj => hgd j (by omega)⟩⟩, by rw [ht]; exact hP, va_K.moved hW.alike hK, hD⟩, hS.F ht⟩) hS.2.2 dX4_head_320
                            · have c_187 : ¬ tw cd 4 ≤ i := fun q => c_187 ((nI_leI (a := tw cd 4) (b := i) (by omega) (by omega)).mpr q)
                              refine lv_bipush (v := (nI 6)) hx hb dX4_head_190 (by decide) ?_
                              refine lv_iconst (v := (nI 4)) hx hb dX4_head_192 (by decide) ?_
                              refine lv_iload_n hx hb dX4_head_193 rfl (lv_at hl 0 rfl) ?_
                              refine lv_imul hx hb dX4_head_194 ?_
                              refine tpi (pk_mul _ _) ?_
                              refine lv_iadd hx hb dX4_head_195 ?_
                              refine tpi (nI_add _ _) ?_
                              refine lv_istore (lv' := [(4, .int (nI (6 + (4 * i)))), (3, .int (nI i)), (2, .int (nI en)), (1, .int (nI 4)), (0, .ref (a 0))]) hx hb dX4_head_196 hl (by decide) rfl (fun ls hl => ?_)
                              refine lv_aload_n hx hb dX4_head_198 rfl (lv_at hl 4 rfl) ?_
                              refine va_get (D := (dC, dI)) (ci := 4) (v := .int (nI cs)) (C := RX4) (T := TX4) (N := 18) hx hb hts in_X4 hown hK hP 0 rfl rfl 16 (by decide) lk_1 (fun _ h9 => h9) rfl dX4_head_199 ?_
                              refine lv_iload hx hb dX4_head_202 (lv_at hl 0 rfl) ?_
                              refine lv_iconst (v := (nI 2)) hx hb dX4_head_204 (by decide) ?_
                              refine lv_iadd hx hb dX4_head_205 ?_
                              refine tpi (nI_add _ _) ?_
                              refine lv_icmp_ge (tgt := 214) hx hb dX4_head_206 (by decide) (fun c_206 => ?_) (fun c_206 => ?_)
                              · have c_206 : 6 + (4 * i) + 2 ≤ cs := (nI_leI (a := 6 + (4 * i) + 2) (b := cs) (by omega) (by omega)).mp c_206
                                refine lv_aload_n hx hb dX4_head_214 rfl (lv_at hl 4 rfl) ?_
                                refine lv_iload hx hb dX4_head_215 (lv_at hl 0 rfl) ?_
                                refine vp_callSi (W.runV (As := [.int (nI (6 + (4 * i)))]) (rest := []) ⟨hx, hb, hml, hown, hts⟩ (c_X4_two l dC dI cI a sz st us kp ga gl cs mem pl ln km (va_up ks 4 (tw cd 0)) (va_up kt 4 (tw cd 2)) (va_up ku 4 (tw cd 4)) g h cd wt (6 + (4 * i)) (by omega) bcd) (cwV 1 hts gX4_head_X4_two rfl rfl rfl (by decide +kernel) ⟨Nat.le_of_ble_eq_true rfl, Nat.le_of_ble_eq_true rfl⟩) ⟨fun a9 U g9 mk9 q9 => by obtain ⟨q0, qP, qK⟩ := q9; exact ⟨q0, qP, va_K.moved (u := U) (U := U.calling g9 mk9 a9) (Vm.Alike.refl U.vm) qK⟩, va_recv hK hP (ci := 4) (q0 := 0) rfl rfl, fun U hU hW => ⟨rfl, by rw [hU]; exact hP, va_K.moved hW.alike hK⟩⟩ rfl rfl hl.1 rfl (lv_room (Nat.le_of_ble_eq_true rfl)) dX4_head_217 ⟨Nat.zero_le _, Nat.zero_le _⟩) (fun r_217 hw => ?_)
                                try dsimp only at hw
                                subst hw
                                have wt_217 := tw_lt bcd (6 + (4 * i))
                                refine lv_istore (lv' := [(5, .int (nI (tw cd (6 + (4 * i))))), (4, .int (nI (6 + (4 * i)))), (3, .int (nI i)), (2, .int (nI en)), (1, .int (nI 4)), (0, .ref (a 0))]) hx hb dX4_head_220 hl (by decide) rfl (fun ls hl => ?_)
                                refine lv_iload hx hb dX4_head_222 (lv_at hl 0 rfl) ?_
                                refine lv_iload_n hx hb dX4_head_224 rfl (lv_at hl 3 rfl) ?_
                                refine lv_icmp_ge (tgt := 231) hx hb dX4_head_225 (by decide) (fun c_225 => ?_) (fun c_225 => ?_)
                                · have c_225 : en ≤ tw cd (6 + (4 * i)) := (nI_leI (a := en) (b := tw cd (6 + (4 * i))) (by omega) (by omega)).mp c_225
                                  refine lv_aload_n hx hb dX4_head_231 rfl (lv_at hl 5 rfl) ?_
                                  refine va_get (D := (dC, dI)) (ci := 4) (v := .int (nI cs)) (C := RX4) (T := TX4) (N := 18) hx hb hts in_X4 hown hK hP 0 rfl rfl 16 (by decide) lk_1 (fun _ h9 => h9) rfl dX4_head_232 ?_
                                  refine lv_iload hx hb dX4_head_235 (lv_at hl 1 rfl) ?_
                                  refine lv_iconst (v := (nI 4)) hx hb dX4_head_237 (by decide) ?_
                                  refine lv_iadd hx hb dX4_head_238 ?_
                                  refine tpi (nI_add _ _) ?_
                                  refine lv_icmp_ge (tgt := 247) hx hb dX4_head_239 (by decide) (fun c_239 => ?_) (fun c_239 => ?_)
                                  · have c_239 : 6 + (4 * i) + 4 ≤ cs := (nI_leI (a := 6 + (4 * i) + 4) (b := cs) (by omega) (by omega)).mp c_239
                                    refine lv_aload_n hx hb dX4_head_247 rfl (lv_at hl 5 rfl) ?_
                                    refine lv_iload hx hb dX4_head_248 (lv_at hl 1 rfl) ?_
                                    refine lv_iconst (v := (nI 2)) hx hb dX4_head_250 (by decide) ?_
                                    refine lv_iadd hx hb dX4_head_251 ?_
                                    refine tpi (nI_add _ _) ?_
                                    refine vp_callSi (W.runV (As := [.int (nI (6 + (4 * i) + 2))]) (rest := []) ⟨hx, hb, hml, hown, hts⟩ (c_X4_two l dC dI cI a sz st us kp ga gl cs mem pl ln km (va_up ks 4 (tw cd 0)) (va_up kt 4 (tw cd 2)) (va_up ku 4 (tw cd 4)) g h cd wt (6 + (4 * i) + 2) (by omega) bcd) (cwV 1 hts gX4_head_X4_two rfl rfl rfl (by decide +kernel) ⟨Nat.le_of_ble_eq_true rfl, Nat.le_of_ble_eq_true rfl⟩) ⟨fun a9 U g9 mk9 q9 => by obtain ⟨q0, qP, qK⟩ := q9; exact ⟨q0, qP, va_K.moved (u := U) (U := U.calling g9 mk9 a9) (Vm.Alike.refl U.vm) qK⟩, va_recv hK hP (ci := 4) (q0 := 0) rfl rfl, fun U hU hW => ⟨rfl, by rw [hU]; exact hP, va_K.moved hW.alike hK⟩⟩ rfl rfl hl.1 rfl (lv_room (Nat.le_of_ble_eq_true rfl)) dX4_head_252 ⟨Nat.zero_le _, Nat.zero_le _⟩) (fun r_252 hw => ?_)
                                    try dsimp only at hw
                                    subst hw
                                    have wt_252 := tw_lt bcd (6 + (4 * i) + 2)
                                    refine lv_istore (lv' := [(6, .int (nI (tw cd (6 + (4 * i) + 2)))), (5, .int (nI (tw cd (6 + (4 * i))))), (4, .int (nI (6 + (4 * i)))), (3, .int (nI i)), (2, .int (nI en)), (1, .int (nI 4)), (0, .ref (a 0))]) hx hb dX4_head_255 hl (by decide) rfl (fun ls hl => ?_)
                                    refine lv_iload hx hb dX4_head_257 (lv_at hl 0 rfl) ?_
                                    refine lv_if_eq (tgt := 276) hx hb dX4_head_259 (by decide) (fun c_259 => ?_) (fun c_259 => ?_)
                                    · have c_259 : tw cd (6 + (4 * i) + 2) = 0 := (nZ_eq (by omega)).mp c_259
                                      refine lv_iload hx hb dX4_head_276 (lv_at hl 2 rfl) ?_
                                      refine lv_iconst (v := (nI 2)) hx hb dX4_head_278 (by decide) ?_
                                      refine lv_iadd hx hb dX4_head_279 ?_
                                      refine tpi (nI_add _ _) ?_
                                      have hS9 : hdS cs cd = some (6 + (4 * i) + 2) := by rw [hv, hdB_s (by omega), if_neg (by omega), if_neg (by omega), if_neg (by omega), if_pos (by omega)]
                                      exact W.iret (v := (nI (6 + (4 * i) + 2))) hx hb hr (fun t ht hW => ⟨⟨(nI (6 + (4 * i) + 2)), (va_up ks 4 (tw cd 0), va_up kt 4 (tw cd 2), va_up ku 4 (tw cd 4), g, h), rfl, ⟨by rw [hS9], fun j hj => ⟨va_up_ne _ _ hj, va_up_ne _ _ hj, va_up_ne _ _ hj⟩, hgk, fun j => ⟨up_lt bks (by omega) j, up_lt bkt (by omega) j, up_lt bku (by omega) j, (hgb j).1, (hgb j).2⟩, fun q => by rw [hS9] at q; cases q⟩, by rw [ht]; exact hP, va_K.moved hW.alike hK, hD⟩, hS.F ht⟩) hS.2.2 dX4_head_280
                                    · have c_259 : ¬ tw cd (6 + (4 * i) + 2) = 0 := fun q => c_259 ((nZ_eq (by omega)).mpr q)
                                      refine lv_iload hx hb dX4_head_262 (lv_at hl 1 rfl) ?_
                                      refine lv_iload hx hb dX4_head_264 (lv_at hl 0 rfl) ?_
                                      refine lv_iadd hx hb dX4_head_266 ?_
                                      refine tpi (nI_add _ _) ?_
                                      refine lv_aload_n hx hb dX4_head_267 rfl (lv_at hl 6 rfl) ?_
                                      refine va_get (D := (dC, dI)) (ci := 4) (v := .ref (a 5)) (C := RX4) (T := TX4) (N := 18) hx hb hts in_X4 hown hK hP 0 rfl rfl 8 (by decide) lk_2 (fun _ h9 => h9) rfl dX4_head_268 ?_
                                      refine lv_iload_n hx hb dX4_head_271 rfl (lv_at hl 5 rfl) ?_
                                      refine va_iald hx hb hK hP 5 0 rfl rfl (vp_in_nI (by omega) (by omega)) dX4_head_272 ?_
                                      refine tpi (nf_at (by omega)) ?_
                                      refine tpi (congrArg nI (va_up_self _ _ _)) ?_
                                      refine lv_icmp_le (tgt := 281) hx hb dX4_head_273 (by decide) (fun c_273 => ?_) (fun c_273 => ?_)
                                      · have c_273 : tw cd (6 + (4 * i)) + (tw cd (6 + (4 * i) + 2)) ≤ tw cd 0 := (nI_leI (a := tw cd (6 + (4 * i)) + (tw cd (6 + (4 * i) + 2))) (b := tw cd 0) (by omega) (by omega)).mp c_273
                                        refine lv_aload_n hx hb dX4_head_281 rfl (lv_at hl 6 rfl) ?_
                                        refine va_get (D := (dC, dI)) (ci := 4) (v := .ref (a 8)) (C := RX4) (T := TX4) (N := 18) hx hb hts in_X4 hown hK hP 0 rfl rfl 11 (by decide) lk_5 (fun _ h9 => h9) rfl dX4_head_282 ?_
                                        refine lv_bipush (v := (nI 64)) hx hb dX4_head_285 (by decide) ?_
                                        refine lv_iload_n hx hb dX4_head_287 rfl (lv_at hl 5 rfl) ?_
                                        refine lv_imul hx hb dX4_head_288 ?_
                                        refine tpi (pk_mul _ _) ?_
                                        refine lv_iload_n hx hb dX4_head_289 rfl (lv_at hl 3 rfl) ?_
                                        refine lv_iadd hx hb dX4_head_290 ?_
                                        refine tpi (nI_add _ _) ?_
                                        refine lv_iload hx hb dX4_head_291 (lv_at hl 1 rfl) ?_
                                        refine va_iast hx hb hK hP hD hS 8 0 rfl rfl (vp_in_nI (by omega) (by omega)) dX4_head_293 (fun H locs hP hD hS => ?_)
                                        rw [nf_up (by omega)] at hP hD
                                        have hP : va_P (dC, dI) vwCl (mw cI a sz st us kp ga gl cs mem pl ln km (va_up ks 4 (tw cd 0)) (va_up kt 4 (tw cd 2)) (va_up ku 4 (tw cd 4)) (va_up g (256 + i) (tw cd (6 + (4 * i)))) h cd wt) H := hP
                                        have hD : va_D A (mw cI a sz st us kp ga gl cs mem pl ln km (va_up ks 4 (tw cd 0)) (va_up kt 4 (tw cd 2)) (va_up ku 4 (tw cd 4)) (va_up g (256 + i) (tw cd (6 + (4 * i)))) h cd wt) := hD
                                        refine lv_aload_n hx hb dX4_head_294 rfl (lv_at hl 6 rfl) ?_
                                        refine va_get (D := (dC, dI)) (ci := 4) (v := .ref (a 9)) (C := RX4) (T := TX4) (N := 18) hx hb hts in_X4 hown hK hP 0 rfl rfl 12 (by decide) lk_6 (fun _ h9 => h9) rfl dX4_head_295 ?_
                                        refine lv_bipush (v := (nI 64)) hx hb dX4_head_298 (by decide) ?_
                                        refine lv_iload_n hx hb dX4_head_300 rfl (lv_at hl 5 rfl) ?_
                                        refine lv_imul hx hb dX4_head_301 ?_
                                        refine tpi (pk_mul _ _) ?_
                                        refine lv_iload_n hx hb dX4_head_302 rfl (lv_at hl 3 rfl) ?_
                                        refine lv_iadd hx hb dX4_head_303 ?_
                                        refine tpi (nI_add _ _) ?_
                                        refine lv_iload hx hb dX4_head_304 (lv_at hl 0 rfl) ?_
                                        refine va_iast hx hb hK hP hD hS 9 0 rfl rfl (vp_in_nI (by omega) (by omega)) dX4_head_306 (fun H locs hP hD hS => ?_)
                                        rw [nf_up (by omega)] at hP hD
                                        have hP : va_P (dC, dI) vwCl (mw cI a sz st us kp ga gl cs mem pl ln km (va_up ks 4 (tw cd 0)) (va_up kt 4 (tw cd 2)) (va_up ku 4 (tw cd 4)) (va_up g (256 + i) (tw cd (6 + (4 * i)))) (va_up h (256 + i) (tw cd (6 + (4 * i) + 2))) cd wt) H := hP
                                        have hD : va_D A (mw cI a sz st us kp ga gl cs mem pl ln km (va_up ks 4 (tw cd 0)) (va_up kt 4 (tw cd 2)) (va_up ku 4 (tw cd 4)) (va_up g (256 + i) (tw cd (6 + (4 * i)))) (va_up h (256 + i) (tw cd (6 + (4 * i) + 2))) cd wt) := hD
                                        refine lv_iload hx hb dX4_head_307 (lv_at hl 1 rfl) ?_
                                        refine lv_iload hx hb dX4_head_309 (lv_at hl 0 rfl) ?_
                                        refine lv_iadd hx hb dX4_head_311 ?_
                                        refine tpi (nI_add _ _) ?_
                                        refine lv_istore_n (lv' := [(2, .int (nI (tw cd (6 + (4 * i)) + (tw cd (6 + (4 * i) + 2))))), (6, .int (nI (tw cd (6 + (4 * i) + 2)))), (5, .int (nI (tw cd (6 + (4 * i))))), (4, .int (nI (6 + (4 * i)))), (3, .int (nI i)), (1, .int (nI 4)), (0, .ref (a 0))]) hx hb dX4_head_312 rfl hl (by decide) rfl (fun ls hl => ?_)
                                        refine lv_iinc (v := (nI (i + 1))) (lv' := [(3, .int (nI (i + 1))), (2, .int (nI (tw cd (6 + (4 * i)) + (tw cd (6 + (4 * i) + 2))))), (6, .int (nI (tw cd (6 + (4 * i) + 2)))), (5, .int (nI (tw cd (6 + (4 * i))))), (4, .int (nI (6 + (4 * i)))), (1, .int (nI 4)), (0, .ref (a 0))]) hx hb dX4_head_313 hl (k := 4) rfl (nI_inc _) (by decide) rfl (fun ls hl => ?_)
                                        refine lv_goto (tgt := 180) hx hb dX4_head_316 (by decide) ?_
                                        exact ih_180 (i + 1, tw cd (6 + (4 * i)) + (tw cd (6 + (4 * i) + 2)), va_up g (256 + i) (tw cd (6 + (4 * i))), va_up h (256 + i) (tw cd (6 + (4 * i) + 2))) (⟨by omega, by rw [hv, hdB_s (by omega), if_neg (by omega), if_neg (by omega), if_neg (by omega), if_neg (by omega)], fun j hj => ⟨by rw [va_up_ne _ _ (by omega)]; exact (hgk j hj).1, by rw [va_up_ne _ _ (by omega)]; exact (hgk j hj).2⟩, lt_s (fun j hj => ⟨by rw [va_up_ne _ _ (by omega)]; exact (hgd j hj).1, by rw [va_up_ne _ _ (by omega)]; exact (hgd j hj).2⟩) ⟨va_up_self _ _ _, va_up_self _ _ _⟩, fun j => ⟨up_lt (fun j => (hgb j).1) (by omega) j, up_lt (fun j => (hgb j).2) (by omega) j⟩, by omega⟩) (show tw cd 4 - (i + 1) < tw cd 4 - i by omega) H locs ls (hP) (hD) hS (lv_sub hl [0, 1, 5, 6] rfl)
                                      · have c_273 : ¬ tw cd (6 + (4 * i)) + (tw cd (6 + (4 * i) + 2)) ≤ tw cd 0 := fun q => c_273 ((nI_leI (a := tw cd (6 + (4 * i)) + (tw cd (6 + (4 * i) + 2))) (b := tw cd 0) (by omega) (by omega)).mpr q)
                                        refine lv_iload hx hb dX4_head_276 (lv_at hl 2 rfl) ?_
                                        refine lv_iconst (v := (nI 2)) hx hb dX4_head_278 (by decide) ?_
                                        refine lv_iadd hx hb dX4_head_279 ?_
                                        refine tpi (nI_add _ _) ?_
                                        have hS9 : hdS cs cd = some (6 + (4 * i) + 2) := by rw [hv, hdB_s (by omega), if_neg (by omega), if_neg (by omega), if_neg (by omega), if_pos (by omega)]
                                        exact W.iret (v := (nI (6 + (4 * i) + 2))) hx hb hr (fun t ht hW => ⟨⟨(nI (6 + (4 * i) + 2)), (va_up ks 4 (tw cd 0), va_up kt 4 (tw cd 2), va_up ku 4 (tw cd 4), g, h), rfl, ⟨by rw [hS9], fun j hj => ⟨va_up_ne _ _ hj, va_up_ne _ _ hj, va_up_ne _ _ hj⟩, hgk, fun j => ⟨up_lt bks (by omega) j, up_lt bkt (by omega) j, up_lt bku (by omega) j, (hgb j).1, (hgb j).2⟩, fun q => by rw [hS9] at q; cases q⟩, by rw [ht]; exact hP, va_K.moved hW.alike hK, hD⟩, hS.F ht⟩) hS.2.2 dX4_head_280
                                  · have c_239 : ¬ 6 + (4 * i) + 4 ≤ cs := fun q => c_239 ((nI_leI (a := 6 + (4 * i) + 4) (b := cs) (by omega) (by omega)).mpr q)
                                    refine lv_aload_n hx hb dX4_head_242 rfl (lv_at hl 5 rfl) ?_
                                    refine va_get (D := (dC, dI)) (ci := 4) (v := .int (nI cs)) (C := RX4) (T := TX4) (N := 18) hx hb hts in_X4 hown hK hP 0 rfl rfl 16 (by decide) lk_1 (fun _ h9 => h9) rfl dX4_head_243 ?_
                                    have hS9 : hdS cs cd = some (cs) := by rw [hv, hdB_s (by omega), if_neg (by omega), if_neg (by omega), if_pos (by omega)]
                                    exact W.iret (v := (nI cs)) hx hb hr (fun t ht hW => ⟨⟨(nI cs), (va_up ks 4 (tw cd 0), va_up kt 4 (tw cd 2), va_up ku 4 (tw cd 4), g, h), rfl, ⟨by rw [hS9], fun j hj => ⟨va_up_ne _ _ hj, va_up_ne _ _ hj, va_up_ne _ _ hj⟩, hgk, fun j => ⟨up_lt bks (by omega) j, up_lt bkt (by omega) j, up_lt bku (by omega) j, (hgb j).1, (hgb j).2⟩, fun q => by rw [hS9] at q; cases q⟩, by rw [ht]; exact hP, va_K.moved hW.alike hK, hD⟩, hS.F ht⟩) hS.2.2 dX4_head_246
                                · have c_225 : ¬ en ≤ tw cd (6 + (4 * i)) := fun q => c_225 ((nI_leI (a := en) (b := tw cd (6 + (4 * i))) (by omega) (by omega)).mpr q)
                                  refine lv_iload hx hb dX4_head_228 (lv_at hl 1 rfl) ?_
                                  have hS9 : hdS cs cd = some (6 + (4 * i)) := by rw [hv, hdB_s (by omega), if_neg (by omega), if_pos (by omega)]
                                  exact W.iret (v := (nI (6 + (4 * i)))) hx hb hr (fun t ht hW => ⟨⟨(nI (6 + (4 * i))), (va_up ks 4 (tw cd 0), va_up kt 4 (tw cd 2), va_up ku 4 (tw cd 4), g, h), rfl, ⟨by rw [hS9], fun j hj => ⟨va_up_ne _ _ hj, va_up_ne _ _ hj, va_up_ne _ _ hj⟩, hgk, fun j => ⟨up_lt bks (by omega) j, up_lt bkt (by omega) j, up_lt bku (by omega) j, (hgb j).1, (hgb j).2⟩, fun q => by rw [hS9] at q; cases q⟩, by rw [ht]; exact hP, va_K.moved hW.alike hK, hD⟩, hS.F ht⟩) hS.2.2 dX4_head_230
                              · have c_206 : ¬ 6 + (4 * i) + 2 ≤ cs := fun q => c_206 ((nI_leI (a := 6 + (4 * i) + 2) (b := cs) (by omega) (by omega)).mpr q)
                                refine lv_aload_n hx hb dX4_head_209 rfl (lv_at hl 4 rfl) ?_
                                refine va_get (D := (dC, dI)) (ci := 4) (v := .int (nI cs)) (C := RX4) (T := TX4) (N := 18) hx hb hts in_X4 hown hK hP 0 rfl rfl 16 (by decide) lk_1 (fun _ h9 => h9) rfl dX4_head_210 ?_
                                have hS9 : hdS cs cd = some (cs) := by rw [hv, hdB_s (by omega), if_pos (by omega)]
                                exact W.iret (v := (nI cs)) hx hb hr (fun t ht hW => ⟨⟨(nI cs), (va_up ks 4 (tw cd 0), va_up kt 4 (tw cd 2), va_up ku 4 (tw cd 4), g, h), rfl, ⟨by rw [hS9], fun j hj => ⟨va_up_ne _ _ hj, va_up_ne _ _ hj, va_up_ne _ _ hj⟩, hgk, fun j => ⟨up_lt bks (by omega) j, up_lt bkt (by omega) j, up_lt bku (by omega) j, (hgb j).1, (hgb j).2⟩, fun q => by rw [hS9] at q; cases q⟩, by rw [ht]; exact hP, va_K.moved hW.alike hK, hD⟩, hS.F ht⟩) hS.2.2 dX4_head_213
                          · exact absurd c_166 (by decide)
                  · have c_108 : ¬ 6 ≤ cs := fun q => c_108 ((nI_leI (a := 6) (b := cs) (by omega) (by omega)).mpr q)
                    refine lv_aload_n hx hb dX4_head_111 rfl (lv_at hl 1 rfl) ?_
                    refine va_get (D := (dC, dI)) (ci := 4) (v := .int (nI cs)) (C := RX4) (T := TX4) (N := 18) hx hb hts in_X4 hown hK hP 0 rfl rfl 16 (by decide) lk_1 (fun _ h9 => h9) rfl dX4_head_112 ?_
                    have hS9 : hdS cs cd = some (cs) := by unfold hdS; rw [if_neg (by omega), if_neg (fun q => q hc_32), if_neg (by omega), if_neg (fun q => q.2.elim (fun q => q hc_79) (fun q => q (by omega))), if_pos (by omega)]
                    exact W.iret (v := (nI cs)) hx hb hr (fun t ht hW => ⟨⟨(nI cs), (va_up ks 4 (tw cd 0), va_up kt 4 (tw cd 2), ku, kl, kn), rfl, ⟨by rw [hS9], fun j hj => ⟨va_up_ne _ _ hj, va_up_ne _ _ hj, rfl⟩, fun j hj => ⟨rfl, rfl⟩, fun j => ⟨up_lt bks (by omega) j, up_lt bkt (by omega) j, bku j, bkl j, bkn j⟩, fun q => by rw [hS9] at q; cases q⟩, by rw [ht]; exact hP, va_K.moved hW.alike hK, hD⟩, hS.F ht⟩) hS.2.2 dX4_head_115
                · have c_97 : ¬ tw cd 2 < tw cd 0 := fun q => c_97 ((nI_ltI (a := tw cd 2) (b := tw cd 0) (by omega) (by omega)).mpr q)
                  refine lv_iconst (v := (nI 2)) hx hb dX4_head_100 (by decide) ?_
                  have hS9 : hdS cs cd = some (2) := by unfold hdS; rw [if_neg (by omega), if_neg (fun q => q hc_32), if_neg (by omega), if_pos ⟨c_70, Or.inr (by omega)⟩]
                  exact W.iret (v := (nI 2)) hx hb hr (fun t ht hW => ⟨⟨(nI 2), (va_up ks 4 (tw cd 0), va_up kt 4 (tw cd 2), ku, kl, kn), rfl, ⟨by rw [hS9], fun j hj => ⟨va_up_ne _ _ hj, va_up_ne _ _ hj, rfl⟩, fun j hj => ⟨rfl, rfl⟩, fun j => ⟨up_lt bks (by omega) j, up_lt bkt (by omega) j, bku j, bkl j, bkn j⟩, fun q => by rw [hS9] at q; cases q⟩, by rw [ht]; exact hP, va_K.moved hW.alike hK, hD⟩, hS.F ht⟩) hS.2.2 dX4_head_101
            · skip
              refine lv_if_eq (tgt := 100) hx hb dX4_head_82 (by decide) (fun c_82 => ?_) (fun c_82 => ?_)
              · have c_82 : 0 = 0 := (nZ_eq (by omega)).mp c_82
                refine lv_iconst (v := (nI 2)) hx hb dX4_head_100 (by decide) ?_
                have hS9 : hdS cs cd = some (2) := by unfold hdS; rw [if_neg (by omega), if_neg (fun q => q hc_32), if_neg (by omega), if_pos ⟨c_70, Or.inl hc_79⟩]
                exact W.iret (v := (nI 2)) hx hb hr (fun t ht hW => ⟨⟨(nI 2), (va_up ks 4 (tw cd 0), va_up kt 4 (tw cd 2), ku, kl, kn), rfl, ⟨by rw [hS9], fun j hj => ⟨va_up_ne _ _ hj, va_up_ne _ _ hj, rfl⟩, fun j hj => ⟨rfl, rfl⟩, fun j => ⟨up_lt bks (by omega) j, up_lt bkt (by omega) j, bku j, bkl j, bkn j⟩, fun q => by rw [hS9] at q; cases q⟩, by rw [ht]; exact hP, va_K.moved hW.alike hK, hD⟩, hS.F ht⟩) hS.2.2 dX4_head_101
              · exact absurd c_82 (by decide)
        · have c_45 : ¬ 4 ≤ cs := fun q => c_45 ((nI_leI (a := 4) (b := cs) (by omega) (by omega)).mpr q)
          refine lv_aload_n hx hb dX4_head_48 rfl (lv_at hl 1 rfl) ?_
          refine va_get (D := (dC, dI)) (ci := 4) (v := .int (nI cs)) (C := RX4) (T := TX4) (N := 18) hx hb hts in_X4 hown hK hP 0 rfl rfl 16 (by decide) lk_1 (fun _ h9 => h9) rfl dX4_head_49 ?_
          have hS9 : hdS cs cd = some (cs) := by unfold hdS; rw [if_neg (by omega), if_neg (fun q => q hc_32), if_pos (by omega)]
          exact W.iret (v := (nI cs)) hx hb hr (fun t ht hW => ⟨⟨(nI cs), (va_up ks 4 (tw cd 0), kt, ku, kl, kn), rfl, ⟨by rw [hS9], fun j hj => ⟨va_up_ne _ _ hj, rfl, rfl⟩, fun j hj => ⟨rfl, rfl⟩, fun j => ⟨up_lt bks (by omega) j, bkt j, bku j, bkl j, bkn j⟩, fun q => by rw [hS9] at q; cases q⟩, by rw [ht]; exact hP, va_K.moved hW.alike hK, hD⟩, hS.F ht⟩) hS.2.2 dX4_head_52
      · exact absurd c_35 (by decide)
    · skip
      refine lv_if_ne (tgt := 40) hx hb dX4_head_35 (by decide) (fun c_35 => ?_) (fun c_35 => ?_)
      · exact absurd c_35 (by decide)
      · have c_35 : 0 = 0 := (nZ_eq (by omega)).mp c_35
        refine lv_iconst (v := (nI 0)) hx hb dX4_head_38 (by decide) ?_
        have hS9 : hdS cs cd = some (0) := by unfold hdS; rw [if_neg (by omega), if_pos hc_32]
        exact W.iret (v := (nI 0)) hx hb hr (fun t ht hW => ⟨⟨(nI 0), (va_up ks 4 (tw cd 0), kt, ku, kl, kn), rfl, ⟨by rw [hS9], fun j hj => ⟨va_up_ne _ _ hj, rfl, rfl⟩, fun j hj => ⟨rfl, rfl⟩, fun j => ⟨up_lt bks (by omega) j, bkt j, bku j, bkl j, bkn j⟩, fun q => by rw [hS9] at q; cases q⟩, by rw [ht]; exact hP, va_K.moved hW.alike hK, hD⟩, hS.F ht⟩) hS.2.2 dX4_head_39
  · have c_7 : ¬ 2 ≤ cs := fun q => c_7 ((nI_leI (a := 2) (b := cs) (by omega) (by omega)).mpr q)
    refine lv_aload_n hx hb dX4_head_10 rfl (lv_at hl 1 rfl) ?_
    refine va_get (D := (dC, dI)) (ci := 4) (v := .int (nI cs)) (C := RX4) (T := TX4) (N := 18) hx hb hts in_X4 hown hK hP 0 rfl rfl 16 (by decide) lk_1 (fun _ h9 => h9) rfl dX4_head_11 ?_
    have hS9 : hdS cs cd = some (cs) := by unfold hdS; rw [if_pos (by omega)]
    exact W.iret (v := (nI cs)) hx hb hr (fun t ht hW => ⟨⟨(nI cs), (ks, kt, ku, kl, kn), rfl, ⟨by rw [hS9], fun j hj => ⟨rfl, rfl, rfl⟩, fun j hj => ⟨rfl, rfl⟩, fun j => ⟨bks j, bkt j, bku j, bkl j, bkn j⟩, fun q => by rw [hS9] at q; cases q⟩, by rw [ht]; exact hP, va_K.moved hW.alike hK, hD⟩, hS.F ht⟩) hS.2.2 dX4_head_14
