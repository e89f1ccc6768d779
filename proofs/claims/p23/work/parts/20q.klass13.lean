set_option maxHeartbeats 4000000 in
set_option maxRecDepth 100000 in
theorem c_X3_look (l : Launch) (dC : Nat → ClassId) (dI : Nat → Nat → Nat) (cB cI : ClassId) (h kq : Nat) (sp : Option Nat) (k o b : Nat → Nat) (kp : Nat) (ga : Nat) (gl : Nat) (kl : Nat) (kb : Nat → Nat) (oz : Nat) (cs : Nat) (cd : Nat → Nat) (sz : Nat) (st : Nat) (us : Nat) (mem : Nat → Nat) (pl : Nat → Nat) (ln : Nat → Nat) (z o9 : Nat) (g1 : z < 2 ^ 62) (go : o9 ≤ 7) (gk : kl ≤ 64) (g3 : sz ≤ 8192) (bmem : ∀ j, mem j < 256) (bkb : ∀ j, kb j < 256) : Met l yX3_look wsX3_look ({ frames := 1, cells := 0, slots := 0, locals := 24 }) (va_Pc [.ref h, .long (lN z), .int (nI o9)] (fun U => va_P (dC, dI) vwCl (gw h kq sp k o b kp ga gl ++ kw cB k kl kb ++ ow cB o oz cs cd ++ sw cB cI b sz st us mem pl ln) U.heap ∧ va_K (dC, dI) vwCl [(cI, .int), (cB, .byte)] U)) (vp_Si (fun r => (¬ z + kl ≤ sz ∧ r = (-12)) ∨ (z + kl ≤ sz ∧ cmpB mem z kb kl = 0 ∧ r = nI 1) ∨ (z + kl ≤ sz ∧ ¬ cmpB mem z kb kl = 0 ∧ (o9 / 2 % 2 = 1 ∧ allZ mem z kl) ∧ r = nI 2) ∨ (z + kl ≤ sz ∧ ¬ cmpB mem z kb kl = 0 ∧ ¬ (o9 / 2 % 2 = 1 ∧ allZ mem z kl) ∧ r = nI 3))) 0 0 (fun _ => False) := by
  refine Met.ofW (cc := cX3_look) (maxL := 5) (ret := (some .int)) (by decide) rfl ?_
  intro p e s m args below meth c s₁ B hml hv
  obtain ⟨rfl, hP, hK⟩ := hv
  have hx := B.exec
  have hb := B.bytes
  have hr := B.returns
  have hts := atoms_spec (ws := wsX3_look) B.pre
  have hown : s.vm.findClass RX3 = some m.cls := findClass_of_methodNamed B.named
  have hlocks := B.notSynchronized
  have in_X1 : ∀ w ∈ wsX10, w ∈ wsX3_look := fun _ h => List.mem_cons_of_mem _ (List.mem_append_left _ (List.mem_append_right _ (h)))
  have in_X3 : ∀ w ∈ wsX30, w ∈ wsX3_look := fun _ h => List.mem_cons_of_mem _ (List.mem_append_left _ (List.mem_append_left _ (List.mem_append_right _ (h))))
  have lk_1 := hts (.fieldLink RX3 30 "GlulxHeap" "now" "LGlulxHeap$State;") (List.mem_of_getElem? (i := 1) rfl)
  have lk_2 := hts (.fieldLink RX3 18 "GlulxHeap" "wanted" "LGlulxHeap$Key;") (List.mem_of_getElem? (i := 2) rfl)
  have lk_3 := hts (.fieldLink RX3 147 "GlulxHeap$Key" "length" "I") (List.mem_of_getElem? (i := 3) rfl)
  have hl := lv_entry ([.ref h, .long (lN z), .int (nI o9)]) (n := 5) (Nat.le_of_ble_eq_true rfl)
  rw [lg_entry_eq]
  generalize (lg_sl ([.ref h, .long (lN z), .int (nI o9)]) ++ List.replicate (5 - (lg_sl ([.ref h, .long (lN z), .int (nI o9)])).length) Slot.unset).toArray = ls at hl ⊢
  have hl : lv_has ls 5 [(0, .ref h), (1, .long (lN z)), (3, .int (nI o9))] := hl
  refine lv_aload_n hx hb dX3_look_0 rfl (lv_at hl 0 rfl) ?_
  refine va_get (D := (dC, dI)) (ci := 3) (v := .ref (b 0)) (C := RX3) (T := TX3) (N := 8) hx hb hts in_X3 hown hK hP 0 rfl rfl 3 (by decide) lk_1 (fun _ h9 => h9) rfl dX3_look_1 ?_
  refine lv_lload_n hx hb dX3_look_4 rfl (lv_at hl 1 rfl) ?_
  refine lv_aload_n hx hb dX3_look_5 rfl (lv_at hl 0 rfl) ?_
  refine va_get (D := (dC, dI)) (ci := 3) (v := .ref (k 0)) (C := RX3) (T := TX3) (N := 8) hx hb hts in_X3 hown hK hP 0 rfl rfl 1 (by decide) lk_2 (fun _ h9 => h9) rfl dX3_look_6 ?_
  refine va_get (D := (dC, dI)) (ci := 1) (v := .int (nI kl)) (C := RX1) (T := TX1) (N := 2) hx hb hts in_X1 hown hK hP 1 rfl rfl 1 (by decide) lk_3 (fun _ h9 => h9) rfl dX3_look_9 ?_
  have hPc := hP.sub (ws' := sw cB cI b sz st us mem pl ln) [5, 6, 7, 8] rfl
  have hKc := hK.sub (tys' := [(cI, .int), (cB, .byte)]) [0, 1] rfl
  refine vp_callSi (W.runV (As := [.long (lN z), .int (nI kl)]) (rest := []) ⟨hx, hb, hml, hown, hts⟩ (c_X2_has l dC dI cB cI b sz st us mem pl ln z kl (by omega) (by omega) (by omega)) (cwV 2 hts gX3_look_X2_has rfl rfl rfl (by decide +kernel) ⟨Nat.le_of_ble_eq_true rfl, Nat.le_of_ble_eq_true rfl⟩) ⟨fun a9 U g9 mk9 q9 => by obtain ⟨q0, qP, qK⟩ := q9; exact ⟨q0, qP, va_K.moved (u := U) (U := U.calling g9 mk9 a9) (Vm.Alike.refl U.vm) qK⟩, va_recv hKc hPc (ci := 2) (q0 := 0) rfl rfl, fun U hU hW => ⟨rfl, by rw [hU]; exact hPc, va_K.moved hW.alike hKc⟩⟩ rfl rfl hl.1 rfl (lv_room (Nat.le_of_ble_eq_true rfl)) dX3_look_12 ⟨Nat.zero_le _, Nat.zero_le _⟩) (fun r_12 hw => ?_)
  try dsimp only at hw
  rcases hw with ⟨hc_12, rfl⟩ | ⟨hc_12, rfl⟩
  · skip
    refine lv_if_ne (tgt := 21) hx hb dX3_look_15 (by decide) (fun c_15 => ?_) (fun c_15 => ?_)
    · have c_15 : ¬ 1 = 0 := fun q => c_15 ((nZ_eq (by omega)).mpr q)
      refine lv_aload_n hx hb dX3_look_21 rfl (lv_at hl 0 rfl) ?_
      refine va_get (D := (dC, dI)) (ci := 3) (v := .ref (k 0)) (C := RX3) (T := TX3) (N := 8) hx hb hts in_X3 hown hK hP 0 rfl rfl 1 (by decide) lk_2 (fun _ h9 => h9) rfl dX3_look_22 ?_
      refine lv_aload_n hx hb dX3_look_25 rfl (lv_at hl 0 rfl) ?_
      refine va_get (D := (dC, dI)) (ci := 3) (v := .ref (b 0)) (C := RX3) (T := TX3) (N := 8) hx hb hts in_X3 hown hK hP 0 rfl rfl 3 (by decide) lk_1 (fun _ h9 => h9) rfl dX3_look_26 ?_
      refine lv_lload_n hx hb dX3_look_29 rfl (lv_at hl 1 rfl) ?_
      refine lv_l2i (v := nI z) hx hb dX3_look_30 (lN_i _) ?_
      have hPc := hP.sub (ws' := kw cB k kl kb ++ sw cB cI b sz st us mem pl ln) [1, 2, 5, 6, 7, 8] rfl
      have hKc := hK.sub (tys' := [(cI, .int), (cB, .byte)]) [0, 1] rfl
      refine vp_callSi (W.runV (As := [.ref (b 0), .int (nI z)]) (rest := []) ⟨hx, hb, hml, hown, hts⟩ (c_X1_orderOf l dC dI cB cI k b kl kb sz st us mem pl ln z (by omega) (by omega) bmem bkb) (cwV 2 hts gX3_look_X1_orderOf rfl rfl rfl (by decide +kernel) ⟨Nat.le_of_ble_eq_true rfl, Nat.le_of_ble_eq_true rfl⟩) ⟨fun a9 U g9 mk9 q9 => by obtain ⟨q0, qP, qK⟩ := q9; exact ⟨q0, qP, va_K.moved (u := U) (U := U.calling g9 mk9 a9) (Vm.Alike.refl U.vm) qK⟩, va_recv hKc hPc (ci := 1) (q0 := 0) rfl rfl, fun U hU hW => ⟨rfl, by rw [hU]; exact hPc, va_K.moved hW.alike hKc⟩⟩ rfl rfl hl.1 rfl (lv_room (Nat.le_of_ble_eq_true rfl)) dX3_look_31 ⟨Nat.zero_le _, Nat.zero_le _⟩) (fun r_31 hw => ?_)
      try dsimp only at hw
      rcases hw with ⟨hc_31, rfl⟩ | ⟨hc_31, hs_31⟩ | ⟨hc_31, hs_31⟩
      · skip
        refine lv_if_ne (tgt := 39) hx hb dX3_look_34 (by decide) (fun c_34 => ?_) (fun c_34 => ?_)
        · exact absurd c_34 (by decide)
        · have c_34 : 0 = 0 := (nZ_eq (by omega)).mp c_34
          refine lv_iconst (v := (nI 1)) hx hb dX3_look_37 (by decide) ?_
          exact W.iret (v := (nI 1)) hx hb hr (fun t ht hW => ⟨(nI 1), rfl, Or.inr (Or.inl ⟨by omega, hc_31, rfl⟩), ht⟩) (fun _ h9 => absurd h9 List.not_mem_nil) dX3_look_38
      · skip
        refine lv_if_ne (tgt := 39) hx hb dX3_look_34 (by decide) (fun c_34 => ?_) (fun c_34 => ?_)
        · refine lv_iload_n hx hb dX3_look_39 rfl (lv_at hl 2 rfl) ?_
          refine lv_iconst (v := (nI 2)) hx hb dX3_look_40 (by decide) ?_
          refine lv_iand hx hb dX3_look_41 ?_
          refine tpi (and2 (by omega)) ?_
          refine lv_if_eq (tgt := 68) hx hb dX3_look_42 (by decide) (fun c_42 => ?_) (fun c_42 => ?_)
          · have c_42 : o9 / 2 % 2 * 2 = 0 := (nZ_eq (by omega)).mp c_42
            refine lv_iconst (v := (nI 0)) hx hb dX3_look_68 (by decide) ?_
            refine lv_istore (lv' := [(4, .int (nI 0)), (0, .ref h), (1, .long (lN z)), (3, .int (nI o9))]) hx hb dX3_look_69 hl (by decide) rfl (fun ls hl => ?_)
            refine lv_iload hx hb dX3_look_71 (lv_at hl 0 rfl) ?_
            refine lv_if_eq (tgt := 80) hx hb dX3_look_73 (by decide) (fun c_73 => ?_) (fun c_73 => ?_)
            · have c_73 : 0 = 0 := (nZ_eq (by omega)).mp c_73
              refine lv_iconst (v := (nI 3)) hx hb dX3_look_80 (by decide) ?_
              exact W.iret (v := (nI 3)) hx hb hr (fun t ht hW => ⟨(nI 3), rfl, Or.inr (Or.inr (Or.inr ⟨by omega, by rw [hc_31]; decide, fun q => absurd q.1 (by omega), rfl⟩)), ht⟩) (fun _ h9 => absurd h9 List.not_mem_nil) dX3_look_81
            · exact absurd c_73 (by decide)
          · have c_42 : ¬ o9 / 2 % 2 * 2 = 0 := fun q => c_42 ((nZ_eq (by omega)).mpr q)
            refine lv_aload_n hx hb dX3_look_45 rfl (lv_at hl 0 rfl) ?_
            refine va_get (D := (dC, dI)) (ci := 3) (v := .ref (b 0)) (C := RX3) (T := TX3) (N := 8) hx hb hts in_X3 hown hK hP 0 rfl rfl 3 (by decide) lk_1 (fun _ h9 => h9) rfl dX3_look_46 ?_
            refine lv_lload_n hx hb dX3_look_49 rfl (lv_at hl 1 rfl) ?_
            refine lv_l2i (v := nI z) hx hb dX3_look_50 (lN_i _) ?_
            refine lv_aload_n hx hb dX3_look_51 rfl (lv_at hl 0 rfl) ?_
            refine va_get (D := (dC, dI)) (ci := 3) (v := .ref (k 0)) (C := RX3) (T := TX3) (N := 8) hx hb hts in_X3 hown hK hP 0 rfl rfl 1 (by decide) lk_2 (fun _ h9 => h9) rfl dX3_look_52 ?_
            refine va_get (D := (dC, dI)) (ci := 1) (v := .int (nI kl)) (C := RX1) (T := TX1) (N := 2) hx hb hts in_X1 hown hK hP 1 rfl rfl 1 (by decide) lk_3 (fun _ h9 => h9) rfl dX3_look_55 ?_
            have hPc := hP.sub (ws' := sw cB cI b sz st us mem pl ln) [5, 6, 7, 8] rfl
            have hKc := hK.sub (tys' := [(cI, .int), (cB, .byte)]) [0, 1] rfl
            refine vp_callSi (W.runV (As := [.int (nI z), .int (nI kl)]) (rest := []) ⟨hx, hb, hml, hown, hts⟩ (c_X2_allZero l dC dI cB cI b sz st us mem pl ln z kl (by omega) bmem) (cwV 2 hts gX3_look_X2_allZero rfl rfl rfl (by decide +kernel) ⟨Nat.le_of_ble_eq_true rfl, Nat.le_of_ble_eq_true rfl⟩) ⟨fun a9 U g9 mk9 q9 => by obtain ⟨q0, qP, qK⟩ := q9; exact ⟨q0, qP, va_K.moved (u := U) (U := U.calling g9 mk9 a9) (Vm.Alike.refl U.vm) qK⟩, va_recv hKc hPc (ci := 2) (q0 := 0) rfl rfl, fun U hU hW => ⟨rfl, by rw [hU]; exact hPc, va_K.moved hW.alike hKc⟩⟩ rfl rfl hl.1 rfl (lv_room (Nat.le_of_ble_eq_true rfl)) dX3_look_58 ⟨Nat.zero_le _, Nat.zero_le _⟩) (fun r_58 hw => ?_)
            try dsimp only at hw
            rcases hw with ⟨hc_58, rfl⟩ | ⟨hc_58, rfl⟩
            · skip
              refine lv_if_eq (tgt := 68) hx hb dX3_look_61 (by decide) (fun c_61 => ?_) (fun c_61 => ?_)
              · exact absurd c_61 (by decide)
              · have c_61 : ¬ 1 = 0 := fun q => c_61 ((nZ_eq (by omega)).mpr q)
                refine lv_iconst (v := (nI 1)) hx hb dX3_look_64 (by decide) ?_
                refine lv_goto (tgt := 69) hx hb dX3_look_65 (by decide) ?_
                refine lv_istore (lv' := [(4, .int (nI 1)), (0, .ref h), (1, .long (lN z)), (3, .int (nI o9))]) hx hb dX3_look_69 hl (by decide) rfl (fun ls hl => ?_)
                refine lv_iload hx hb dX3_look_71 (lv_at hl 0 rfl) ?_
                refine lv_if_eq (tgt := 80) hx hb dX3_look_73 (by decide) (fun c_73 => ?_) (fun c_73 => ?_)
                · exact absurd c_73 (by decide)
                · have c_73 : ¬ 1 = 0 := fun q => c_73 ((nZ_eq (by omega)).mpr q)
                  refine lv_iconst (v := (nI 2)) hx hb dX3_look_76 (by decide) ?_
                  refine lv_goto (tgt := 81) hx hb dX3_look_77 (by decide) ?_
                  exact W.iret (v := (nI 2)) hx hb hr (fun t ht hW => ⟨(nI 2), rfl, Or.inr (Or.inr (Or.inl ⟨by omega, by rw [hc_31]; decide, ⟨by omega, hc_58⟩, rfl⟩)), ht⟩) (fun _ h9 => absurd h9 List.not_mem_nil) dX3_look_81
            · skip
              refine lv_if_eq (tgt := 68) hx hb dX3_look_61 (by decide) (fun c_61 => ?_) (fun c_61 => ?_)
              · have c_61 : 0 = 0 := (nZ_eq (by omega)).mp c_61
                refine lv_iconst (v := (nI 0)) hx hb dX3_look_68 (by decide) ?_
                refine lv_istore (lv' := [(4, .int (nI 0)), (0, .ref h), (1, .long (lN z)), (3, .int (nI o9))]) hx hb dX3_look_69 hl (by decide) rfl (fun ls hl => ?_)
                refine lv_iload hx hb dX3_look_71 (lv_at hl 0 rfl) ?_
                refine lv_if_eq (tgt := 80) hx hb dX3_look_73 (by decide) (fun c_73 => ?_) (fun c_73 => ?_)
                · have c_73 : 0 = 0 := (nZ_eq (by omega)).mp c_73
                  refine lv_iconst (v := (nI 3)) hx hb dX3_look_80 (by decide) ?_
                  exact W.iret (v := (nI 3)) hx hb hr (fun t ht hW => ⟨(nI 3), rfl, Or.inr (Or.inr (Or.inr ⟨by omega, by rw [hc_31]; decide, fun q => hc_58 q.2, rfl⟩)), ht⟩) (fun _ h9 => absurd h9 List.not_mem_nil) dX3_look_81
                · exact absurd c_73 (by decide)
              · exact absurd c_61 (by decide)
        · skip
          exact absurd (c_34 ▸ hs_31) (by decide)
      · skip
        refine lv_if_ne (tgt := 39) hx hb dX3_look_34 (by decide) (fun c_34 => ?_) (fun c_34 => ?_)
        · refine lv_iload_n hx hb dX3_look_39 rfl (lv_at hl 2 rfl) ?_
          refine lv_iconst (v := (nI 2)) hx hb dX3_look_40 (by decide) ?_
          refine lv_iand hx hb dX3_look_41 ?_
          refine tpi (and2 (by omega)) ?_
          refine lv_if_eq (tgt := 68) hx hb dX3_look_42 (by decide) (fun c_42 => ?_) (fun c_42 => ?_)
          · have c_42 : o9 / 2 % 2 * 2 = 0 := (nZ_eq (by omega)).mp c_42
            refine lv_iconst (v := (nI 0)) hx hb dX3_look_68 (by decide) ?_
            refine lv_istore (lv' := [(4, .int (nI 0)), (0, .ref h), (1, .long (lN z)), (3, .int (nI o9))]) hx hb dX3_look_69 hl (by decide) rfl (fun ls hl => ?_)
            refine lv_iload hx hb dX3_look_71 (lv_at hl 0 rfl) ?_
            refine lv_if_eq (tgt := 80) hx hb dX3_look_73 (by decide) (fun c_73 => ?_) (fun c_73 => ?_)
            · have c_73 : 0 = 0 := (nZ_eq (by omega)).mp c_73
              refine lv_iconst (v := (nI 3)) hx hb dX3_look_80 (by decide) ?_
              exact W.iret (v := (nI 3)) hx hb hr (fun t ht hW => ⟨(nI 3), rfl, Or.inr (Or.inr (Or.inr ⟨by omega, by rw [hc_31]; decide, fun q => absurd q.1 (by omega), rfl⟩)), ht⟩) (fun _ h9 => absurd h9 List.not_mem_nil) dX3_look_81
            · exact absurd c_73 (by decide)
          · have c_42 : ¬ o9 / 2 % 2 * 2 = 0 := fun q => c_42 ((nZ_eq (by omega)).mpr q)
            refine lv_aload_n hx hb dX3_look_45 rfl (lv_at hl 0 rfl) ?_
            refine va_get (D := (dC, dI)) (ci := 3) (v := .ref (b 0)) (C := RX3) (T := TX3) (N := 8) hx hb hts in_X3 hown hK hP 0 rfl rfl 3 (by decide) lk_1 (fun _ h9 => h9) rfl dX3_look_46 ?_
            refine lv_lload_n hx hb dX3_look_49 rfl (lv_at hl 1 rfl) ?_
            refine lv_l2i (v := nI z) hx hb dX3_look_50 (lN_i _) ?_
            refine lv_aload_n hx hb dX3_look_51 rfl (lv_at hl 0 rfl) ?_
            refine va_get (D := (dC, dI)) (ci := 3) (v := .ref (k 0)) (C := RX3) (T := TX3) (N := 8) hx hb hts in_X3 hown hK hP 0 rfl rfl 1 (by decide) lk_2 (fun _ h9 => h9) rfl dX3_look_52 ?_
            refine va_get (D := (dC, dI)) (ci := 1) (v := .int (nI kl)) (C := RX1) (T := TX1) (N := 2) hx hb hts in_X1 hown hK hP 1 rfl rfl 1 (by decide) lk_3 (fun _ h9 => h9) rfl dX3_look_55 ?_
            have hPc := hP.sub (ws' := sw cB cI b sz st us mem pl ln) [5, 6, 7, 8] rfl
            have hKc := hK.sub (tys' := [(cI, .int), (cB, .byte)]) [0, 1] rfl
            refine vp_callSi (W.runV (As := [.int (nI z), .int (nI kl)]) (rest := []) ⟨hx, hb, hml, hown, hts⟩ (c_X2_allZero l dC dI cB cI b sz st us mem pl ln z kl (by omega) bmem) (cwV 2 hts gX3_look_X2_allZero rfl rfl rfl (by decide +kernel) ⟨Nat.le_of_ble_eq_true rfl, Nat.le_of_ble_eq_true rfl⟩) ⟨fun a9 U g9 mk9 q9 => by obtain ⟨q0, qP, qK⟩ := q9; exact ⟨q0, qP, va_K.moved (u := U) (U := U.calling g9 mk9 a9) (Vm.Alike.refl U.vm) qK⟩, va_recv hKc hPc (ci := 2) (q0 := 0) rfl rfl, fun U hU hW => ⟨rfl, by rw [hU]; exact hPc, va_K.moved hW.alike hKc⟩⟩ rfl rfl hl.1 rfl (lv_room (Nat.le_of_ble_eq_true rfl)) dX3_look_58 ⟨Nat.zero_le _, Nat.zero_le _⟩) (fun r_58 hw => ?_)
            try dsimp only at hw
            rcases hw with ⟨hc_58, rfl⟩ | ⟨hc_58, rfl⟩
            · skip
              refine lv_if_eq (tgt := 68) hx hb dX3_look_61 (by decide) (fun c_61 => ?_) (fun c_61 => ?_)
              · exact absurd c_61 (by decide)
              · have c_61 : ¬ 1 = 0 := fun q => c_61 ((nZ_eq (by omega)).mpr q)
                refine lv_iconst (v := (nI 1)) hx hb dX3_look_64 (by decide) ?_
                refine lv_goto (tgt := 69) hx hb dX3_look_65 (by decide) ?_
                refine lv_istore (lv' := [(4, .int (nI 1)), (0, .ref h), (1, .long (lN z)), (3, .int (nI o9))]) hx hb dX3_look_69 hl (by decide) rfl (fun ls hl => ?_)
                refine lv_iload hx hb dX3_look_71 (lv_at hl 0 rfl) ?_
                refine lv_if_eq (tgt := 80) hx hb dX3_look_73 (by decide) (fun c_73 => ?_) (fun c_73 => ?_)
                · exact absurd c_73 (by decide)
                · have c_73 : ¬ 1 = 0 := fun q => c_73 ((nZ_eq (by omega)).mpr q)
                  refine lv_iconst (v := (nI 2)) hx hb dX3_look_76 (by decide) ?_
                  refine lv_goto (tgt := 81) hx hb dX3_look_77 (by decide) ?_
                  exact W.iret (v := (nI 2)) hx hb hr (fun t ht hW => ⟨(nI 2), rfl, Or.inr (Or.inr (Or.inl ⟨by omega, by rw [hc_31]; decide, ⟨by omega, hc_58⟩, rfl⟩)), ht⟩) (fun _ h9 => absurd h9 List.not_mem_nil) dX3_look_81
            · skip
              refine lv_if_eq (tgt := 68) hx hb dX3_look_61 (by decide) (fun c_61 => ?_) (fun c_61 => ?_)
              · have c_61 : 0 = 0 := (nZ_eq (by omega)).mp c_61
                refine lv_iconst (v := (nI 0)) hx hb dX3_look_68 (by decide) ?_
                refine lv_istore (lv' := [(4, .int (nI 0)), (0, .ref h), (1, .long (lN z)), (3, .int (nI o9))]) hx hb dX3_look_69 hl (by decide) rfl (fun ls hl => ?_)
                refine lv_iload hx hb dX3_look_71 (lv_at hl 0 rfl) ?_
                refine lv_if_eq (tgt := 80) hx hb dX3_look_73 (by decide) (fun c_73 => ?_) (fun c_73 => ?_)
                · have c_73 : 0 = 0 := (nZ_eq (by omega)).mp c_73
                  refine lv_iconst (v := (nI 3)) hx hb dX3_look_80 (by decide) ?_
                  exact W.iret (v := (nI 3)) hx hb hr (fun t ht hW => ⟨(nI 3), rfl, Or.inr (Or.inr (Or.inr ⟨by omega, by rw [hc_31]; decide, fun q => hc_58 q.2, rfl⟩)), ht⟩) (fun _ h9 => absurd h9 List.not_mem_nil) dX3_look_81
                · exact absurd c_73 (by decide)
              · exact absurd c_61 (by decide)
        · skip
          exact absurd (c_34 ▸ hs_31) (by decide)
    · exact absurd c_15 (by decide)
  · skip
    refine lv_if_ne (tgt := 21) hx hb dX3_look_15 (by decide) (fun c_15 => ?_) (fun c_15 => ?_)
    · exact absurd c_15 (by decide)
    · have c_15 : 0 = 0 := (nZ_eq (by omega)).mp c_15
      refine lv_bipush (v := ((-12))) hx hb dX3_look_18 (by decide) ?_
      exact W.iret (v := ((-12))) hx hb hr (fun t ht hW => ⟨((-12)), rfl, Or.inl ⟨by omega, rfl⟩, ht⟩) (fun _ h9 => absurd h9 List.not_mem_nil) dX3_look_20
set_option maxHeartbeats 4000000 in
set_option maxRecDepth 100000 in
theorem c_X3_linear (l : Launch) (dC : Nat → ClassId) (dI : Nat → Nat → Nat) (cB cI : ClassId) (h kq : Nat) (sp : Option Nat) (k o b : Nat → Nat) (kp : Nat) (ga : Nat) (gl : Nat) (kl : Nat) (kb : Nat → Nat) (oz : Nat) (cs : Nat) (cd : Nat → Nat) (sz : Nat) (st : Nat) (us : Nat) (mem : Nat → Nat) (pl : Nat → Nat) (ln : Nat → Nat) (zz : Nat) (p1 p2 p3 p4 p5 p6 p7 : Int32) (bmem : ∀ j, mem j < 256) (bkb : ∀ j, kb j < 256) (g3 : sz ≤ 8192) : Met l yX3_linear wsX3_linear ({ frames := 2, cells := 0, slots := 0, locals := 65 }) (va_Pc [.ref h, .int p1, .int p2, .int p3, .int p4, .int p5, .int p6, .int p7] (fun U => U.heap.size = zz ∧ va_P (dC, dI) vwCl (gw h kq sp k o b kp ga gl ++ kw cB k kl kb ++ ow cB o oz cs cd ++ sw cB cI b sz st us mem pl ln) U.heap ∧ va_K (dC, dI) vwCl [(cI, .int), (cB, .byte)] U ∧ va_D (fun _ => True) (gw h kq sp k o b kp ga gl ++ kw cB k kl kb ++ ow cB o oz cs cd ++ sw cB cI b sz st us mem pl ln))) (va_Qi (fun r _ => r = lnR sz mem p1 p2 p3 p4 p5 p6 p7) (fun (_ : Unit) t => va_P (dC, dI) vwCl (gw h kq sp k o b kp ga gl ++ kw cB k (lnKl kl p2 p3 p4 p5 p6 p7) (lnW sz mem kb p1 p2 p3 p4 p5 p6 p7) ++ ow cB o oz cs cd ++ sw cB cI b sz st us mem pl ln) t.heap ∧ va_K (dC, dI) vwCl [(cI, .int), (cB, .byte)] t ∧ va_D (va_A (gw h kq sp k o b kp ga gl ++ kw cB k kl kb ++ ow cB o oz cs cd ++ sw cB cI b sz st us mem pl ln) zz) (gw h kq sp k o b kp ga gl ++ kw cB k (lnKl kl p2 p3 p4 p5 p6 p7) (lnW sz mem kb p1 p2 p3 p4 p5 p6 p7) ++ ow cB o oz cs cd ++ sw cB cI b sz st us mem pl ln)) (va_A (gw h kq sp k o b kp ga gl ++ kw cB k kl kb ++ ow cB o oz cs cd ++ sw cB cI b sz st us mem pl ln) zz)) 0 0 (va_A (gw h kq sp k o b kp ga gl ++ kw cB k kl kb ++ ow cB o oz cs cd ++ sw cB cI b sz st us mem pl ln) zz) := by
  refine Met.ofW (cc := cX3_linear) (maxL := 13) (ret := (some .int)) (by decide) rfl ?_
  intro p e s m args below meth c s₁ B hml hv
  obtain ⟨rfl, hsz, hP, hK, hD0⟩ := hv
  have hx := B.exec
  have hb := B.bytes
  have hr := B.returns
  have hts := atoms_spec (ws := wsX3_linear) B.pre
  have hown : s.vm.findClass RX3 = some m.cls := findClass_of_methodNamed B.named
  have hlocks := B.notSynchronized
  subst hsz
  have hD := hD0.self (sz := s.heap.size)
  generalize hAe : va_A (gw h kq sp k o b kp ga gl ++ kw cB k kl kb ++ ow cB o oz cs cd ++ sw cB cI b sz st us mem pl ln) s.heap.size = A at hD ⊢
  have hA : ∀ q : Nat, s.heap.size ≤ q → A q := fun q h => by rw [← hAe]; exact Or.inr h
  have hS : va_S A s.heap s.heap [] := va_S.rf
  have hP : va_P (dC, dI) vwCl (gw h kq sp k o b kp ga gl ++ kw cB k kl kb ++ ow cB o oz cs cd ++ sw cB cI b sz st us mem pl ln) s.heap := hP
  have in_X3 : ∀ w ∈ wsX30, w ∈ wsX3_linear := fun _ h => List.mem_cons_of_mem _ (List.mem_append_left _ (List.mem_append_left _ (List.mem_append_right _ (h))))
  have lk_1 := hts (.fieldLink RX3 18 "GlulxHeap" "wanted" "LGlulxHeap$Key;") (List.mem_of_getElem? (i := 1) rfl)
  have lk_2 := hts (.fieldLink RX3 30 "GlulxHeap" "now" "LGlulxHeap$State;") (List.mem_of_getElem? (i := 2) rfl)
  have lk_3 := hts (.methodLink RX3 125 Lib.Math.min.name) (List.mem_of_getElem? (i := 3) rfl)
  have lk_4 := hts (.static Lib.Math.min.name) (List.mem_of_getElem? (i := 4) rfl)
  have lk_5 := hts (.initialized "java/lang/Math") (List.mem_of_getElem? (i := 5) rfl)
  have lk_6 := hts (.code Lib.Math.min.name Lib.Math.min.code 2 (some .int)) (List.mem_of_getElem? (i := 6) rfl)
  have hl := lv_entry ([.ref h, .int p1, .int p2, .int p3, .int p4, .int p5, .int p6, .int p7]) (n := 13) (Nat.le_of_ble_eq_true rfl)
  rw [lg_entry_eq]
  generalize (lg_sl ([.ref h, .int p1, .int p2, .int p3, .int p4, .int p5, .int p6, .int p7]) ++ List.replicate (13 - (lg_sl ([.ref h, .int p1, .int p2, .int p3, .int p4, .int p5, .int p6, .int p7])).length) Slot.unset).toArray = ls at hl ⊢
  have hl : lv_has ls 13 [(0, .ref h), (1, .int p1), (2, .int p2), (3, .int p3), (4, .int p4), (5, .int p5), (6, .int p6), (7, .int p7)] := hl
  refine lv_iload hx hb dX3_linear_0 (lv_at hl 4 rfl) ?_
  refine lv_if_lt (tgt := 23) hx hb dX3_linear_2 (by decide) (fun c_2 => ?_) (fun c_2 => ?_)
  · refine lv_bipush (v := ((-11))) hx hb dX3_linear_23 (by decide) ?_
    have e_kl : kl = lnKl kl p2 p3 p4 p5 p6 p7 := by unfold lnKl; rw [if_pos (by first | exact Or.inl c_2 | exact Or.inr (Or.inl c_8) | exact badL_sr hc_17)]
    have e_kb : kb = lnW sz mem kb p1 p2 p3 p4 p5 p6 p7 := by unfold lnW; rw [if_pos (by first | exact Or.inl c_2 | exact Or.inr (Or.inl c_8) | exact badL_sr hc_17)]
    have hP : va_P (dC, dI) vwCl (gw h kq sp k o b kp ga gl ++ kw cB k (lnKl kl p2 p3 p4 p5 p6 p7) (lnW sz mem kb p1 p2 p3 p4 p5 p6 p7) ++ ow cB o oz cs cd ++ sw cB cI b sz st us mem pl ln) s.heap := by rw [← e_kl, ← e_kb]; exact hP
    have hD : va_D A (gw h kq sp k o b kp ga gl ++ kw cB k (lnKl kl p2 p3 p4 p5 p6 p7) (lnW sz mem kb p1 p2 p3 p4 p5 p6 p7) ++ ow cB o oz cs cd ++ sw cB cI b sz st us mem pl ln) := by rw [← e_kl, ← e_kb]; exact hD
    exact W.iret (v := ((-11))) hx hb hr (fun t ht hW => ⟨⟨((-11)), (), rfl, (show ((-11)) = lnR sz mem p1 p2 p3 p4 p5 p6 p7 from by unfold lnR; rw [if_pos (by first | exact Or.inl c_2 | exact Or.inr (Or.inl c_8) | exact badL_sr hc_17)]), by rw [ht]; exact hP, va_K.moved hW.alike hK, hD⟩, hS.F ht⟩) hS.2.2 dX3_linear_25
  · obtain ⟨w, n_w, rfl⟩ := nI_of c_2
    refine lv_iload hx hb dX3_linear_5 (lv_at hl 5 rfl) ?_
    refine lv_iconst (v := ((-1))) hx hb dX3_linear_7 (by decide) ?_
    refine lv_icmp_lt (tgt := 23) hx hb dX3_linear_8 (by decide) (fun c_8 => ?_) (fun c_8 => ?_)
    · refine lv_bipush (v := ((-11))) hx hb dX3_linear_23 (by decide) ?_
      have e_kl : kl = lnKl kl p2 p3 (nI w) p5 p6 p7 := by unfold lnKl; rw [if_pos (by first | exact Or.inl c_2 | exact Or.inr (Or.inl c_8) | exact badL_sr hc_17)]
      have e_kb : kb = lnW sz mem kb p1 p2 p3 (nI w) p5 p6 p7 := by unfold lnW; rw [if_pos (by first | exact Or.inl c_2 | exact Or.inr (Or.inl c_8) | exact badL_sr hc_17)]
      have hP : va_P (dC, dI) vwCl (gw h kq sp k o b kp ga gl ++ kw cB k (lnKl kl p2 p3 (nI w) p5 p6 p7) (lnW sz mem kb p1 p2 p3 (nI w) p5 p6 p7) ++ ow cB o oz cs cd ++ sw cB cI b sz st us mem pl ln) s.heap := by rw [← e_kl, ← e_kb]; exact hP
      have hD : va_D A (gw h kq sp k o b kp ga gl ++ kw cB k (lnKl kl p2 p3 (nI w) p5 p6 p7) (lnW sz mem kb p1 p2 p3 (nI w) p5 p6 p7) ++ ow cB o oz cs cd ++ sw cB cI b sz st us mem pl ln) := by rw [← e_kl, ← e_kb]; exact hD
      exact W.iret (v := ((-11))) hx hb hr (fun t ht hW => ⟨⟨((-11)), (), rfl, (show ((-11)) = lnR sz mem p1 p2 p3 (nI w) p5 p6 p7 from by unfold lnR; rw [if_pos (by first | exact Or.inl c_2 | exact Or.inr (Or.inl c_8) | exact badL_sr hc_17)]), by rw [ht]; exact hP, va_K.moved hW.alike hK, hD⟩, hS.F ht⟩) hS.2.2 dX3_linear_25
    · refine lv_iload_n hx hb dX3_linear_11 rfl (lv_at hl 2 rfl) ?_
      refine lv_iload_n hx hb dX3_linear_12 rfl (lv_at hl 3 rfl) ?_
      refine lv_iload hx hb dX3_linear_13 (lv_at hl 6 rfl) ?_
      refine lv_iload hx hb dX3_linear_15 (lv_at hl 7 rfl) ?_
      refine vp_callSi (W.runS (As := [.int p2, .int p3, .int p6, .int p7]) (rest := []) ⟨hx, hb, hml, hown, hts⟩ (c_X3_isSearch l p2 p3 p6 p7) (va_cwS 4 hts gX3_linear_X3_isSearch rfl rfl rfl (by decide +kernel) ⟨Nat.le_of_ble_eq_true rfl, Nat.le_of_ble_eq_true rfl⟩) ⟨fun a9 U g9 mk9 q9 => ⟨q9.1, trivial⟩, fun U hU hW => ⟨rfl, trivial⟩⟩ rfl rfl hl.1 rfl (lv_room (Nat.le_of_ble_eq_true rfl)) dX3_linear_17 ⟨Nat.zero_le _, Nat.zero_le _⟩) (fun r_17 hw => ?_)
      try dsimp only at hw
      rcases hw with ⟨hc_17, rfl⟩ | ⟨hc_17, rfl⟩
      · obtain ⟨hs1, hs2, hs3, hs4, hs5⟩ := hc_17
        obtain ⟨x, n_x, rfl⟩ := nI_of hs1
        obtain ⟨off, n_off, rfl⟩ := nI_of hs2
        obtain ⟨o9, n_o9, rfl⟩ := nI_of hs3
        have ho7 : o9 ≤ 7 := Nat.not_lt.mp (fun q => hs4 ((nI_ltI (by omega) (by omega)).mpr q))
        rw [show cl (nI o9) = o9 from nI_clamp (by omega)] at hs5
        have hkb := isKb_t hs5
        obtain ⟨k9, hk1, hk2, rfl, hk4⟩ := isK_nat hs5
        refine lv_if_ne (tgt := 26) hx hb dX3_linear_20 (by decide) (fun c_20 => ?_) (fun c_20 => ?_)
        · have c_20 : ¬ 1 = 0 := fun q => c_20 ((nZ_eq (by omega)).mpr q)
          have hnb : ¬ badL (nI k9) (nI x) (nI w) p5 (nI off) (nI o9) := by
            rintro (q | q | q | q | q | q | q)
            · exact c_2 q
            · exact c_8 q
            · exact hs2 q
            · exact hs1 q
            · exact hs3 q
            · exact hs4 q
            · rw [show cl (nI o9) = o9 from nI_clamp (by omega), hkb] at q; exact absurd q (by decide)
          refine lv_aload_n hx hb dX3_linear_26 rfl (lv_at hl 0 rfl) ?_
          refine va_get (D := (dC, dI)) (ci := 3) (v := .ref (k 0)) (C := RX3) (T := TX3) (N := 8) hx hb hts in_X3 hown hK hP 0 rfl rfl 1 (by decide) lk_1 (fun _ h9 => h9) rfl dX3_linear_27 ?_
          refine lv_aload_n hx hb dX3_linear_30 rfl (lv_at hl 0 rfl) ?_
          refine va_get (D := (dC, dI)) (ci := 3) (v := .ref (b 0)) (C := RX3) (T := TX3) (N := 8) hx hb hts in_X3 hown hK hP 0 rfl rfl 3 (by decide) lk_2 (fun _ h9 => h9) rfl dX3_linear_31 ?_
          refine lv_iload_n hx hb dX3_linear_34 rfl (lv_at hl 1 rfl) ?_
          refine lv_iload_n hx hb dX3_linear_35 rfl (lv_at hl 2 rfl) ?_
          refine lv_iload hx hb dX3_linear_36 (lv_at hl 7 rfl) ?_
          have hPc := hP.sub (ws' := kw cB k kl kb ++ sw cB cI b sz st us mem pl ln) [1, 2, 5, 6, 7, 8] rfl
          have hKc := hK.sub (tys' := [(cI, .int), (cB, .byte)]) [0, 1] rfl
          have hDc := hD.sub (ws' := kw cB k kl kb ++ sw cB cI b sz st us mem pl ln) [1, 2, 5, 6, 7, 8] (by decide) rfl
          have hFc := va_free (wc := kw cB k kl kb ++ sw cB cI b sz st us mem pl ln) hD hS hA [1, 2, 5, 6, 7, 8] rfl
          refine va_calli (va_runV (As := [.ref (b 0), .int p1, .int (nI k9), .int (nI o9)]) (rest := []) ⟨hx, hb, hml, hown, hts⟩ (c_X1_load l dC dI cB cI k b kl kb sz st us mem pl ln s.heap.size p1 k9 o9 (by omega) (by omega) (by omega) hk4 (by omega)) (cwV 4 hts gX3_linear_X1_load rfl rfl rfl (by decide +kernel) ⟨Nat.le_of_ble_eq_true rfl, Nat.le_of_ble_eq_true rfl⟩) ⟨fun a9 U g9 mk9 q9 => by obtain ⟨q0, q1, qP, qK, qD⟩ := q9; exact ⟨q0, q1, qP, va_K.moved (u := U) (U := U.calling g9 mk9 a9) (Vm.Alike.refl U.vm) qK, qD⟩, va_recv hKc hPc (ci := 1) (q0 := 0) rfl rfl, fun U hU hW => ⟨rfl, by rw [hU], by rw [hU]; exact hPc, va_K.moved hW.alike hKc, hDc.weaken (fun _ _ _ _ => trivial)⟩⟩ rfl rfl hl.1 rfl (lv_room (Nat.le_of_ble_eq_true rfl)) dX3_linear_38 ⟨Nat.zero_le _, Nat.zero_le _⟩) hS (fun q _ h => hFc q h) hFc (fun r_38 u t H1 locs ht9 hvm9 hw hB hz9 hk9 hS => ?_)
          obtain ⟨hP1, hK1, hD1⟩ := hB
          rw [ht9] at hP1
          obtain ⟨hP, hD⟩ := va_join (wr := gw h kq sp k o b kp ga gl ++ ow cB o oz cs cd) (w1 := kw cB k k9 (tkW sz mem p1 k9 o9 kb) ++ sw cB cI b sz st us mem pl ln) hP hD [1, 2, 5, 6, 7, 8] [0, 3, 4] rfl rfl (by decide) (by decide) hk9 hFc hP1 hD1
          generalize H1 = H at hP hS ⊢
          have hP := hP.sub (ws' := gw h kq sp k o b kp ga gl ++ kw cB k k9 (tkW sz mem p1 k9 o9 kb) ++ ow cB o oz cs cd ++ sw cB cI b sz st us mem pl ln) [0, 3, 4, 1, 2, 5, 6, 7, 8] rfl
          have hD := hD.sub (ws' := gw h kq sp k o b kp ga gl ++ kw cB k k9 (tkW sz mem p1 k9 o9 kb) ++ ow cB o oz cs cd ++ sw cB cI b sz st us mem pl ln) [0, 3, 4, 1, 2, 5, 6, 7, 8] (by decide) rfl
          have hP : va_P (dC, dI) vwCl (gw h kq sp k o b kp ga gl ++ kw cB k k9 (tkW sz mem p1 k9 o9 kb) ++ ow cB o oz cs cd ++ sw cB cI b sz st us mem pl ln) H := hP
          have hD : va_D A (gw h kq sp k o b kp ga gl ++ kw cB k k9 (tkW sz mem p1 k9 o9 kb) ++ ow cB o oz cs cd ++ sw cB cI b sz st us mem pl ln) := hD
          have btk : ∀ j, (tkW sz mem p1 k9 o9 kb) j < 256 := fun j => tkW_lt bmem bkb _ _ _ j
          rcases hw with ⟨htk, rfl⟩ | ⟨htk, rfl⟩
          · have hcm := cmp_ky (wt := kb) (mem := mem) htk
            refine lv_if_ne (tgt := 47) hx hb dX3_linear_41 (by decide) (fun c_41 => ?_) (fun c_41 => ?_)
            · have c_41 : ¬ 1 = 0 := fun q => c_41 ((nZ_eq (by omega)).mpr q)
              rcases gem1 c_8 with rfl | ⟨nn, n_nn, rfl⟩
              · obtain ⟨nn, hnn⟩ : ∃ q : Nat, q = 3001 := ⟨_, rfl⟩
                have hnl : nnl (-1) = nn := by unfold nnl; rw [if_pos rfl, hnn]
                have hR : lnR sz mem p1 (nI k9) (nI x) (nI w) (-1) (nI off) (nI o9) = lnF sz mem (ky mem p1 k9 o9) k9 x w nn off o9 3001 0 := by unfold lnR; rw [if_neg hnb, show cl (nI k9) = k9 from nI_clamp (by omega), show cl (nI x) = x from nI_clamp (by omega), show cl (nI w) = w from nI_clamp (by omega), show cl (nI off) = off from nI_clamp (by omega), show cl (nI o9) = o9 from nI_clamp (by omega), if_neg (fun q => q htk), hnl]
                refine lv_iload hx hb dX3_linear_47 (lv_at hl 5 rfl) ?_
                refine lv_iconst (v := ((-1))) hx hb dX3_linear_49 (by decide) ?_
                refine lv_icmp_ne (tgt := 59) hx hb dX3_linear_50 (by decide) (fun c_50 => ?_) (fun c_50 => ?_)
                · exact absurd c_50 (by decide)
                · refine lv_sipush (v := (nI 3000)) hx hb dX3_linear_53 (by decide) ?_
                  refine lv_goto (tgt := 67) hx hb dX3_linear_56 (by decide) ?_
                  refine lv_istore (lv' := [(8, .int (nI 3000)), (0, .ref h), (1, .int p1), (2, .int (nI k9)), (3, .int (nI x)), (4, .int (nI w)), (5, .int ((-1))), (6, .int (nI off)), (7, .int (nI o9))]) hx hb dX3_linear_67 hl (by decide) rfl (fun ls hl => ?_)
                  obtain ⟨en, hen⟩ : ∃ q : Nat, q = 3000 := ⟨_, rfl⟩
                  have hl : lv_has ls 13 [(8, .int (nI en)), (0, .ref h), (1, .int p1), (2, .int (nI k9)), (3, .int (nI x)), (4, .int (nI w)), (5, .int ((-1))), (6, .int (nI off)), (7, .int (nI o9))] := by rw [hen]; exact hl
                  have hen1 : en ≤ 3000 ∧ en ≤ nn ∧ (en = nn ∨ en = 3000) := by rw [hen]; omega
                  refine lv_iconst (v := (nI 0)) hx hb dX3_linear_69 (by decide) ?_
                  refine lv_istore (lv' := [(9, .int (nI 0)), (8, .int (nI en)), (0, .ref h), (1, .int p1), (2, .int (nI k9)), (3, .int (nI x)), (4, .int (nI w)), (5, .int ((-1))), (6, .int (nI off)), (7, .int (nI o9))]) hx hb dX3_linear_70 hl (by decide) rfl (fun ls hl => ?_)
                  refine lp_still (σ := Nat) (fun i => i ≤ en ∧ lnF sz mem (ky mem p1 k9 o9) k9 x w nn off o9 3001 0 = lnF sz mem (ky mem p1 k9 o9) k9 x w nn off o9 (3001 - i) i) (fun i => en - i) (fun i => [(9, .int (nI i)), (8, .int (nI en)), (0, .ref h), (1, .int p1), (2, .int (nI k9)), (3, .int (nI x)), (4, .int (nI w)), (5, .int ((-1))), (6, .int (nI off)), (7, .int (nI o9))]) ?_ 0 (⟨by omega, rfl⟩) (lv_sub hl [0, 1, 2, 3, 4, 5, 6, 7, 8, 9] rfl)
                  intro i hI ih ls hl
                  have hl : lv_has ls 13 [(9, .int (nI i)), (8, .int (nI en)), (0, .ref h), (1, .int p1), (2, .int (nI k9)), (3, .int (nI x)), (4, .int (nI w)), (5, .int ((-1))), (6, .int (nI off)), (7, .int (nI o9))] := hl
                  have hI : i ≤ en ∧ lnF sz mem (ky mem p1 k9 o9) k9 x w nn off o9 3001 0 = lnF sz mem (ky mem p1 k9 o9) k9 x w nn off o9 (3001 - i) i := hI
                  obtain ⟨hi, hv⟩ := hI
                  have ih_72 := ih
                  refine lv_iload hx hb dX3_linear_72 (lv_at hl 0 rfl) ?_
                  refine lv_iload hx hb dX3_linear_74 (lv_at hl 1 rfl) ?_
                  refine lv_icmp_ge (tgt := 149) hx hb dX3_linear_76 (by decide) (fun c_76 => ?_) (fun c_76 => ?_)
                  · have c_76 : en ≤ i := (nI_leI (a := en) (b := i) (by omega) (by omega)).mp c_76
                    refine lv_iload hx hb dX3_linear_149 (lv_at hl 7 rfl) ?_
                    refine lv_iload hx hb dX3_linear_151 (lv_at hl 1 rfl) ?_
                    refine lv_icmp_ne (tgt := 164) hx hb dX3_linear_153 (by decide) (fun c_153 => ?_) (fun c_153 => ?_)
                    · refine lv_bipush (v := ((-16))) hx hb dX3_linear_164 (by decide) ?_
                      have e_kl : k9 = lnKl kl (nI k9) (nI x) (nI w) (-1) (nI off) (nI o9) := by unfold lnKl; rw [if_neg hnb, show cl (nI k9) = k9 from nI_clamp (by omega)]
                      have e_kb : tkW sz mem p1 k9 o9 kb = lnW sz mem kb p1 (nI k9) (nI x) (nI w) (-1) (nI off) (nI o9) := by unfold lnW; rw [if_neg hnb, show cl (nI k9) = k9 from nI_clamp (by omega), show cl (nI o9) = o9 from nI_clamp (by omega)]
                      have hP : va_P (dC, dI) vwCl (gw h kq sp k o b kp ga gl ++ kw cB k (lnKl kl (nI k9) (nI x) (nI w) (-1) (nI off) (nI o9)) (lnW sz mem kb p1 (nI k9) (nI x) (nI w) (-1) (nI off) (nI o9)) ++ ow cB o oz cs cd ++ sw cB cI b sz st us mem pl ln) H := by rw [← e_kl, ← e_kb]; exact hP
                      have hD : va_D A (gw h kq sp k o b kp ga gl ++ kw cB k (lnKl kl (nI k9) (nI x) (nI w) (-1) (nI off) (nI o9)) (lnW sz mem kb p1 (nI k9) (nI x) (nI w) (-1) (nI off) (nI o9)) ++ ow cB o oz cs cd ++ sw cB cI b sz st us mem pl ln) := by rw [← e_kl, ← e_kb]; exact hD
                      exact W.iret (v := ((-16))) hx hb hr (fun t ht hW => ⟨⟨((-16)), (), rfl, (show ((-16)) = lnR sz mem p1 (nI k9) (nI x) (nI w) (-1) (nI off) (nI o9) from by rw [hR, hv, lnF_s (by omega), if_neg (by omega), if_pos (by omega)]), by rw [ht]; exact hP, va_K.moved hW.alike hK, hD⟩, hS.F ht⟩) hS.2.2 dX3_linear_166
                    · skip
                      exact absurd c_153 (fun q => nI_m1 (n := en) (by omega) q.symm)
                  · have c_76 : ¬ en ≤ i := fun q => c_76 ((nI_leI (a := en) (b := i) (by omega) (by omega)).mpr q)
                    have hiw : i * w ≤ 3000 * 2147483647 := Nat.mul_le_mul (by omega) (by omega)
                    refine lv_iload_n hx hb dX3_linear_79 rfl (lv_at hl 5 rfl) ?_
                    refine lv_i2l (v := lN x) hx hb dX3_linear_80 (nI_l (by omega)) ?_
                    refine lv_iload hx hb dX3_linear_81 (lv_at hl 0 rfl) ?_
                    refine lv_i2l (v := lN i) hx hb dX3_linear_83 (nI_l (by omega)) ?_
                    refine lv_iload hx hb dX3_linear_84 (lv_at hl 6 rfl) ?_
                    refine lv_i2l (v := lN w) hx hb dX3_linear_86 (nI_l (by omega)) ?_
                    refine lv_lmul hx hb dX3_linear_87 ?_
                    refine tpl (lN_mul _ _) ?_
                    refine lv_ladd hx hb dX3_linear_88 ?_
                    refine tpl (lN_add _ _) ?_
                    refine lv_lstore (lv' := [(10, .long (lN (x + (i * w)))), (9, .int (nI i)), (8, .int (nI en)), (0, .ref h), (1, .int p1), (2, .int (nI k9)), (3, .int (nI x)), (4, .int (nI w)), (5, .int ((-1))), (6, .int (nI off)), (7, .int (nI o9))]) hx hb dX3_linear_89 hl (by decide) rfl (fun ls hl => ?_)
                    refine lv_aload_n hx hb dX3_linear_91 rfl (lv_at hl 3 rfl) ?_
                    refine lv_lload hx hb dX3_linear_92 (lv_at hl 0 rfl) ?_
                    refine lv_iload hx hb dX3_linear_94 (lv_at hl 9 rfl) ?_
                    refine lv_i2l (v := lN off) hx hb dX3_linear_96 (nI_l (by omega)) ?_
                    refine lv_ladd hx hb dX3_linear_97 ?_
                    refine tpl (lN_add _ _) ?_
                    refine lv_iload hx hb dX3_linear_98 (lv_at hl 10 rfl) ?_
                    refine vp_callSi (W.runV (As := [.long (lN (x + (i * w) + off)), .int (nI o9)]) (rest := []) ⟨hx, hb, hml, hown, hts⟩ (c_X3_look l dC dI cB cI h kq sp k o b kp ga gl k9 (tkW sz mem p1 k9 o9 kb) oz cs cd sz st us mem pl ln (x + (i * w) + off) o9 (by omega) (by omega) (by omega) (by omega) bmem btk) (cwV 2 hts gX3_linear_X3_look rfl rfl rfl (by decide +kernel) ⟨Nat.le_of_ble_eq_true rfl, Nat.le_of_ble_eq_true rfl⟩) ⟨fun a9 U g9 mk9 q9 => by obtain ⟨q0, qP, qK⟩ := q9; exact ⟨q0, qP, va_K.moved (u := U) (U := U.calling g9 mk9 a9) (Vm.Alike.refl U.vm) qK⟩, va_recv hK hP (ci := 3) (q0 := 0) rfl rfl, fun U hU hW => ⟨rfl, by rw [hU]; exact hP, va_K.moved hW.alike hK⟩⟩ rfl rfl hl.1 rfl (lv_room (Nat.le_of_ble_eq_true rfl)) dX3_linear_100 ⟨Nat.zero_le _, Nat.zero_le _⟩) (fun r_100 hw => ?_)
                    try dsimp only at hw
                    rcases hw with ⟨hq1_100, rfl⟩ | ⟨hq1_100, hq2_100, rfl⟩ | ⟨hq1_100, hq2_100, hq3_100, rfl⟩ | ⟨hq1_100, hq2_100, hq3_100, rfl⟩
                    · skip
                      refine lv_istore (lv' := [(12, .int ((-12))), (10, .long (lN (x + (i * w)))), (9, .int (nI i)), (8, .int (nI en)), (0, .ref h), (1, .int p1), (2, .int (nI k9)), (3, .int (nI x)), (4, .int (nI w)), (5, .int ((-1))), (6, .int (nI off)), (7, .int (nI o9))]) hx hb dX3_linear_103 hl (by decide) rfl (fun ls hl => ?_)
                      refine lv_iload hx hb dX3_linear_105 (lv_at hl 0 rfl) ?_
                      refine lv_iconst (v := (nI 1)) hx hb dX3_linear_107 (by decide) ?_
                      refine lv_icmp_ne (tgt := 121) hx hb dX3_linear_108 (by decide) (fun c_108 => ?_) (fun c_108 => ?_)
                      · refine lv_iload hx hb dX3_linear_121 (lv_at hl 0 rfl) ?_
                        refine lv_iconst (v := (nI 2)) hx hb dX3_linear_123 (by decide) ?_
                        refine lv_icmp_ne (tgt := 133) hx hb dX3_linear_124 (by decide) (fun c_124 => ?_) (fun c_124 => ?_)
                        · refine lv_iload hx hb dX3_linear_133 (lv_at hl 0 rfl) ?_
                          refine lv_bipush (v := ((-12))) hx hb dX3_linear_135 (by decide) ?_
                          refine lv_icmp_ne (tgt := 143) hx hb dX3_linear_137 (by decide) (fun c_137 => ?_) (fun c_137 => ?_)
                          · exact absurd c_137 (by decide)
                          · refine lv_bipush (v := ((-12))) hx hb dX3_linear_140 (by decide) ?_
                            have e_kl : k9 = lnKl kl (nI k9) (nI x) (nI w) (-1) (nI off) (nI o9) := by unfold lnKl; rw [if_neg hnb, show cl (nI k9) = k9 from nI_clamp (by omega)]
                            have e_kb : tkW sz mem p1 k9 o9 kb = lnW sz mem kb p1 (nI k9) (nI x) (nI w) (-1) (nI off) (nI o9) := by unfold lnW; rw [if_neg hnb, show cl (nI k9) = k9 from nI_clamp (by omega), show cl (nI o9) = o9 from nI_clamp (by omega)]
                            have hP : va_P (dC, dI) vwCl (gw h kq sp k o b kp ga gl ++ kw cB k (lnKl kl (nI k9) (nI x) (nI w) (-1) (nI off) (nI o9)) (lnW sz mem kb p1 (nI k9) (nI x) (nI w) (-1) (nI off) (nI o9)) ++ ow cB o oz cs cd ++ sw cB cI b sz st us mem pl ln) H := by rw [← e_kl, ← e_kb]; exact hP
                            have hD : va_D A (gw h kq sp k o b kp ga gl ++ kw cB k (lnKl kl (nI k9) (nI x) (nI w) (-1) (nI off) (nI o9)) (lnW sz mem kb p1 (nI k9) (nI x) (nI w) (-1) (nI off) (nI o9)) ++ ow cB o oz cs cd ++ sw cB cI b sz st us mem pl ln) := by rw [← e_kl, ← e_kb]; exact hD
                            exact W.iret (v := ((-12))) hx hb hr (fun t ht hW => ⟨⟨((-12)), (), rfl, (show ((-12)) = lnR sz mem p1 (nI k9) (nI x) (nI w) (-1) (nI off) (nI o9) from by rw [hR, hv, lnF_s (by omega), if_neg (by omega), if_neg (by omega), if_pos (by omega)]), by rw [ht]; exact hP, va_K.moved hW.alike hK, hD⟩, hS.F ht⟩) hS.2.2 dX3_linear_142
                        · exact absurd c_124 (by decide)
                      · exact absurd c_108 (by decide)
                    · rw [hcm] at hq2_100
                      refine lv_istore (lv' := [(12, .int (nI 1)), (10, .long (lN (x + (i * w)))), (9, .int (nI i)), (8, .int (nI en)), (0, .ref h), (1, .int p1), (2, .int (nI k9)), (3, .int (nI x)), (4, .int (nI w)), (5, .int ((-1))), (6, .int (nI off)), (7, .int (nI o9))]) hx hb dX3_linear_103 hl (by decide) rfl (fun ls hl => ?_)
                      refine lv_iload hx hb dX3_linear_105 (lv_at hl 0 rfl) ?_
                      refine lv_iconst (v := (nI 1)) hx hb dX3_linear_107 (by decide) ?_
                      refine lv_icmp_ne (tgt := 121) hx hb dX3_linear_108 (by decide) (fun c_108 => ?_) (fun c_108 => ?_)
                      · exact absurd c_108 (by decide)
                      · have c_108 : 1 = 1 := (nI_eq (a := 1) (b := 1) (by omega) (by omega)).mp c_108
                        refine lv_iload hx hb dX3_linear_111 (lv_at hl 2 rfl) ?_
                        refine lv_lload hx hb dX3_linear_113 (lv_at hl 1 rfl) ?_
                        refine lv_iload hx hb dX3_linear_115 (lv_at hl 11 rfl) ?_
                        refine vp_callSi (W.runS (As := [.int (nI i), .long (lN (x + (i * w))), .int (nI o9)]) (rest := []) ⟨hx, hb, hml, hown, hts⟩ (c_X3_foundAnswer l i (x + (i * w)) o9 (by omega)) (va_cwS 3 hts gX3_linear_X3_foundAnswer rfl rfl rfl (by decide +kernel) ⟨Nat.le_of_ble_eq_true rfl, Nat.le_of_ble_eq_true rfl⟩) ⟨fun a9 U g9 mk9 q9 => ⟨q9.1, trivial⟩, fun U hU hW => ⟨rfl, trivial⟩⟩ rfl rfl hl.1 rfl (lv_room (Nat.le_of_ble_eq_true rfl)) dX3_linear_117 ⟨Nat.zero_le _, Nat.zero_le _⟩) (fun r_117 hw => ?_)
                        try dsimp only at hw
                        subst hw
                        have e_kl : k9 = lnKl kl (nI k9) (nI x) (nI w) (-1) (nI off) (nI o9) := by unfold lnKl; rw [if_neg hnb, show cl (nI k9) = k9 from nI_clamp (by omega)]
                        have e_kb : tkW sz mem p1 k9 o9 kb = lnW sz mem kb p1 (nI k9) (nI x) (nI w) (-1) (nI off) (nI o9) := by unfold lnW; rw [if_neg hnb, show cl (nI k9) = k9 from nI_clamp (by omega), show cl (nI o9) = o9 from nI_clamp (by omega)]
                        have hP : va_P (dC, dI) vwCl (gw h kq sp k o b kp ga gl ++ kw cB k (lnKl kl (nI k9) (nI x) (nI w) (-1) (nI off) (nI o9)) (lnW sz mem kb p1 (nI k9) (nI x) (nI w) (-1) (nI off) (nI o9)) ++ ow cB o oz cs cd ++ sw cB cI b sz st us mem pl ln) H := by rw [← e_kl, ← e_kb]; exact hP
                        have hD : va_D A (gw h kq sp k o b kp ga gl ++ kw cB k (lnKl kl (nI k9) (nI x) (nI w) (-1) (nI off) (nI o9)) (lnW sz mem kb p1 (nI k9) (nI x) (nI w) (-1) (nI off) (nI o9)) ++ ow cB o oz cs cd ++ sw cB cI b sz st us mem pl ln) := by rw [← e_kl, ← e_kb]; exact hD
                        exact W.iret (v := (if 4 ≤ o9 then nI i else nI (x + (i * w)))) hx hb hr (fun t ht hW => ⟨⟨(if 4 ≤ o9 then nI i else nI (x + (i * w))), (), rfl, (show (if 4 ≤ o9 then nI i else nI (x + (i * w))) = lnR sz mem p1 (nI k9) (nI x) (nI w) (-1) (nI off) (nI o9) from by rw [hR, hv, lnF_s (by omega), if_neg (show ¬ nn ≤ i by omega), if_neg (show ¬ i = 3000 by omega), if_neg (show ¬ ¬ x + i * w + off + k9 ≤ sz by omega), if_pos hq2_100]), by rw [ht]; exact hP, va_K.moved hW.alike hK, hD⟩, hS.F ht⟩) hS.2.2 dX3_linear_120
                    · rw [hcm] at hq2_100
                      refine lv_istore (lv' := [(12, .int (nI 2)), (10, .long (lN (x + (i * w)))), (9, .int (nI i)), (8, .int (nI en)), (0, .ref h), (1, .int p1), (2, .int (nI k9)), (3, .int (nI x)), (4, .int (nI w)), (5, .int ((-1))), (6, .int (nI off)), (7, .int (nI o9))]) hx hb dX3_linear_103 hl (by decide) rfl (fun ls hl => ?_)
                      refine lv_iload hx hb dX3_linear_105 (lv_at hl 0 rfl) ?_
                      refine lv_iconst (v := (nI 1)) hx hb dX3_linear_107 (by decide) ?_
                      refine lv_icmp_ne (tgt := 121) hx hb dX3_linear_108 (by decide) (fun c_108 => ?_) (fun c_108 => ?_)
                      · have c_108 : ¬ 2 = 1 := fun q => c_108 ((nI_eq (a := 2) (b := 1) (by omega) (by omega)).mpr q)
                        refine lv_iload hx hb dX3_linear_121 (lv_at hl 0 rfl) ?_
                        refine lv_iconst (v := (nI 2)) hx hb dX3_linear_123 (by decide) ?_
                        refine lv_icmp_ne (tgt := 133) hx hb dX3_linear_124 (by decide) (fun c_124 => ?_) (fun c_124 => ?_)
                        · exact absurd c_124 (by decide)
                        · have c_124 : 2 = 2 := (nI_eq (a := 2) (b := 2) (by omega) (by omega)).mp c_124
                          refine lv_iload hx hb dX3_linear_127 (lv_at hl 11 rfl) ?_
                          refine vp_callSi (W.runS (As := [.int (nI o9)]) (rest := []) ⟨hx, hb, hml, hown, hts⟩ (c_X3_noneAnswer l o9 (by omega)) (va_cwS 1 hts gX3_linear_X3_noneAnswer rfl rfl rfl (by decide +kernel) ⟨Nat.le_of_ble_eq_true rfl, Nat.le_of_ble_eq_true rfl⟩) ⟨fun a9 U g9 mk9 q9 => ⟨q9.1, trivial⟩, fun U hU hW => ⟨rfl, trivial⟩⟩ rfl rfl hl.1 rfl (lv_room (Nat.le_of_ble_eq_true rfl)) dX3_linear_129 ⟨Nat.zero_le _, Nat.zero_le _⟩) (fun r_129 hw => ?_)
                          try dsimp only at hw
                          subst hw
                          have e_kl : k9 = lnKl kl (nI k9) (nI x) (nI w) (-1) (nI off) (nI o9) := by unfold lnKl; rw [if_neg hnb, show cl (nI k9) = k9 from nI_clamp (by omega)]
                          have e_kb : tkW sz mem p1 k9 o9 kb = lnW sz mem kb p1 (nI k9) (nI x) (nI w) (-1) (nI off) (nI o9) := by unfold lnW; rw [if_neg hnb, show cl (nI k9) = k9 from nI_clamp (by omega), show cl (nI o9) = o9 from nI_clamp (by omega)]
                          have hP : va_P (dC, dI) vwCl (gw h kq sp k o b kp ga gl ++ kw cB k (lnKl kl (nI k9) (nI x) (nI w) (-1) (nI off) (nI o9)) (lnW sz mem kb p1 (nI k9) (nI x) (nI w) (-1) (nI off) (nI o9)) ++ ow cB o oz cs cd ++ sw cB cI b sz st us mem pl ln) H := by rw [← e_kl, ← e_kb]; exact hP
                          have hD : va_D A (gw h kq sp k o b kp ga gl ++ kw cB k (lnKl kl (nI k9) (nI x) (nI w) (-1) (nI off) (nI o9)) (lnW sz mem kb p1 (nI k9) (nI x) (nI w) (-1) (nI off) (nI o9)) ++ ow cB o oz cs cd ++ sw cB cI b sz st us mem pl ln) := by rw [← e_kl, ← e_kb]; exact hD
                          exact W.iret (v := (noA o9)) hx hb hr (fun t ht hW => ⟨⟨(noA o9), (), rfl, (show (noA o9) = lnR sz mem p1 (nI k9) (nI x) (nI w) (-1) (nI off) (nI o9) from by rw [hR, hv, lnF_s (by omega), if_neg (by omega), if_neg (by omega), if_neg (by omega), if_neg hq2_100, if_pos ⟨hq3_100.1, allZb_t hq3_100.2⟩]), by rw [ht]; exact hP, va_K.moved hW.alike hK, hD⟩, hS.F ht⟩) hS.2.2 dX3_linear_132
                      · exact absurd c_108 (by decide)
                    · rw [hcm] at hq2_100
                      refine lv_istore (lv' := [(12, .int (nI 3)), (10, .long (lN (x + (i * w)))), (9, .int (nI i)), (8, .int (nI en)), (0, .ref h), (1, .int p1), (2, .int (nI k9)), (3, .int (nI x)), (4, .int (nI w)), (5, .int ((-1))), (6, .int (nI off)), (7, .int (nI o9))]) hx hb dX3_linear_103 hl (by decide) rfl (fun ls hl => ?_)
                      refine lv_iload hx hb dX3_linear_105 (lv_at hl 0 rfl) ?_
                      refine lv_iconst (v := (nI 1)) hx hb dX3_linear_107 (by decide) ?_
                      refine lv_icmp_ne (tgt := 121) hx hb dX3_linear_108 (by decide) (fun c_108 => ?_) (fun c_108 => ?_)
                      · have c_108 : ¬ 3 = 1 := fun q => c_108 ((nI_eq (a := 3) (b := 1) (by omega) (by omega)).mpr q)
                        refine lv_iload hx hb dX3_linear_121 (lv_at hl 0 rfl) ?_
                        refine lv_iconst (v := (nI 2)) hx hb dX3_linear_123 (by decide) ?_
                        refine lv_icmp_ne (tgt := 133) hx hb dX3_linear_124 (by decide) (fun c_124 => ?_) (fun c_124 => ?_)
                        · have c_124 : ¬ 3 = 2 := fun q => c_124 ((nI_eq (a := 3) (b := 2) (by omega) (by omega)).mpr q)
                          refine lv_iload hx hb dX3_linear_133 (lv_at hl 0 rfl) ?_
                          refine lv_bipush (v := ((-12))) hx hb dX3_linear_135 (by decide) ?_
                          refine lv_icmp_ne (tgt := 143) hx hb dX3_linear_137 (by decide) (fun c_137 => ?_) (fun c_137 => ?_)
                          · refine lv_iinc (v := (nI (i + 1))) (lv' := [(9, .int (nI (i + 1))), (12, .int (nI 3)), (10, .long (lN (x + (i * w)))), (8, .int (nI en)), (0, .ref h), (1, .int p1), (2, .int (nI k9)), (3, .int (nI x)), (4, .int (nI w)), (5, .int ((-1))), (6, .int (nI off)), (7, .int (nI o9))]) hx hb dX3_linear_143 hl (k := 2) rfl (nI_inc _) (by decide) rfl (fun ls hl => ?_)
                            refine lv_goto (tgt := 72) hx hb dX3_linear_146 (by decide) ?_
                            exact ih_72 (i + 1) (⟨by omega, by rw [hv, lnF_s (by omega), if_neg (by omega), if_neg (by omega), if_neg (by omega), if_neg hq2_100, if_neg (fun q => hq3_100 ⟨q.1, Classical.not_not.mp (fun z => by rw [allZb_f z] at q; exact absurd q.2 (by decide))⟩)]⟩) (show en - (i + 1) < en - i by omega) ls (lv_sub hl [0, 3, 4, 5, 6, 7, 8, 9, 10, 11] rfl)
                          · exact absurd c_137 (by decide)
                        · exact absurd c_124 (by decide)
                      · exact absurd c_108 (by decide)
              · have hnl : nnl (nI nn) = nn := by unfold nnl; rw [if_neg (nI_m1 n_nn)]; exact nI_clamp n_nn
                have hR : lnR sz mem p1 (nI k9) (nI x) (nI w) (nI nn) (nI off) (nI o9) = lnF sz mem (ky mem p1 k9 o9) k9 x w nn off o9 3001 0 := by unfold lnR; rw [if_neg hnb, show cl (nI k9) = k9 from nI_clamp (by omega), show cl (nI x) = x from nI_clamp (by omega), show cl (nI w) = w from nI_clamp (by omega), show cl (nI off) = off from nI_clamp (by omega), show cl (nI o9) = o9 from nI_clamp (by omega), if_neg (fun q => q htk), hnl]
                refine lv_iload hx hb dX3_linear_47 (lv_at hl 5 rfl) ?_
                refine lv_iconst (v := ((-1))) hx hb dX3_linear_49 (by decide) ?_
                refine lv_icmp_ne (tgt := 59) hx hb dX3_linear_50 (by decide) (fun c_50 => ?_) (fun c_50 => ?_)
                · refine lv_iload hx hb dX3_linear_59 (lv_at hl 5 rfl) ?_
                  refine lv_sipush (v := (nI 3000)) hx hb dX3_linear_61 (by decide) ?_
                  refine va_mmin hx hb (by rw [hml]; exact hl.1.symm) hown lk_3 lk_4 lk_5 lk_6 (Nat.le_of_ble_eq_true rfl) (Nat.le_of_ble_eq_true rfl) (Nat.zero_le _) (Nat.zero_le _) dX3_linear_64 ?_
                  refine tpi (mmin (x := nn) (y := 3000) (by omega) (by omega)) ?_
                  refine lv_istore (lv' := [(8, .int (nI (if 3000 < nn then 3000 else nn))), (0, .ref h), (1, .int p1), (2, .int (nI k9)), (3, .int (nI x)), (4, .int (nI w)), (5, .int (nI nn)), (6, .int (nI off)), (7, .int (nI o9))]) hx hb dX3_linear_67 hl (by decide) rfl (fun ls hl => ?_)
                  obtain ⟨en, hen⟩ : ∃ q : Nat, q = if 3000 < nn then 3000 else nn := ⟨_, rfl⟩
                  rw [← hen] at hl
                  have hen1 : en ≤ 3000 ∧ en ≤ nn ∧ (en = nn ∨ en = 3000) := by rw [hen]; split <;> omega
                  refine lv_iconst (v := (nI 0)) hx hb dX3_linear_69 (by decide) ?_
                  refine lv_istore (lv' := [(9, .int (nI 0)), (8, .int (nI en)), (0, .ref h), (1, .int p1), (2, .int (nI k9)), (3, .int (nI x)), (4, .int (nI w)), (5, .int (nI nn)), (6, .int (nI off)), (7, .int (nI o9))]) hx hb dX3_linear_70 hl (by decide) rfl (fun ls hl => ?_)
                  refine lp_still (σ := Nat) (fun i => i ≤ en ∧ lnF sz mem (ky mem p1 k9 o9) k9 x w nn off o9 3001 0 = lnF sz mem (ky mem p1 k9 o9) k9 x w nn off o9 (3001 - i) i) (fun i => en - i) (fun i => [(9, .int (nI i)), (8, .int (nI en)), (0, .ref h), (1, .int p1), (2, .int (nI k9)), (3, .int (nI x)), (4, .int (nI w)), (5, .int (nI nn)), (6, .int (nI off)), (7, .int (nI o9))]) ?_ 0 (⟨by omega, rfl⟩) (lv_sub hl [0, 1, 2, 3, 4, 5, 6, 7, 8, 9] rfl)
                  intro i hI ih ls hl
                  have hl : lv_has ls 13 [(9, .int (nI i)), (8, .int (nI en)), (0, .ref h), (1, .int p1), (2, .int (nI k9)), (3, .int (nI x)), (4, .int (nI w)), (5, .int (nI nn)), (6, .int (nI off)), (7, .int (nI o9))] := hl
                  have hI : i ≤ en ∧ lnF sz mem (ky mem p1 k9 o9) k9 x w nn off o9 3001 0 = lnF sz mem (ky mem p1 k9 o9) k9 x w nn off o9 (3001 - i) i := hI
                  obtain ⟨hi, hv⟩ := hI
                  have ih_72 := ih
                  refine lv_iload hx hb dX3_linear_72 (lv_at hl 0 rfl) ?_
                  refine lv_iload hx hb dX3_linear_74 (lv_at hl 1 rfl) ?_
                  refine lv_icmp_ge (tgt := 149) hx hb dX3_linear_76 (by decide) (fun c_76 => ?_) (fun c_76 => ?_)
                  · have c_76 : en ≤ i := (nI_leI (a := en) (b := i) (by omega) (by omega)).mp c_76
                    refine lv_iload hx hb dX3_linear_149 (lv_at hl 7 rfl) ?_
                    refine lv_iload hx hb dX3_linear_151 (lv_at hl 1 rfl) ?_
                    refine lv_icmp_ne (tgt := 164) hx hb dX3_linear_153 (by decide) (fun c_153 => ?_) (fun c_153 => ?_)
                    · have c_153 : ¬ nn = en := fun q => c_153 ((nI_eq (a := nn) (b := en) (by omega) (by omega)).mpr q)
                      refine lv_bipush (v := ((-16))) hx hb dX3_linear_164 (by decide) ?_
                      have e_kl : k9 = lnKl kl (nI k9) (nI x) (nI w) (nI nn) (nI off) (nI o9) := by unfold lnKl; rw [if_neg hnb, show cl (nI k9) = k9 from nI_clamp (by omega)]
                      have e_kb : tkW sz mem p1 k9 o9 kb = lnW sz mem kb p1 (nI k9) (nI x) (nI w) (nI nn) (nI off) (nI o9) := by unfold lnW; rw [if_neg hnb, show cl (nI k9) = k9 from nI_clamp (by omega), show cl (nI o9) = o9 from nI_clamp (by omega)]
                      have hP : va_P (dC, dI) vwCl (gw h kq sp k o b kp ga gl ++ kw cB k (lnKl kl (nI k9) (nI x) (nI w) (nI nn) (nI off) (nI o9)) (lnW sz mem kb p1 (nI k9) (nI x) (nI w) (nI nn) (nI off) (nI o9)) ++ ow cB o oz cs cd ++ sw cB cI b sz st us mem pl ln) H := by rw [← e_kl, ← e_kb]; exact hP
                      have hD : va_D A (gw h kq sp k o b kp ga gl ++ kw cB k (lnKl kl (nI k9) (nI x) (nI w) (nI nn) (nI off) (nI o9)) (lnW sz mem kb p1 (nI k9) (nI x) (nI w) (nI nn) (nI off) (nI o9)) ++ ow cB o oz cs cd ++ sw cB cI b sz st us mem pl ln) := by rw [← e_kl, ← e_kb]; exact hD
                      exact W.iret (v := ((-16))) hx hb hr (fun t ht hW => ⟨⟨((-16)), (), rfl, (show ((-16)) = lnR sz mem p1 (nI k9) (nI x) (nI w) (nI nn) (nI off) (nI o9) from by rw [hR, hv, lnF_s (by omega), if_neg (by omega), if_pos (by omega)]), by rw [ht]; exact hP, va_K.moved hW.alike hK, hD⟩, hS.F ht⟩) hS.2.2 dX3_linear_166
                    · have c_153 : nn = en := (nI_eq (a := nn) (b := en) (by omega) (by omega)).mp c_153
                      refine lv_iload hx hb dX3_linear_156 (lv_at hl 9 rfl) ?_
                      refine vp_callSi (W.runS (As := [.int (nI o9)]) (rest := []) ⟨hx, hb, hml, hown, hts⟩ (c_X3_noneAnswer l o9 (by omega)) (va_cwS 1 hts gX3_linear_X3_noneAnswer rfl rfl rfl (by decide +kernel) ⟨Nat.le_of_ble_eq_true rfl, Nat.le_of_ble_eq_true rfl⟩) ⟨fun a9 U g9 mk9 q9 => ⟨q9.1, trivial⟩, fun U hU hW => ⟨rfl, trivial⟩⟩ rfl rfl hl.1 rfl (lv_room (Nat.le_of_ble_eq_true rfl)) dX3_linear_158 ⟨Nat.zero_le _, Nat.zero_le _⟩) (fun r_158 hw => ?_)
                      try dsimp only at hw
                      subst hw
                      refine lv_goto (tgt := 166) hx hb dX3_linear_161 (by decide) ?_
                      have e_kl : k9 = lnKl kl (nI k9) (nI x) (nI w) (nI nn) (nI off) (nI o9) := by unfold lnKl; rw [if_neg hnb, show cl (nI k9) = k9 from nI_clamp (by omega)]
                      have e_kb : tkW sz mem p1 k9 o9 kb = lnW sz mem kb p1 (nI k9) (nI x) (nI w) (nI nn) (nI off) (nI o9) := by unfold lnW; rw [if_neg hnb, show cl (nI k9) = k9 from nI_clamp (by omega), show cl (nI o9) = o9 from nI_clamp (by omega)]
                      have hP : va_P (dC, dI) vwCl (gw h kq sp k o b kp ga gl ++ kw cB k (lnKl kl (nI k9) (nI x) (nI w) (nI nn) (nI off) (nI o9)) (lnW sz mem kb p1 (nI k9) (nI x) (nI w) (nI nn) (nI off) (nI o9)) ++ ow cB o oz cs cd ++ sw cB cI b sz st us mem pl ln) H := by rw [← e_kl, ← e_kb]; exact hP
                      have hD : va_D A (gw h kq sp k o b kp ga gl ++ kw cB k (lnKl kl (nI k9) (nI x) (nI w) (nI nn) (nI off) (nI o9)) (lnW sz mem kb p1 (nI k9) (nI x) (nI w) (nI nn) (nI off) (nI o9)) ++ ow cB o oz cs cd ++ sw cB cI b sz st us mem pl ln) := by rw [← e_kl, ← e_kb]; exact hD
                      exact W.iret (v := (noA o9)) hx hb hr (fun t ht hW => ⟨⟨(noA o9), (), rfl, (show (noA o9) = lnR sz mem p1 (nI k9) (nI x) (nI w) (nI nn) (nI off) (nI o9) from by rw [hR, hv, lnF_s (by omega), if_pos (by omega)]), by rw [ht]; exact hP, va_K.moved hW.alike hK, hD⟩, hS.F ht⟩) hS.2.2 dX3_linear_166
                  · have c_76 : ¬ en ≤ i := fun q => c_76 ((nI_leI (a := en) (b := i) (by omega) (by omega)).mpr q)
                    have hiw : i * w ≤ 3000 * 2147483647 := Nat.mul_le_mul (by omega) (by omega)
                    refine lv_iload_n hx hb dX3_linear_79 rfl (lv_at hl 5 rfl) ?_
                    refine lv_i2l (v := lN x) hx hb dX3_linear_80 (nI_l (by omega)) ?_
                    refine lv_iload hx hb dX3_linear_81 (lv_at hl 0 rfl) ?_
                    refine lv_i2l (v := lN i) hx hb dX3_linear_83 (nI_l (by omega)) ?_
                    refine lv_iload hx hb dX3_linear_84 (lv_at hl 6 rfl) ?_
                    refine lv_i2l (v := lN w) hx hb dX3_linear_86 (nI_l (by omega)) ?_
                    refine lv_lmul hx hb dX3_linear_87 ?_
                    refine tpl (lN_mul _ _) ?_
                    refine lv_ladd hx hb dX3_linear_88 ?_
                    refine tpl (lN_add _ _) ?_
                    refine lv_lstore (lv' := [(10, .long (lN (x + (i * w)))), (9, .int (nI i)), (8, .int (nI en)), (0, .ref h), (1, .int p1), (2, .int (nI k9)), (3, .int (nI x)), (4, .int (nI w)), (5, .int (nI nn)), (6, .int (nI off)), (7, .int (nI o9))]) hx hb dX3_linear_89 hl (by decide) rfl (fun ls hl => ?_)
                    refine lv_aload_n hx hb dX3_linear_91 rfl (lv_at hl 3 rfl) ?_
                    refine lv_lload hx hb dX3_linear_92 (lv_at hl 0 rfl) ?_
                    refine lv_iload hx hb dX3_linear_94 (lv_at hl 9 rfl) ?_
                    refine lv_i2l (v := lN off) hx hb dX3_linear_96 (nI_l (by omega)) ?_
                    refine lv_ladd hx hb dX3_linear_97 ?_
                    refine tpl (lN_add _ _) ?_
                    refine lv_iload hx hb dX3_linear_98 (lv_at hl 10 rfl) ?_
                    refine vp_callSi (W.runV (As := [.long (lN (x + (i * w) + off)), .int (nI o9)]) (rest := []) ⟨hx, hb, hml, hown, hts⟩ (c_X3_look l dC dI cB cI h kq sp k o b kp ga gl k9 (tkW sz mem p1 k9 o9 kb) oz cs cd sz st us mem pl ln (x + (i * w) + off) o9 (by omega) (by omega) (by omega) (by omega) bmem btk) (cwV 2 hts gX3_linear_X3_look rfl rfl rfl (by decide +kernel) ⟨Nat.le_of_ble_eq_true rfl, Nat.le_of_ble_eq_true rfl⟩) ⟨fun a9 U g9 mk9 q9 => by obtain ⟨q0, qP, qK⟩ := q9; exact ⟨q0, qP, va_K.moved (u := U) (U := U.calling g9 mk9 a9) (Vm.Alike.refl U.vm) qK⟩, va_recv hK hP (ci := 3) (q0 := 0) rfl rfl, fun U hU hW => ⟨rfl, by rw [hU]; exact hP, va_K.moved hW.alike hK⟩⟩ rfl rfl hl.1 rfl (lv_room (Nat.le_of_ble_eq_true rfl)) dX3_linear_100 ⟨Nat.zero_le _, Nat.zero_le _⟩) (fun r_100 hw => ?_)
                    try dsimp only at hw
                    rcases hw with ⟨hq1_100, rfl⟩ | ⟨hq1_100, hq2_100, rfl⟩ | ⟨hq1_100, hq2_100, hq3_100, rfl⟩ | ⟨hq1_100, hq2_100, hq3_100, rfl⟩
                    · skip
                      refine lv_istore (lv' := [(12, .int ((-12))), (10, .long (lN (x + (i * w)))), (9, .int (nI i)), (8, .int (nI en)), (0, .ref h), (1, .int p1), (2, .int (nI k9)), (3, .int (nI x)), (4, .int (nI w)), (5, .int (nI nn)), (6, .int (nI off)), (7, .int (nI o9))]) hx hb dX3_linear_103 hl (by decide) rfl (fun ls hl => ?_)
                      refine lv_iload hx hb dX3_linear_105 (lv_at hl 0 rfl) ?_
                      refine lv_iconst (v := (nI 1)) hx hb dX3_linear_107 (by decide) ?_
                      refine lv_icmp_ne (tgt := 121) hx hb dX3_linear_108 (by decide) (fun c_108 => ?_) (fun c_108 => ?_)
                      · refine lv_iload hx hb dX3_linear_121 (lv_at hl 0 rfl) ?_
                        refine lv_iconst (v := (nI 2)) hx hb dX3_linear_123 (by decide) ?_
                        refine lv_icmp_ne (tgt := 133) hx hb dX3_linear_124 (by decide) (fun c_124 => ?_) (fun c_124 => ?_)
                        · refine lv_iload hx hb dX3_linear_133 (lv_at hl 0 rfl) ?_
                          refine lv_bipush (v := ((-12))) hx hb dX3_linear_135 (by decide) ?_
                          refine lv_icmp_ne (tgt := 143) hx hb dX3_linear_137 (by decide) (fun c_137 => ?_) (fun c_137 => ?_)
                          · exact absurd c_137 (by decide)
                          · refine lv_bipush (v := ((-12))) hx hb dX3_linear_140 (by decide) ?_
                            have e_kl : k9 = lnKl kl (nI k9) (nI x) (nI w) (nI nn) (nI off) (nI o9) := by unfold lnKl; rw [if_neg hnb, show cl (nI k9) = k9 from nI_clamp (by omega)]
                            have e_kb : tkW sz mem p1 k9 o9 kb = lnW sz mem kb p1 (nI k9) (nI x) (nI w) (nI nn) (nI off) (nI o9) := by unfold lnW; rw [if_neg hnb, show cl (nI k9) = k9 from nI_clamp (by omega), show cl (nI o9) = o9 from nI_clamp (by omega)]
                            have hP : va_P (dC, dI) vwCl (gw h kq sp k o b kp ga gl ++ kw cB k (lnKl kl (nI k9) (nI x) (nI w) (nI nn) (nI off) (nI o9)) (lnW sz mem kb p1 (nI k9) (nI x) (nI w) (nI nn) (nI off) (nI o9)) ++ ow cB o oz cs cd ++ sw cB cI b sz st us mem pl ln) H := by rw [← e_kl, ← e_kb]; exact hP
                            have hD : va_D A (gw h kq sp k o b kp ga gl ++ kw cB k (lnKl kl (nI k9) (nI x) (nI w) (nI nn) (nI off) (nI o9)) (lnW sz mem kb p1 (nI k9) (nI x) (nI w) (nI nn) (nI off) (nI o9)) ++ ow cB o oz cs cd ++ sw cB cI b sz st us mem pl ln) := by rw [← e_kl, ← e_kb]; exact hD
                            exact W.iret (v := ((-12))) hx hb hr (fun t ht hW => ⟨⟨((-12)), (), rfl, (show ((-12)) = lnR sz mem p1 (nI k9) (nI x) (nI w) (nI nn) (nI off) (nI o9) from by rw [hR, hv, lnF_s (by omega), if_neg (by omega), if_neg (by omega), if_pos (by omega)]), by rw [ht]; exact hP, va_K.moved hW.alike hK, hD⟩, hS.F ht⟩) hS.2.2 dX3_linear_142
                        · exact absurd c_124 (by decide)
                      · exact absurd c_108 (by decide)
                    · rw [hcm] at hq2_100
                      refine lv_istore (lv' := [(12, .int (nI 1)), (10, .long (lN (x + (i * w)))), (9, .int (nI i)), (8, .int (nI en)), (0, .ref h), (1, .int p1), (2, .int (nI k9)), (3, .int (nI x)), (4, .int (nI w)), (5, .int (nI nn)), (6, .int (nI off)), (7, .int (nI o9))]) hx hb dX3_linear_103 hl (by decide) rfl (fun ls hl => ?_)
                      refine lv_iload hx hb dX3_linear_105 (lv_at hl 0 rfl) ?_
                      refine lv_iconst (v := (nI 1)) hx hb dX3_linear_107 (by decide) ?_
                      refine lv_icmp_ne (tgt := 121) hx hb dX3_linear_108 (by decide) (fun c_108 => ?_) (fun c_108 => ?_)
                      · exact absurd c_108 (by decide)
                      · have c_108 : 1 = 1 := (nI_eq (a := 1) (b := 1) (by omega) (by omega)).mp c_108
                        refine lv_iload hx hb dX3_linear_111 (lv_at hl 2 rfl) ?_
                        refine lv_lload hx hb dX3_linear_113 (lv_at hl 1 rfl) ?_
                        refine lv_iload hx hb dX3_linear_115 (lv_at hl 11 rfl) ?_
                        refine vp_callSi (W.runS (As := [.int (nI i), .long (lN (x + (i * w))), .int (nI o9)]) (rest := []) ⟨hx, hb, hml, hown, hts⟩ (c_X3_foundAnswer l i (x + (i * w)) o9 (by omega)) (va_cwS 3 hts gX3_linear_X3_foundAnswer rfl rfl rfl (by decide +kernel) ⟨Nat.le_of_ble_eq_true rfl, Nat.le_of_ble_eq_true rfl⟩) ⟨fun a9 U g9 mk9 q9 => ⟨q9.1, trivial⟩, fun U hU hW => ⟨rfl, trivial⟩⟩ rfl rfl hl.1 rfl (lv_room (Nat.le_of_ble_eq_true rfl)) dX3_linear_117 ⟨Nat.zero_le _, Nat.zero_le _⟩) (fun r_117 hw => ?_)
                        try dsimp only at hw
                        subst hw
                        have e_kl : k9 = lnKl kl (nI k9) (nI x) (nI w) (nI nn) (nI off) (nI o9) := by unfold lnKl; rw [if_neg hnb, show cl (nI k9) = k9 from nI_clamp (by omega)]
                        have e_kb : tkW sz mem p1 k9 o9 kb = lnW sz mem kb p1 (nI k9) (nI x) (nI w) (nI nn) (nI off) (nI o9) := by unfold lnW; rw [if_neg hnb, show cl (nI k9) = k9 from nI_clamp (by omega), show cl (nI o9) = o9 from nI_clamp (by omega)]
                        have hP : va_P (dC, dI) vwCl (gw h kq sp k o b kp ga gl ++ kw cB k (lnKl kl (nI k9) (nI x) (nI w) (nI nn) (nI off) (nI o9)) (lnW sz mem kb p1 (nI k9) (nI x) (nI w) (nI nn) (nI off) (nI o9)) ++ ow cB o oz cs cd ++ sw cB cI b sz st us mem pl ln) H := by rw [← e_kl, ← e_kb]; exact hP
                        have hD : va_D A (gw h kq sp k o b kp ga gl ++ kw cB k (lnKl kl (nI k9) (nI x) (nI w) (nI nn) (nI off) (nI o9)) (lnW sz mem kb p1 (nI k9) (nI x) (nI w) (nI nn) (nI off) (nI o9)) ++ ow cB o oz cs cd ++ sw cB cI b sz st us mem pl ln) := by rw [← e_kl, ← e_kb]; exact hD
                        exact W.iret (v := (if 4 ≤ o9 then nI i else nI (x + (i * w)))) hx hb hr (fun t ht hW => ⟨⟨(if 4 ≤ o9 then nI i else nI (x + (i * w))), (), rfl, (show (if 4 ≤ o9 then nI i else nI (x + (i * w))) = lnR sz mem p1 (nI k9) (nI x) (nI w) (nI nn) (nI off) (nI o9) from by rw [hR, hv, lnF_s (by omega), if_neg (show ¬ nn ≤ i by omega), if_neg (show ¬ i = 3000 by omega), if_neg (show ¬ ¬ x + i * w + off + k9 ≤ sz by omega), if_pos hq2_100]), by rw [ht]; exact hP, va_K.moved hW.alike hK, hD⟩, hS.F ht⟩) hS.2.2 dX3_linear_120
                    · rw [hcm] at hq2_100
                      refine lv_istore (lv' := [(12, .int (nI 2)), (10, .long (lN (x + (i * w)))), (9, .int (nI i)), (8, .int (nI en)), (0, .ref h), (1, .int p1), (2, .int (nI k9)), (3, .int (nI x)), (4, .int (nI w)), (5, .int (nI nn)), (6, .int (nI off)), (7, .int (nI o9))]) hx hb dX3_linear_103 hl (by decide) rfl (fun ls hl => ?_)
                      refine lv_iload hx hb dX3_linear_105 (lv_at hl 0 rfl) ?_
                      refine lv_iconst (v := (nI 1)) hx hb dX3_linear_107 (by decide) ?_
                      refine lv_icmp_ne (tgt := 121) hx hb dX3_linear_108 (by decide) (fun c_108 => ?_) (fun c_108 => ?_)
                      · have c_108 : ¬ 2 = 1 := fun q => c_108 ((nI_eq (a := 2) (b := 1) (by omega) (by omega)).mpr q)
                        refine lv_iload hx hb dX3_linear_121 (lv_at hl 0 rfl) ?_
                        refine lv_iconst (v := (nI 2)) hx hb dX3_linear_123 (by decide) ?_
                        refine lv_icmp_ne (tgt := 133) hx hb dX3_linear_124 (by decide) (fun c_124 => ?_) (fun c_124 => ?_)
                        · exact absurd c_124 (by decide)
                        · have c_124 : 2 = 2 := (nI_eq (a := 2) (b := 2) (by omega) (by omega)).mp c_124
                          refine lv_iload hx hb dX3_linear_127 (lv_at hl 11 rfl) ?_
                          refine vp_callSi (W.runS (As := [.int (nI o9)]) (rest := []) ⟨hx, hb, hml, hown, hts⟩ (c_X3_noneAnswer l o9 (by omega)) (va_cwS 1 hts gX3_linear_X3_noneAnswer rfl rfl rfl (by decide +kernel) ⟨Nat.le_of_ble_eq_true rfl, Nat.le_of_ble_eq_true rfl⟩) ⟨fun a9 U g9 mk9 q9 => ⟨q9.1, trivial⟩, fun U hU hW => ⟨rfl, trivial⟩⟩ rfl rfl hl.1 rfl (lv_room (Nat.le_of_ble_eq_true rfl)) dX3_linear_129 ⟨Nat.zero_le _, Nat.zero_le _⟩) (fun r_129 hw => ?_)
                          try dsimp only at hw
                          subst hw
                          have e_kl : k9 = lnKl kl (nI k9) (nI x) (nI w) (nI nn) (nI off) (nI o9) := by unfold lnKl; rw [if_neg hnb, show cl (nI k9) = k9 from nI_clamp (by omega)]
                          have e_kb : tkW sz mem p1 k9 o9 kb = lnW sz mem kb p1 (nI k9) (nI x) (nI w) (nI nn) (nI off) (nI o9) := by unfold lnW; rw [if_neg hnb, show cl (nI k9) = k9 from nI_clamp (by omega), show cl (nI o9) = o9 from nI_clamp (by omega)]
                          have hP : va_P (dC, dI) vwCl (gw h kq sp k o b kp ga gl ++ kw cB k (lnKl kl (nI k9) (nI x) (nI w) (nI nn) (nI off) (nI o9)) (lnW sz mem kb p1 (nI k9) (nI x) (nI w) (nI nn) (nI off) (nI o9)) ++ ow cB o oz cs cd ++ sw cB cI b sz st us mem pl ln) H := by rw [← e_kl, ← e_kb]; exact hP
                          have hD : va_D A (gw h kq sp k o b kp ga gl ++ kw cB k (lnKl kl (nI k9) (nI x) (nI w) (nI nn) (nI off) (nI o9)) (lnW sz mem kb p1 (nI k9) (nI x) (nI w) (nI nn) (nI off) (nI o9)) ++ ow cB o oz cs cd ++ sw cB cI b sz st us mem pl ln) := by rw [← e_kl, ← e_kb]; exact hD
                          exact W.iret (v := (noA o9)) hx hb hr (fun t ht hW => ⟨⟨(noA o9), (), rfl, (show (noA o9) = lnR sz mem p1 (nI k9) (nI x) (nI w) (nI nn) (nI off) (nI o9) from by rw [hR, hv, lnF_s (by omega), if_neg (by omega), if_neg (by omega), if_neg (by omega), if_neg hq2_100, if_pos ⟨hq3_100.1, allZb_t hq3_100.2⟩]), by rw [ht]; exact hP, va_K.moved hW.alike hK, hD⟩, hS.F ht⟩) hS.2.2 dX3_linear_132
                      · exact absurd c_108 (by decide)
                    · rw [hcm] at hq2_100
                      refine lv_istore (lv' := [(12, .int (nI 3)), (10, .long (lN (x + (i * w)))), (9, .int (nI i)), (8, .int (nI en)), (0, .ref h), (1, .int p1), (2, .int (nI k9)), (3, .int (nI x)), (4, .int (nI w)), (5, .int (nI nn)), (6, .int (nI off)), (7, .int (nI o9))]) hx hb dX3_linear_103 hl (by decide) rfl (fun ls hl => ?_)
                      refine lv_iload hx hb dX3_linear_105 (lv_at hl 0 rfl) ?_
                      refine lv_iconst (v := (nI 1)) hx hb dX3_linear_107 (by decide) ?_
                      refine lv_icmp_ne (tgt := 121) hx hb dX3_linear_108 (by decide) (fun c_108 => ?_) (fun c_108 => ?_)
                      · have c_108 : ¬ 3 = 1 := fun q => c_108 ((nI_eq (a := 3) (b := 1) (by omega) (by omega)).mpr q)
                        refine lv_iload hx hb dX3_linear_121 (lv_at hl 0 rfl) ?_
                        refine lv_iconst (v := (nI 2)) hx hb dX3_linear_123 (by decide) ?_
                        refine lv_icmp_ne (tgt := 133) hx hb dX3_linear_124 (by decide) (fun c_124 => ?_) (fun c_124 => ?_)
                        · have c_124 : ¬ 3 = 2 := fun q => c_124 ((nI_eq (a := 3) (b := 2) (by omega) (by omega)).mpr q)
                          refine lv_iload hx hb dX3_linear_133 (lv_at hl 0 rfl) ?_
                          refine lv_bipush (v := ((-12))) hx hb dX3_linear_135 (by decide) ?_
                          refine lv_icmp_ne (tgt := 143) hx hb dX3_linear_137 (by decide) (fun c_137 => ?_) (fun c_137 => ?_)
                          · refine lv_iinc (v := (nI (i + 1))) (lv' := [(9, .int (nI (i + 1))), (12, .int (nI 3)), (10, .long (lN (x + (i * w)))), (8, .int (nI en)), (0, .ref h), (1, .int p1), (2, .int (nI k9)), (3, .int (nI x)), (4, .int (nI w)), (5, .int (nI nn)), (6, .int (nI off)), (7, .int (nI o9))]) hx hb dX3_linear_143 hl (k := 2) rfl (nI_inc _) (by decide) rfl (fun ls hl => ?_)
                            refine lv_goto (tgt := 72) hx hb dX3_linear_146 (by decide) ?_
                            exact ih_72 (i + 1) (⟨by omega, by rw [hv, lnF_s (by omega), if_neg (by omega), if_neg (by omega), if_neg (by omega), if_neg hq2_100, if_neg (fun q => hq3_100 ⟨q.1, Classical.not_not.mp (fun z => by rw [allZb_f z] at q; exact absurd q.2 (by decide))⟩)]⟩) (show en - (i + 1) < en - i by omega) ls (lv_sub hl [0, 3, 4, 5, 6, 7, 8, 9, 10, 11] rfl)
                          · exact absurd c_137 (by decide)
                        · exact absurd c_124 (by decide)
                      · exact absurd c_108 (by decide)
                · skip
                  exact absurd c_50 (nI_m1 n_nn)
            · exact absurd c_41 (by decide)
          · skip
            refine lv_if_ne (tgt := 47) hx hb dX3_linear_41 (by decide) (fun c_41 => ?_) (fun c_41 => ?_)
            · exact absurd c_41 (by decide)
            · have c_41 : 0 = 0 := (nZ_eq (by omega)).mp c_41
              refine lv_bipush (v := ((-12))) hx hb dX3_linear_44 (by decide) ?_
              have e_kl : k9 = lnKl kl (nI k9) (nI x) (nI w) p5 (nI off) (nI o9) := by unfold lnKl; rw [if_neg hnb, show cl (nI k9) = k9 from nI_clamp (by omega)]
              have e_kb : tkW sz mem p1 k9 o9 kb = lnW sz mem kb p1 (nI k9) (nI x) (nI w) p5 (nI off) (nI o9) := by unfold lnW; rw [if_neg hnb, show cl (nI k9) = k9 from nI_clamp (by omega), show cl (nI o9) = o9 from nI_clamp (by omega)]
              have hP : va_P (dC, dI) vwCl (gw h kq sp k o b kp ga gl ++ kw cB k (lnKl kl (nI k9) (nI x) (nI w) p5 (nI off) (nI o9)) (lnW sz mem kb p1 (nI k9) (nI x) (nI w) p5 (nI off) (nI o9)) ++ ow cB o oz cs cd ++ sw cB cI b sz st us mem pl ln) H := by rw [← e_kl, ← e_kb]; exact hP
              have hD : va_D A (gw h kq sp k o b kp ga gl ++ kw cB k (lnKl kl (nI k9) (nI x) (nI w) p5 (nI off) (nI o9)) (lnW sz mem kb p1 (nI k9) (nI x) (nI w) p5 (nI off) (nI o9)) ++ ow cB o oz cs cd ++ sw cB cI b sz st us mem pl ln) := by rw [← e_kl, ← e_kb]; exact hD
              exact W.iret (v := ((-12))) hx hb hr (fun t ht hW => ⟨⟨((-12)), (), rfl, (show ((-12)) = lnR sz mem p1 (nI k9) (nI x) (nI w) p5 (nI off) (nI o9) from by unfold lnR; rw [if_neg hnb, show cl (nI k9) = k9 from nI_clamp (by omega), show cl (nI o9) = o9 from nI_clamp (by omega), if_pos htk]), by rw [ht]; exact hP, va_K.moved hW.alike hK, hD⟩, hS.F ht⟩) hS.2.2 dX3_linear_46
        · exact absurd c_20 (by decide)
      · refine lv_if_ne (tgt := 26) hx hb dX3_linear_20 (by decide) (fun c_20 => ?_) (fun c_20 => ?_)
        · exact absurd c_20 (by decide)
        · have c_20 : 0 = 0 := (nZ_eq (by omega)).mp c_20
          refine lv_bipush (v := ((-11))) hx hb dX3_linear_23 (by decide) ?_
          have e_kl : kl = lnKl kl p2 p3 (nI w) p5 p6 p7 := by unfold lnKl; rw [if_pos (by first | exact Or.inl c_2 | exact Or.inr (Or.inl c_8) | exact badL_sr hc_17)]
          have e_kb : kb = lnW sz mem kb p1 p2 p3 (nI w) p5 p6 p7 := by unfold lnW; rw [if_pos (by first | exact Or.inl c_2 | exact Or.inr (Or.inl c_8) | exact badL_sr hc_17)]
          have hP : va_P (dC, dI) vwCl (gw h kq sp k o b kp ga gl ++ kw cB k (lnKl kl p2 p3 (nI w) p5 p6 p7) (lnW sz mem kb p1 p2 p3 (nI w) p5 p6 p7) ++ ow cB o oz cs cd ++ sw cB cI b sz st us mem pl ln) s.heap := by rw [← e_kl, ← e_kb]; exact hP
          have hD : va_D A (gw h kq sp k o b kp ga gl ++ kw cB k (lnKl kl p2 p3 (nI w) p5 p6 p7) (lnW sz mem kb p1 p2 p3 (nI w) p5 p6 p7) ++ ow cB o oz cs cd ++ sw cB cI b sz st us mem pl ln) := by rw [← e_kl, ← e_kb]; exact hD
          exact W.iret (v := ((-11))) hx hb hr (fun t ht hW => ⟨⟨((-11)), (), rfl, (show ((-11)) = lnR sz mem p1 p2 p3 (nI w) p5 p6 p7 from by unfold lnR; rw [if_pos (by first | exact Or.inl c_2 | exact Or.inr (Or.inl c_8) | exact badL_sr hc_17)]), by rw [ht]; exact hP, va_K.moved hW.alike hK, hD⟩, hS.F ht⟩) hS.2.2 dX3_linear_25
