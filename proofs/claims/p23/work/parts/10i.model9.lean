set_option maxHeartbeats 4000000 in
set_option maxRecDepth 100000 in
theorem c_X4_told (l : Launch) (dC : Nat → ClassId) (dI : Nat → Nat → Nat) (cI : ClassId) (a : Nat → Nat) (sz st us kp ga gl cs : Nat) (mem pl ln km ks kt ku kl kn cd wt : Nat → Nat) (p1 : Int32) (gw : wfB sz st us pl ln) : Met l yX4_told wsX4_told ({ frames := 2, cells := 0, slots := 0, locals := 42 }) (va_Pc [.ref (a 0), .int p1] (fun U => va_P (dC, dI) vwCl (mw cI a sz st us kp ga gl cs mem pl ln km ks kt ku kl kn cd wt) U.heap ∧ va_K (dC, dI) vwCl [(cI, .int)] U)) (vp_Si (fun r => r = tdR sz st us kp ga gl cs pl ln p1)) 0 0 (fun _ => False) := by
  refine Met.ofW (cc := cX4_told) (maxL := 5) (ret := (some .int)) (by decide) rfl ?_
  intro p e s m args below meth c s₁ B hml hv
  obtain ⟨rfl, hP, hK⟩ := hv
  have hx := B.exec
  have hb := B.bytes
  have hr := B.returns
  have hts := atoms_spec (ws := wsX4_told) B.pre
  have hown : s.vm.findClass RX4 = some m.cls := findClass_of_methodNamed B.named
  have hlocks := B.notSynchronized
  have in_X4 : ∀ w ∈ wsX40, w ∈ wsX4_told := fun _ h => List.mem_cons_of_mem _ (List.mem_append_right _ h)
  have lk_1 := hts (.fieldLink RX4 71 "GlulxHeapModel" "used" "I") (List.mem_of_getElem? (i := 1) rfl)
  have lk_2 := hts (.fieldLink RX4 16 "GlulxHeapModel" "length" "[I") (List.mem_of_getElem? (i := 2) rfl)
  have lk_3 := hts (.fieldLink RX4 44 "GlulxHeapModel" "size" "I") (List.mem_of_getElem? (i := 3) rfl)
  have lk_4 := hts (.fieldLink RX4 78 "GlulxHeapModel" "start" "I") (List.mem_of_getElem? (i := 4) rfl)
  have lk_5 := hts (.fieldLink RX4 121 "GlulxHeapModel" "kept" "I") (List.mem_of_getElem? (i := 5) rfl)
  have lk_6 := hts (.fieldLink RX4 128 "GlulxHeapModel" "codeSize" "I") (List.mem_of_getElem? (i := 6) rfl)
  have lk_7 := hts (.fieldLink RX4 115 "GlulxHeapModel" "guardAt" "I") (List.mem_of_getElem? (i := 7) rfl)
  have lk_8 := hts (.fieldLink RX4 118 "GlulxHeapModel" "guardLong" "I") (List.mem_of_getElem? (i := 8) rfl)
  have hl := lv_entry ([.ref (a 0), .int p1]) (n := 5) (Nat.le_of_ble_eq_true rfl)
  rw [lg_entry_eq]
  generalize (lg_sl ([.ref (a 0), .int p1]) ++ List.replicate (5 - (lg_sl ([.ref (a 0), .int p1])).length) Slot.unset).toArray = ls at hl ⊢
  have hl : lv_has ls 5 [(0, .ref (a 0)), (1, .int p1)] := hl
  obtain ⟨gw1, gw2, gw3, gw4, gw5, gw6⟩ := id gw
  refine lv_iconst (v := (nI 0)) hx hb dX4_told_0 (by decide) ?_
  refine lv_istore_n (lv' := [(2, .int (nI 0)), (0, .ref (a 0)), (1, .int p1)]) hx hb dX4_told_1 rfl hl (by decide) rfl (fun ls hl => ?_)
  refine lv_iconst (v := (nI 0)) hx hb dX4_told_2 (by decide) ?_
  refine lv_istore_n (lv' := [(3, .int (nI 0)), (2, .int (nI 0)), (0, .ref (a 0)), (1, .int p1)]) hx hb dX4_told_3 rfl hl (by decide) rfl (fun ls hl => ?_)
  refine lv_iconst (v := (nI 0)) hx hb dX4_told_4 (by decide) ?_
  refine lv_istore (lv' := [(4, .int (nI 0)), (3, .int (nI 0)), (2, .int (nI 0)), (0, .ref (a 0)), (1, .int p1)]) hx hb dX4_told_5 hl (by decide) rfl (fun ls hl => ?_)
  refine lp_still (σ := Nat × Nat × Nat) (fun ⟨i, b, g⟩ => i ≤ us ∧ b = sumF ln i ∧ g = gpn sz st us pl ln i) (fun ⟨i, b, g⟩ => us - i) (fun ⟨i, b, g⟩ => [(4, .int (nI i)), (3, .int (nI g)), (2, .int (nI b)), (0, .ref (a 0)), (1, .int p1)]) ?_ ((0, 0, 0)) (⟨by omega, rfl, rfl⟩) (lv_sub hl [0, 1, 2, 3, 4] rfl)
  intro ⟨i, b, g⟩ hI ih ls hl
  have hl : lv_has ls 5 [(4, .int (nI i)), (3, .int (nI g)), (2, .int (nI b)), (0, .ref (a 0)), (1, .int p1)] := hl
  have hI : i ≤ us ∧ b = sumF ln i ∧ g = gpn sz st us pl ln i := hI
  obtain ⟨hi, hb2, hg2⟩ := hI
  have ih_7 := ih
  refine lv_iload hx hb dX4_told_7 (lv_at hl 0 rfl) ?_
  refine lv_aload_n hx hb dX4_told_9 rfl (lv_at hl 3 rfl) ?_
  refine va_get (D := (dC, dI)) (ci := 4) (v := .int (nI us)) (C := RX4) (T := TX4) (N := 18) hx hb hts in_X4 hown hK hP 0 rfl rfl 3 (by decide) lk_1 (fun _ h9 => h9) rfl dX4_told_10 ?_
  refine lv_icmp_ge (tgt := 55) hx hb dX4_told_13 (by decide) (fun c_13 => ?_) (fun c_13 => ?_)
  · have c_13 : us ≤ i := (nI_leI (a := us) (b := i) (by omega) (by omega)).mp c_13
    refine lv_iload_n hx hb dX4_told_55 rfl (lv_at hl 1 rfl) ?_
    refine lv_aload_n hx hb dX4_told_56 rfl (lv_at hl 3 rfl) ?_
    refine va_get (D := (dC, dI)) (ci := 4) (v := .int (nI us)) (C := RX4) (T := TX4) (N := 18) hx hb hts in_X4 hown hK hP 0 rfl rfl 3 (by decide) lk_1 (fun _ h9 => h9) rfl dX4_told_57 ?_
    refine lv_if_le (tgt := 86) hx hb dX4_told_60 (by decide) (fun c_60 => ?_) (fun c_60 => ?_)
    · have c_60 : us ≤ 0 := (nZ_le (by omega)).mp c_60
      refine lv_iconst (v := (nI 0)) hx hb dX4_told_86 (by decide) ?_
      refine lv_iadd hx hb dX4_told_87 ?_
      refine tpi (nI_add _ _) ?_
      refine lv_istore_n (lv' := [(3, .int (nI (g + 0))), (4, .int (nI i)), (2, .int (nI b)), (0, .ref (a 0)), (1, .int p1)]) hx hb dX4_told_88 rfl hl (by decide) rfl (fun ls hl => ?_)
      have hbs : b = sumF ln us := by rw [hb2, show i = us by omega]
      have hgs : g + 0 = gaps sz st us pl ln := by unfold gaps; rw [hg2, show i = us by omega, if_pos (by omega), show us = 0 by omega]; rfl
      refine lv_iload_n hx hb dX4_told_89 rfl (lv_at hl 4 rfl) ?_
      refine lv_if_ne (tgt := 100) hx hb dX4_told_90 (by decide) (fun c_90 => ?_) (fun c_90 => ?_)
      · refine lv_iload_n hx hb dX4_told_100 rfl (lv_at hl 4 rfl) ?_
        refine lv_iconst (v := (nI 1)) hx hb dX4_told_101 (by decide) ?_
        refine lv_icmp_ne (tgt := 112) hx hb dX4_told_102 (by decide) (fun c_102 => ?_) (fun c_102 => ?_)
        · refine lv_iload_n hx hb dX4_told_112 rfl (lv_at hl 4 rfl) ?_
          refine lv_iconst (v := (nI 2)) hx hb dX4_told_113 (by decide) ?_
          refine lv_icmp_ne (tgt := 124) hx hb dX4_told_114 (by decide) (fun c_114 => ?_) (fun c_114 => ?_)
          · refine lv_iload_n hx hb dX4_told_124 rfl (lv_at hl 4 rfl) ?_
            refine lv_iconst (v := (nI 3)) hx hb dX4_told_125 (by decide) ?_
            refine lv_icmp_ne (tgt := 133) hx hb dX4_told_126 (by decide) (fun c_126 => ?_) (fun c_126 => ?_)
            · refine lv_iload_n hx hb dX4_told_133 rfl (lv_at hl 4 rfl) ?_
              refine lv_iconst (v := (nI 4)) hx hb dX4_told_134 (by decide) ?_
              refine lv_icmp_ne (tgt := 142) hx hb dX4_told_135 (by decide) (fun c_135 => ?_) (fun c_135 => ?_)
              · refine lv_iload_n hx hb dX4_told_142 rfl (lv_at hl 4 rfl) ?_
                refine lv_iconst (v := (nI 5)) hx hb dX4_told_143 (by decide) ?_
                refine lv_icmp_ne (tgt := 154) hx hb dX4_told_144 (by decide) (fun c_144 => ?_) (fun c_144 => ?_)
                · refine lv_iload_n hx hb dX4_told_154 rfl (lv_at hl 4 rfl) ?_
                  refine lv_bipush (v := (nI 6)) hx hb dX4_told_155 (by decide) ?_
                  refine lv_icmp_ne (tgt := 167) hx hb dX4_told_157 (by decide) (fun c_157 => ?_) (fun c_157 => ?_)
                  · refine lv_iload_n hx hb dX4_told_167 rfl (lv_at hl 4 rfl) ?_
                    refine lv_bipush (v := (nI 7)) hx hb dX4_told_168 (by decide) ?_
                    refine lv_icmp_ne (tgt := 180) hx hb dX4_told_170 (by decide) (fun c_170 => ?_) (fun c_170 => ?_)
                    · refine lv_iload_n hx hb dX4_told_180 rfl (lv_at hl 4 rfl) ?_
                      refine lv_bipush (v := (nI 8)) hx hb dX4_told_181 (by decide) ?_
                      refine lv_icmp_ne (tgt := 193) hx hb dX4_told_183 (by decide) (fun c_183 => ?_) (fun c_183 => ?_)
                      · refine lv_bipush (v := ((-11))) hx hb dX4_told_193 (by decide) ?_
                        exact W.iret (v := ((-11))) hx hb hr (fun t ht hW => ⟨((-11)), rfl, (show ((-11)) = tdR sz st us kp ga gl cs pl ln p1 from by unfold tdR; rw [if_neg c_90, if_neg c_102, if_neg c_114, if_neg c_126, if_neg c_135, if_neg c_144, if_neg c_157, if_neg c_170, if_neg c_183]), ht⟩) (fun _ h9 => absurd h9 List.not_mem_nil) dX4_told_195
                      · refine lv_aload_n hx hb dX4_told_186 rfl (lv_at hl 3 rfl) ?_
                        refine va_get (D := (dC, dI)) (ci := 4) (v := .int (nI gl)) (C := RX4) (T := TX4) (N := 18) hx hb hts in_X4 hown hK hP 0 rfl rfl 14 (by decide) lk_8 (fun _ h9 => h9) rfl dX4_told_187 ?_
                        refine lv_goto (tgt := 195) hx hb dX4_told_190 (by decide) ?_
                        exact W.iret (v := (nI gl)) hx hb hr (fun t ht hW => ⟨(nI gl), rfl, (show (nI gl) = tdR sz st us kp ga gl cs pl ln p1 from by unfold tdR; rw [if_neg c_90, if_neg c_102, if_neg c_114, if_neg c_126, if_neg c_135, if_neg c_144, if_neg c_157, if_neg c_170, if_pos c_183]), ht⟩) (fun _ h9 => absurd h9 List.not_mem_nil) dX4_told_195
                    · refine lv_aload_n hx hb dX4_told_173 rfl (lv_at hl 3 rfl) ?_
                      refine va_get (D := (dC, dI)) (ci := 4) (v := .int (nI ga)) (C := RX4) (T := TX4) (N := 18) hx hb hts in_X4 hown hK hP 0 rfl rfl 13 (by decide) lk_7 (fun _ h9 => h9) rfl dX4_told_174 ?_
                      refine lv_goto (tgt := 195) hx hb dX4_told_177 (by decide) ?_
                      exact W.iret (v := (nI ga)) hx hb hr (fun t ht hW => ⟨(nI ga), rfl, (show (nI ga) = tdR sz st us kp ga gl cs pl ln p1 from by unfold tdR; rw [if_neg c_90, if_neg c_102, if_neg c_114, if_neg c_126, if_neg c_135, if_neg c_144, if_neg c_157, if_pos c_170]), ht⟩) (fun _ h9 => absurd h9 List.not_mem_nil) dX4_told_195
                  · refine lv_aload_n hx hb dX4_told_160 rfl (lv_at hl 3 rfl) ?_
                    refine va_get (D := (dC, dI)) (ci := 4) (v := .int (nI cs)) (C := RX4) (T := TX4) (N := 18) hx hb hts in_X4 hown hK hP 0 rfl rfl 16 (by decide) lk_6 (fun _ h9 => h9) rfl dX4_told_161 ?_
                    refine lv_goto (tgt := 195) hx hb dX4_told_164 (by decide) ?_
                    exact W.iret (v := (nI cs)) hx hb hr (fun t ht hW => ⟨(nI cs), rfl, (show (nI cs) = tdR sz st us kp ga gl cs pl ln p1 from by unfold tdR; rw [if_neg c_90, if_neg c_102, if_neg c_114, if_neg c_126, if_neg c_135, if_neg c_144, if_pos c_157]), ht⟩) (fun _ h9 => absurd h9 List.not_mem_nil) dX4_told_195
                · refine lv_aload_n hx hb dX4_told_147 rfl (lv_at hl 3 rfl) ?_
                  refine va_get (D := (dC, dI)) (ci := 4) (v := .int (nI kp)) (C := RX4) (T := TX4) (N := 18) hx hb hts in_X4 hown hK hP 0 rfl rfl 6 (by decide) lk_5 (fun _ h9 => h9) rfl dX4_told_148 ?_
                  refine lv_goto (tgt := 195) hx hb dX4_told_151 (by decide) ?_
                  exact W.iret (v := (nI kp)) hx hb hr (fun t ht hW => ⟨(nI kp), rfl, (show (nI kp) = tdR sz st us kp ga gl cs pl ln p1 from by unfold tdR; rw [if_neg c_90, if_neg c_102, if_neg c_114, if_neg c_126, if_neg c_135, if_pos c_144]), ht⟩) (fun _ h9 => absurd h9 List.not_mem_nil) dX4_told_195
              · refine lv_iload_n hx hb dX4_told_138 rfl (lv_at hl 0 rfl) ?_
                refine lv_goto (tgt := 195) hx hb dX4_told_139 (by decide) ?_
                exact W.iret (v := (nI (g + 0))) hx hb hr (fun t ht hW => ⟨(nI (g + 0)), rfl, (show (nI (g + 0)) = tdR sz st us kp ga gl cs pl ln p1 from by unfold tdR; rw [if_neg c_90, if_neg c_102, if_neg c_114, if_neg c_126, if_pos c_135, ← hgs]), ht⟩) (fun _ h9 => absurd h9 List.not_mem_nil) dX4_told_195
            · refine lv_iload_n hx hb dX4_told_129 rfl (lv_at hl 2 rfl) ?_
              refine lv_goto (tgt := 195) hx hb dX4_told_130 (by decide) ?_
              exact W.iret (v := (nI b)) hx hb hr (fun t ht hW => ⟨(nI b), rfl, (show (nI b) = tdR sz st us kp ga gl cs pl ln p1 from by unfold tdR; rw [if_neg c_90, if_neg c_102, if_neg c_114, if_pos c_126, ← hbs]), ht⟩) (fun _ h9 => absurd h9 List.not_mem_nil) dX4_told_195
          · refine lv_aload_n hx hb dX4_told_117 rfl (lv_at hl 3 rfl) ?_
            refine va_get (D := (dC, dI)) (ci := 4) (v := .int (nI us)) (C := RX4) (T := TX4) (N := 18) hx hb hts in_X4 hown hK hP 0 rfl rfl 3 (by decide) lk_1 (fun _ h9 => h9) rfl dX4_told_118 ?_
            refine lv_goto (tgt := 195) hx hb dX4_told_121 (by decide) ?_
            exact W.iret (v := (nI us)) hx hb hr (fun t ht hW => ⟨(nI us), rfl, (show (nI us) = tdR sz st us kp ga gl cs pl ln p1 from by unfold tdR; rw [if_neg c_90, if_neg c_102, if_pos c_114]), ht⟩) (fun _ h9 => absurd h9 List.not_mem_nil) dX4_told_195
        · refine lv_aload_n hx hb dX4_told_105 rfl (lv_at hl 3 rfl) ?_
          refine va_get (D := (dC, dI)) (ci := 4) (v := .int (nI st)) (C := RX4) (T := TX4) (N := 18) hx hb hts in_X4 hown hK hP 0 rfl rfl 2 (by decide) lk_4 (fun _ h9 => h9) rfl dX4_told_106 ?_
          refine lv_goto (tgt := 195) hx hb dX4_told_109 (by decide) ?_
          exact W.iret (v := (nI st)) hx hb hr (fun t ht hW => ⟨(nI st), rfl, (show (nI st) = tdR sz st us kp ga gl cs pl ln p1 from by unfold tdR; rw [if_neg c_90, if_pos c_102]), ht⟩) (fun _ h9 => absurd h9 List.not_mem_nil) dX4_told_195
      · refine lv_aload_n hx hb dX4_told_93 rfl (lv_at hl 3 rfl) ?_
        refine va_get (D := (dC, dI)) (ci := 4) (v := .int (nI sz)) (C := RX4) (T := TX4) (N := 18) hx hb hts in_X4 hown hK hP 0 rfl rfl 1 (by decide) lk_3 (fun _ h9 => h9) rfl dX4_told_94 ?_
        refine lv_goto (tgt := 195) hx hb dX4_told_97 (by decide) ?_
        exact W.iret (v := (nI sz)) hx hb hr (fun t ht hW => ⟨(nI sz), rfl, (show (nI sz) = tdR sz st us kp ga gl cs pl ln p1 from by unfold tdR; rw [if_pos c_90]), ht⟩) (fun _ h9 => absurd h9 List.not_mem_nil) dX4_told_195
    · have c_60 : ¬ us ≤ 0 := fun q => c_60 ((nZ_le (by omega)).mpr q)
      refine lv_aload_n hx hb dX4_told_63 rfl (lv_at hl 3 rfl) ?_
      refine lv_aload_n hx hb dX4_told_64 rfl (lv_at hl 3 rfl) ?_
      refine va_get (D := (dC, dI)) (ci := 4) (v := .int (nI us)) (C := RX4) (T := TX4) (N := 18) hx hb hts in_X4 hown hK hP 0 rfl rfl 3 (by decide) lk_1 (fun _ h9 => h9) rfl dX4_told_65 ?_
      refine vp_callSi (W.runV (As := [.int (nI us)]) (rest := [.int (nI g)]) ⟨hx, hb, hml, hown, hts⟩ (c_X4_gapEnd l dC dI cI a sz st us kp ga gl cs mem pl ln km ks kt ku kl kn cd wt us (by omega) (by omega)) (cwV 1 hts gX4_told_X4_gapEnd rfl rfl rfl (by decide +kernel) ⟨Nat.le_of_ble_eq_true rfl, Nat.le_of_ble_eq_true rfl⟩) ⟨fun a9 U g9 mk9 q9 => by obtain ⟨q0, qP, qK⟩ := q9; exact ⟨q0, qP, va_K.moved (u := U) (U := U.calling g9 mk9 a9) (Vm.Alike.refl U.vm) qK⟩, va_recv hK hP (ci := 4) (q0 := 0) rfl rfl, fun U hU hW => ⟨rfl, by rw [hU]; exact hP, va_K.moved hW.alike hK⟩⟩ rfl rfl hl.1 rfl (lv_room (Nat.le_of_ble_eq_true rfl)) dX4_told_68 ⟨Nat.zero_le _, Nat.zero_le _⟩) (fun r_68 hw => ?_)
      try dsimp only at hw
      subst hw
      have we_68 := gEn_le gw (i := us) (by omega)
      refine lv_aload_n hx hb dX4_told_71 rfl (lv_at hl 3 rfl) ?_
      refine lv_aload_n hx hb dX4_told_72 rfl (lv_at hl 3 rfl) ?_
      refine va_get (D := (dC, dI)) (ci := 4) (v := .int (nI us)) (C := RX4) (T := TX4) (N := 18) hx hb hts in_X4 hown hK hP 0 rfl rfl 3 (by decide) lk_1 (fun _ h9 => h9) rfl dX4_told_73 ?_
      refine vp_callSi (W.runV (As := [.int (nI us)]) (rest := [.int (nI (gEn sz us pl us)), .int (nI g)]) ⟨hx, hb, hml, hown, hts⟩ (c_X4_gapAt l dC dI cI a sz st us kp ga gl cs mem pl ln km ks kt ku kl kn cd wt us (by omega)) (cwV 1 hts gX4_told_X4_gapAt rfl rfl rfl (by decide +kernel) ⟨Nat.le_of_ble_eq_true rfl, Nat.le_of_ble_eq_true rfl⟩) ⟨fun a9 U g9 mk9 q9 => by obtain ⟨q0, qP, qK⟩ := q9; exact ⟨q0, qP, va_K.moved (u := U) (U := U.calling g9 mk9 a9) (Vm.Alike.refl U.vm) qK⟩, va_recv hK hP (ci := 4) (q0 := 0) rfl rfl, fun U hU hW => ⟨rfl, by rw [hU]; exact hP, va_K.moved hW.alike hK⟩⟩ rfl rfl hl.1 rfl (lv_room (Nat.le_of_ble_eq_true rfl)) dX4_told_76 ⟨Nat.zero_le _, Nat.zero_le _⟩) (fun r_76 hw => ?_)
      try dsimp only at hw
      subst hw
      have wg_76 := gAt_le gw (i := us) (by omega)
      refine lv_icmp_le (tgt := 86) hx hb dX4_told_79 (by decide) (fun c_79 => ?_) (fun c_79 => ?_)
      · have c_79 : gEn sz us pl us ≤ gAt st pl ln us := (nI_leI (a := gEn sz us pl us) (b := gAt st pl ln us) (by omega) (by omega)).mp c_79
        refine lv_iconst (v := (nI 0)) hx hb dX4_told_86 (by decide) ?_
        refine lv_iadd hx hb dX4_told_87 ?_
        refine tpi (nI_add _ _) ?_
        refine lv_istore_n (lv' := [(3, .int (nI (g + 0))), (4, .int (nI i)), (2, .int (nI b)), (0, .ref (a 0)), (1, .int p1)]) hx hb dX4_told_88 rfl hl (by decide) rfl (fun ls hl => ?_)
        have hbs : b = sumF ln us := by rw [hb2, show i = us by omega]
        have hgs : g + 0 = gaps sz st us pl ln := by unfold gaps; rw [hg2, show i = us by omega, if_neg (by omega), gpn_s, if_neg (by omega)]
        refine lv_iload_n hx hb dX4_told_89 rfl (lv_at hl 4 rfl) ?_
        refine lv_if_ne (tgt := 100) hx hb dX4_told_90 (by decide) (fun c_90 => ?_) (fun c_90 => ?_)
        · refine lv_iload_n hx hb dX4_told_100 rfl (lv_at hl 4 rfl) ?_
          refine lv_iconst (v := (nI 1)) hx hb dX4_told_101 (by decide) ?_
          refine lv_icmp_ne (tgt := 112) hx hb dX4_told_102 (by decide) (fun c_102 => ?_) (fun c_102 => ?_)
          · refine lv_iload_n hx hb dX4_told_112 rfl (lv_at hl 4 rfl) ?_
            refine lv_iconst (v := (nI 2)) hx hb dX4_told_113 (by decide) ?_
            refine lv_icmp_ne (tgt := 124) hx hb dX4_told_114 (by decide) (fun c_114 => ?_) (fun c_114 => ?_)
            · refine lv_iload_n hx hb dX4_told_124 rfl (lv_at hl 4 rfl) ?_
              refine lv_iconst (v := (nI 3)) hx hb dX4_told_125 (by decide) ?_
              refine lv_icmp_ne (tgt := 133) hx hb dX4_told_126 (by decide) (fun c_126 => ?_) (fun c_126 => ?_)
              · refine lv_iload_n hx hb dX4_told_133 rfl (lv_at hl 4 rfl) ?_
                refine lv_iconst (v := (nI 4)) hx hb dX4_told_134 (by decide) ?_
                refine lv_icmp_ne (tgt := 142) hx hb dX4_told_135 (by decide) (fun c_135 => ?_) (fun c_135 => ?_)
                · refine lv_iload_n hx hb dX4_told_142 rfl (lv_at hl 4 rfl) ?_
                  refine lv_iconst (v := (nI 5)) hx hb dX4_told_143 (by decide) ?_
                  refine lv_icmp_ne (tgt := 154) hx hb dX4_told_144 (by decide) (fun c_144 => ?_) (fun c_144 => ?_)
                  · refine lv_iload_n hx hb dX4_told_154 rfl (lv_at hl 4 rfl) ?_
                    refine lv_bipush (v := (nI 6)) hx hb dX4_told_155 (by decide) ?_
                    refine lv_icmp_ne (tgt := 167) hx hb dX4_told_157 (by decide) (fun c_157 => ?_) (fun c_157 => ?_)
                    · refine lv_iload_n hx hb dX4_told_167 rfl (lv_at hl 4 rfl) ?_
                      refine lv_bipush (v := (nI 7)) hx hb dX4_told_168 (by decide) ?_
                      refine lv_icmp_ne (tgt := 180) hx hb dX4_told_170 (by decide) (fun c_170 => ?_) (fun c_170 => ?_)
                      · refine lv_iload_n hx hb dX4_told_180 rfl (lv_at hl 4 rfl) ?_
                        refine lv_bipush (v := (nI 8)) hx hb dX4_told_181 (by decide) ?_
                        refine lv_icmp_ne (tgt := 193) hx hb dX4_told_183 (by decide) (fun c_183 => ?_) (fun c_183 => ?_)
                        · refine lv_bipush (v := ((-11))) hx hb dX4_told_193 (by decide) ?_
                          exact W.iret (v := ((-11))) hx hb hr (fun t ht hW => ⟨((-11)), rfl, (show ((-11)) = tdR sz st us kp ga gl cs pl ln p1 from by unfold tdR; rw [if_neg c_90, if_neg c_102, if_neg c_114, if_neg c_126, if_neg c_135, if_neg c_144, if_neg c_157, if_neg c_170, if_neg c_183]), ht⟩) (fun _ h9 => absurd h9 List.not_mem_nil) dX4_told_195
                        · refine lv_aload_n hx hb dX4_told_186 rfl (lv_at hl 3 rfl) ?_
                          refine va_get (D := (dC, dI)) (ci := 4) (v := .int (nI gl)) (C := RX4) (T := TX4) (N := 18) hx hb hts in_X4 hown hK hP 0 rfl rfl 14 (by decide) lk_8 (fun _ h9 => h9) rfl dX4_told_187 ?_
                          refine lv_goto (tgt := 195) hx hb dX4_told_190 (by decide) ?_
                          exact W.iret (v := (nI gl)) hx hb hr (fun t ht hW => ⟨(nI gl), rfl, (show (nI gl) = tdR sz st us kp ga gl cs pl ln p1 from by unfold tdR; rw [if_neg c_90, if_neg c_102, if_neg c_114, if_neg c_126, if_neg c_135, if_neg c_144, if_neg c_157, if_neg c_170, if_pos c_183]), ht⟩) (fun _ h9 => absurd h9 List.not_mem_nil) dX4_told_195
                      · refine lv_aload_n hx hb dX4_told_173 rfl (lv_at hl 3 rfl) ?_
                        refine va_get (D := (dC, dI)) (ci := 4) (v := .int (nI ga)) (C := RX4) (T := TX4) (N := 18) hx hb hts in_X4 hown hK hP 0 rfl rfl 13 (by decide) lk_7 (fun _ h9 => h9) rfl dX4_told_174 ?_
                        refine lv_goto (tgt := 195) hx hb dX4_told_177 (by decide) ?_
                        exact W.iret (v := (nI ga)) hx hb hr (fun t ht hW => ⟨(nI ga), rfl, (show (nI ga) = tdR sz st us kp ga gl cs pl ln p1 from by unfold tdR; rw [if_neg c_90, if_neg c_102, if_neg c_114, if_neg c_126, if_neg c_135, if_neg c_144, if_neg c_157, if_pos c_170]), ht⟩) (fun _ h9 => absurd h9 List.not_mem_nil) dX4_told_195
                    · refine lv_aload_n hx hb dX4_told_160 rfl (lv_at hl 3 rfl) ?_
                      refine va_get (D := (dC, dI)) (ci := 4) (v := .int (nI cs)) (C := RX4) (T := TX4) (N := 18) hx hb hts in_X4 hown hK hP 0 rfl rfl 16 (by decide) lk_6 (fun _ h9 => h9) rfl dX4_told_161 ?_
                      refine lv_goto (tgt := 195) hx hb dX4_told_164 (by decide) ?_
                      exact W.iret (v := (nI cs)) hx hb hr (fun t ht hW => ⟨(nI cs), rfl, (show (nI cs) = tdR sz st us kp ga gl cs pl ln p1 from by unfold tdR; rw [if_neg c_90, if_neg c_102, if_neg c_114, if_neg c_126, if_neg c_135, if_neg c_144, if_pos c_157]), ht⟩) (fun _ h9 => absurd h9 List.not_mem_nil) dX4_told_195
                  · refine lv_aload_n hx hb dX4_told_147 rfl (lv_at hl 3 rfl) ?_
                    refine va_get (D := (dC, dI)) (ci := 4) (v := .int (nI kp)) (C := RX4) (T := TX4) (N := 18) hx hb hts in_X4 hown hK hP 0 rfl rfl 6 (by decide) lk_5 (fun _ h9 => h9) rfl dX4_told_148 ?_
                    refine lv_goto (tgt := 195) hx hb dX4_told_151 (by decide) ?_
                    exact W.iret (v := (nI kp)) hx hb hr (fun t ht hW => ⟨(nI kp), rfl, (show (nI kp) = tdR sz st us kp ga gl cs pl ln p1 from by unfold tdR; rw [if_neg c_90, if_neg c_102, if_neg c_114, if_neg c_126, if_neg c_135, if_pos c_144]), ht⟩) (fun _ h9 => absurd h9 List.not_mem_nil) dX4_told_195
                · refine lv_iload_n hx hb dX4_told_138 rfl (lv_at hl 0 rfl) ?_
                  refine lv_goto (tgt := 195) hx hb dX4_told_139 (by decide) ?_
                  exact W.iret (v := (nI (g + 0))) hx hb hr (fun t ht hW => ⟨(nI (g + 0)), rfl, (show (nI (g + 0)) = tdR sz st us kp ga gl cs pl ln p1 from by unfold tdR; rw [if_neg c_90, if_neg c_102, if_neg c_114, if_neg c_126, if_pos c_135, ← hgs]), ht⟩) (fun _ h9 => absurd h9 List.not_mem_nil) dX4_told_195
              · refine lv_iload_n hx hb dX4_told_129 rfl (lv_at hl 2 rfl) ?_
                refine lv_goto (tgt := 195) hx hb dX4_told_130 (by decide) ?_
                exact W.iret (v := (nI b)) hx hb hr (fun t ht hW => ⟨(nI b), rfl, (show (nI b) = tdR sz st us kp ga gl cs pl ln p1 from by unfold tdR; rw [if_neg c_90, if_neg c_102, if_neg c_114, if_pos c_126, ← hbs]), ht⟩) (fun _ h9 => absurd h9 List.not_mem_nil) dX4_told_195
            · refine lv_aload_n hx hb dX4_told_117 rfl (lv_at hl 3 rfl) ?_
              refine va_get (D := (dC, dI)) (ci := 4) (v := .int (nI us)) (C := RX4) (T := TX4) (N := 18) hx hb hts in_X4 hown hK hP 0 rfl rfl 3 (by decide) lk_1 (fun _ h9 => h9) rfl dX4_told_118 ?_
              refine lv_goto (tgt := 195) hx hb dX4_told_121 (by decide) ?_
              exact W.iret (v := (nI us)) hx hb hr (fun t ht hW => ⟨(nI us), rfl, (show (nI us) = tdR sz st us kp ga gl cs pl ln p1 from by unfold tdR; rw [if_neg c_90, if_neg c_102, if_pos c_114]), ht⟩) (fun _ h9 => absurd h9 List.not_mem_nil) dX4_told_195
          · refine lv_aload_n hx hb dX4_told_105 rfl (lv_at hl 3 rfl) ?_
            refine va_get (D := (dC, dI)) (ci := 4) (v := .int (nI st)) (C := RX4) (T := TX4) (N := 18) hx hb hts in_X4 hown hK hP 0 rfl rfl 2 (by decide) lk_4 (fun _ h9 => h9) rfl dX4_told_106 ?_
            refine lv_goto (tgt := 195) hx hb dX4_told_109 (by decide) ?_
            exact W.iret (v := (nI st)) hx hb hr (fun t ht hW => ⟨(nI st), rfl, (show (nI st) = tdR sz st us kp ga gl cs pl ln p1 from by unfold tdR; rw [if_neg c_90, if_pos c_102]), ht⟩) (fun _ h9 => absurd h9 List.not_mem_nil) dX4_told_195
        · refine lv_aload_n hx hb dX4_told_93 rfl (lv_at hl 3 rfl) ?_
          refine va_get (D := (dC, dI)) (ci := 4) (v := .int (nI sz)) (C := RX4) (T := TX4) (N := 18) hx hb hts in_X4 hown hK hP 0 rfl rfl 1 (by decide) lk_3 (fun _ h9 => h9) rfl dX4_told_94 ?_
          refine lv_goto (tgt := 195) hx hb dX4_told_97 (by decide) ?_
          exact W.iret (v := (nI sz)) hx hb hr (fun t ht hW => ⟨(nI sz), rfl, (show (nI sz) = tdR sz st us kp ga gl cs pl ln p1 from by unfold tdR; rw [if_pos c_90]), ht⟩) (fun _ h9 => absurd h9 List.not_mem_nil) dX4_told_195
      · have c_79 : ¬ gEn sz us pl us ≤ gAt st pl ln us := fun q => c_79 ((nI_leI (a := gEn sz us pl us) (b := gAt st pl ln us) (by omega) (by omega)).mpr q)
        refine lv_iconst (v := (nI 1)) hx hb dX4_told_82 (by decide) ?_
        refine lv_goto (tgt := 87) hx hb dX4_told_83 (by decide) ?_
        refine lv_iadd hx hb dX4_told_87 ?_
        refine tpi (nI_add _ _) ?_
        refine lv_istore_n (lv' := [(3, .int (nI (g + 1))), (4, .int (nI i)), (2, .int (nI b)), (0, .ref (a 0)), (1, .int p1)]) hx hb dX4_told_88 rfl hl (by decide) rfl (fun ls hl => ?_)
        have hbs : b = sumF ln us := by rw [hb2, show i = us by omega]
        have hgs : g + 1 = gaps sz st us pl ln := by unfold gaps; rw [hg2, show i = us by omega, if_neg (by omega), gpn_s, if_pos (by omega)]
        refine lv_iload_n hx hb dX4_told_89 rfl (lv_at hl 4 rfl) ?_
        refine lv_if_ne (tgt := 100) hx hb dX4_told_90 (by decide) (fun c_90 => ?_) (fun c_90 => ?_)
        · refine lv_iload_n hx hb dX4_told_100 rfl (lv_at hl 4 rfl) ?_
          refine lv_iconst (v := (nI 1)) hx hb dX4_told_101 (by decide) ?_
          refine lv_icmp_ne (tgt := 112) hx hb dX4_told_102 (by decide) (fun c_102 => ?_) (fun c_102 => ?_)
          · refine lv_iload_n hx hb dX4_told_112 rfl (lv_at hl 4 rfl) ?_
            refine lv_iconst (v := (nI 2)) hx hb dX4_told_113 (by decide) ?_
            refine lv_icmp_ne (tgt := 124) hx hb dX4_told_114 (by decide) (fun c_114 => ?_) (fun c_114 => ?_)
            · refine lv_iload_n hx hb dX4_told_124 rfl (lv_at hl 4 rfl) ?_
              refine lv_iconst (v := (nI 3)) hx hb dX4_told_125 (by decide) ?_
              refine lv_icmp_ne (tgt := 133) hx hb dX4_told_126 (by decide) (fun c_126 => ?_) (fun c_126 => ?_)
              · refine lv_iload_n hx hb dX4_told_133 rfl (lv_at hl 4 rfl) ?_
                refine lv_iconst (v := (nI 4)) hx hb dX4_told_134 (by decide) ?_
                refine lv_icmp_ne (tgt := 142) hx hb dX4_told_135 (by decide) (fun c_135 => ?_) (fun c_135 => ?_)
                · refine lv_iload_n hx hb dX4_told_142 rfl (lv_at hl 4 rfl) ?_
                  refine lv_iconst (v := (nI 5)) hx hb dX4_told_143 (by decide) ?_
                  refine lv_icmp_ne (tgt := 154) hx hb dX4_told_144 (by decide) (fun c_144 => ?_) (fun c_144 => ?_)
                  · refine lv_iload_n hx hb dX4_told_154 rfl (lv_at hl 4 rfl) ?_
                    refine lv_bipush (v := (nI 6)) hx hb dX4_told_155 (by decide) ?_
                    refine lv_icmp_ne (tgt := 167) hx hb dX4_told_157 (by decide) (fun c_157 => ?_) (fun c_157 => ?_)
                    · refine lv_iload_n hx hb dX4_told_167 rfl (lv_at hl 4 rfl) ?_
                      refine lv_bipush (v := (nI 7)) hx hb dX4_told_168 (by decide) ?_
                      refine lv_icmp_ne (tgt := 180) hx hb dX4_told_170 (by decide) (fun c_170 => ?_) (fun c_170 => ?_)
                      · refine lv_iload_n hx hb dX4_told_180 rfl (lv_at hl 4 rfl) ?_
                        refine lv_bipush (v := (nI 8)) hx hb dX4_told_181 (by decide) ?_
                        refine lv_icmp_ne (tgt := 193) hx hb dX4_told_183 (by decide) (fun c_183 => ?_) (fun c_183 => ?_)
                        · refine lv_bipush (v := ((-11))) hx hb dX4_told_193 (by decide) ?_
                          exact W.iret (v := ((-11))) hx hb hr (fun t ht hW => ⟨((-11)), rfl, (show ((-11)) = tdR sz st us kp ga gl cs pl ln p1 from by unfold tdR; rw [if_neg c_90, if_neg c_102, if_neg c_114, if_neg c_126, if_neg c_135, if_neg c_144, if_neg c_157, if_neg c_170, if_neg c_183]), ht⟩) (fun _ h9 => absurd h9 List.not_mem_nil) dX4_told_195
                        · refine lv_aload_n hx hb dX4_told_186 rfl (lv_at hl 3 rfl) ?_
                          refine va_get (D := (dC, dI)) (ci := 4) (v := .int (nI gl)) (C := RX4) (T := TX4) (N := 18) hx hb hts in_X4 hown hK hP 0 rfl rfl 14 (by decide) lk_8 (fun _ h9 => h9) rfl dX4_told_187 ?_
                          refine lv_goto (tgt := 195) hx hb dX4_told_190 (by decide) ?_
                          exact W.iret (v := (nI gl)) hx hb hr (fun t ht hW => ⟨(nI gl), rfl, (show (nI gl) = tdR sz st us kp ga gl cs pl ln p1 from by unfold tdR; rw [if_neg c_90, if_neg c_102, if_neg c_114, if_neg c_126, if_neg c_135, if_neg c_144, if_neg c_157, if_neg c_170, if_pos c_183]), ht⟩) (fun _ h9 => absurd h9 List.not_mem_nil) dX4_told_195
                      · refine lv_aload_n hx hb dX4_told_173 rfl (lv_at hl 3 rfl) ?_
                        refine va_get (D := (dC, dI)) (ci := 4) (v := .int (nI ga)) (C := RX4) (T := TX4) (N := 18) hx hb hts in_X4 hown hK hP 0 rfl rfl 13 (by decide) lk_7 (fun _ h9 => h9) rfl dX4_told_174 ?_
                        refine lv_goto (tgt := 195) hx hb dX4_told_177 (by decide) ?_
                        exact W.iret (v := (nI ga)) hx hb hr (fun t ht hW => ⟨(nI ga), rfl, (show (nI ga) = tdR sz st us kp ga gl cs pl ln p1 from by unfold tdR; rw [if_neg c_90, if_neg c_102, if_neg c_114, if_neg c_126, if_neg c_135, if_neg c_144, if_neg c_157, if_pos c_170]), ht⟩) (fun _ h9 => absurd h9 List.not_mem_nil) dX4_told_195
                    · refine lv_aload_n hx hb dX4_told_160 rfl (lv_at hl 3 rfl) ?_
                      refine va_get (D := (dC, dI)) (ci := 4) (v := .int (nI cs)) (C := RX4) (T := TX4) (N := 18) hx hb hts in_X4 hown hK hP 0 rfl rfl 16 (by decide) lk_6 (fun _ h9 => h9) rfl dX4_told_161 ?_
                      refine lv_goto (tgt := 195) hx hb dX4_told_164 (by decide) ?_
                      exact W.iret (v := (nI cs)) hx hb hr (fun t ht hW => ⟨(nI cs), rfl, (show (nI cs) = tdR sz st us kp ga gl cs pl ln p1 from by unfold tdR; rw [if_neg c_90, if_neg c_102, if_neg c_114, if_neg c_126, if_neg c_135, if_neg c_144, if_pos c_157]), ht⟩) (fun _ h9 => absurd h9 List.not_mem_nil) dX4_told_195
                  · refine lv_aload_n hx hb dX4_told_147 rfl (lv_at hl 3 rfl) ?_
                    refine va_get (D := (dC, dI)) (ci := 4) (v := .int (nI kp)) (C := RX4) (T := TX4) (N := 18) hx hb hts in_X4 hown hK hP 0 rfl rfl 6 (by decide) lk_5 (fun _ h9 => h9) rfl dX4_told_148 ?_
                    refine lv_goto (tgt := 195) hx hb dX4_told_151 (by decide) ?_
                    exact W.iret (v := (nI kp)) hx hb hr (fun t ht hW => ⟨(nI kp), rfl, (show (nI kp) = tdR sz st us kp ga gl cs pl ln p1 from by unfold tdR; rw [if_neg c_90, if_neg c_102, if_neg c_114, if_neg c_126, if_neg c_135, if_pos c_144]), ht⟩) (fun _ h9 => absurd h9 List.not_mem_nil) dX4_told_195
                · refine lv_iload_n hx hb dX4_told_138 rfl (lv_at hl 0 rfl) ?_
                  refine lv_goto (tgt := 195) hx hb dX4_told_139 (by decide) ?_
                  exact W.iret (v := (nI (g + 1))) hx hb hr (fun t ht hW => ⟨(nI (g + 1)), rfl, (show (nI (g + 1)) = tdR sz st us kp ga gl cs pl ln p1 from by unfold tdR; rw [if_neg c_90, if_neg c_102, if_neg c_114, if_neg c_126, if_pos c_135, ← hgs]), ht⟩) (fun _ h9 => absurd h9 List.not_mem_nil) dX4_told_195
              · refine lv_iload_n hx hb dX4_told_129 rfl (lv_at hl 2 rfl) ?_
                refine lv_goto (tgt := 195) hx hb dX4_told_130 (by decide) ?_
                exact W.iret (v := (nI b)) hx hb hr (fun t ht hW => ⟨(nI b), rfl, (show (nI b) = tdR sz st us kp ga gl cs pl ln p1 from by unfold tdR; rw [if_neg c_90, if_neg c_102, if_neg c_114, if_pos c_126, ← hbs]), ht⟩) (fun _ h9 => absurd h9 List.not_mem_nil) dX4_told_195
            · refine lv_aload_n hx hb dX4_told_117 rfl (lv_at hl 3 rfl) ?_
              refine va_get (D := (dC, dI)) (ci := 4) (v := .int (nI us)) (C := RX4) (T := TX4) (N := 18) hx hb hts in_X4 hown hK hP 0 rfl rfl 3 (by decide) lk_1 (fun _ h9 => h9) rfl dX4_told_118 ?_
              refine lv_goto (tgt := 195) hx hb dX4_told_121 (by decide) ?_
              exact W.iret (v := (nI us)) hx hb hr (fun t ht hW => ⟨(nI us), rfl, (show (nI us) = tdR sz st us kp ga gl cs pl ln p1 from by unfold tdR; rw [if_neg c_90, if_neg c_102, if_pos c_114]), ht⟩) (fun _ h9 => absurd h9 List.not_mem_nil) dX4_told_195
          · refine lv_aload_n hx hb dX4_told_105 rfl (lv_at hl 3 rfl) ?_
            refine va_get (D := (dC, dI)) (ci := 4) (v := .int (nI st)) (C := RX4) (T := TX4) (N := 18) hx hb hts in_X4 hown hK hP 0 rfl rfl 2 (by decide) lk_4 (fun _ h9 => h9) rfl dX4_told_106 ?_
            refine lv_goto (tgt := 195) hx hb dX4_told_109 (by decide) ?_
            exact W.iret (v := (nI st)) hx hb hr (fun t ht hW => ⟨(nI st), rfl, (show (nI st) = tdR sz st us kp ga gl cs pl ln p1 from by unfold tdR; rw [if_neg c_90, if_pos c_102]), ht⟩) (fun _ h9 => absurd h9 List.not_mem_nil) dX4_told_195
        · refine lv_aload_n hx hb dX4_told_93 rfl (lv_at hl 3 rfl) ?_
          refine va_get (D := (dC, dI)) (ci := 4) (v := .int (nI sz)) (C := RX4) (T := TX4) (N := 18) hx hb hts in_X4 hown hK hP 0 rfl rfl 1 (by decide) lk_3 (fun _ h9 => h9) rfl dX4_told_94 ?_
          refine lv_goto (tgt := 195) hx hb dX4_told_97 (by decide) ?_
          exact W.iret (v := (nI sz)) hx hb hr (fun t ht hW => ⟨(nI sz), rfl, (show (nI sz) = tdR sz st us kp ga gl cs pl ln p1 from by unfold tdR; rw [if_pos c_90]), ht⟩) (fun _ h9 => absurd h9 List.not_mem_nil) dX4_told_195
  · have c_13 : ¬ us ≤ i := fun q => c_13 ((nI_leI (a := us) (b := i) (by omega) (by omega)).mpr q)
    refine lv_iload_n hx hb dX4_told_16 rfl (lv_at hl 2 rfl) ?_
    refine lv_aload_n hx hb dX4_told_17 rfl (lv_at hl 3 rfl) ?_
    refine va_get (D := (dC, dI)) (ci := 4) (v := .ref (a 3)) (C := RX4) (T := TX4) (N := 18) hx hb hts in_X4 hown hK hP 0 rfl rfl 5 (by decide) lk_2 (fun _ h9 => h9) rfl dX4_told_18 ?_
    refine lv_iload hx hb dX4_told_21 (lv_at hl 0 rfl) ?_
    refine va_iald hx hb hK hP 3 0 rfl rfl (vp_in_nI (by omega) (by omega)) dX4_told_23 ?_
    refine tpi (nf_at (by omega)) ?_
    refine lv_iadd hx hb dX4_told_24 ?_
    refine tpi (nI_add _ _) ?_
    refine lv_istore_n (lv' := [(2, .int (nI (b + (ln i)))), (4, .int (nI i)), (3, .int (nI g)), (0, .ref (a 0)), (1, .int p1)]) hx hb dX4_told_25 rfl hl (by decide) rfl (fun ls hl => ?_)
    refine lv_iload_n hx hb dX4_told_26 rfl (lv_at hl 2 rfl) ?_
    refine lv_aload_n hx hb dX4_told_27 rfl (lv_at hl 3 rfl) ?_
    refine lv_iload hx hb dX4_told_28 (lv_at hl 1 rfl) ?_
    refine vp_callSi (W.runV (As := [.int (nI i)]) (rest := [.int (nI g)]) ⟨hx, hb, hml, hown, hts⟩ (c_X4_gapEnd l dC dI cI a sz st us kp ga gl cs mem pl ln km ks kt ku kl kn cd wt i (by omega) (by omega)) (cwV 1 hts gX4_told_X4_gapEnd rfl rfl rfl (by decide +kernel) ⟨Nat.le_of_ble_eq_true rfl, Nat.le_of_ble_eq_true rfl⟩) ⟨fun a9 U g9 mk9 q9 => by obtain ⟨q0, qP, qK⟩ := q9; exact ⟨q0, qP, va_K.moved (u := U) (U := U.calling g9 mk9 a9) (Vm.Alike.refl U.vm) qK⟩, va_recv hK hP (ci := 4) (q0 := 0) rfl rfl, fun U hU hW => ⟨rfl, by rw [hU]; exact hP, va_K.moved hW.alike hK⟩⟩ rfl rfl hl.1 rfl (lv_room (Nat.le_of_ble_eq_true rfl)) dX4_told_30 ⟨Nat.zero_le _, Nat.zero_le _⟩) (fun r_30 hw => ?_)
    try dsimp only at hw
    subst hw
    have we_30 := gEn_le gw (i := i) (by omega)
    refine lv_aload_n hx hb dX4_told_33 rfl (lv_at hl 3 rfl) ?_
    refine lv_iload hx hb dX4_told_34 (lv_at hl 1 rfl) ?_
    refine vp_callSi (W.runV (As := [.int (nI i)]) (rest := [.int (nI (gEn sz us pl i)), .int (nI g)]) ⟨hx, hb, hml, hown, hts⟩ (c_X4_gapAt l dC dI cI a sz st us kp ga gl cs mem pl ln km ks kt ku kl kn cd wt i (by omega)) (cwV 1 hts gX4_told_X4_gapAt rfl rfl rfl (by decide +kernel) ⟨Nat.le_of_ble_eq_true rfl, Nat.le_of_ble_eq_true rfl⟩) ⟨fun a9 U g9 mk9 q9 => by obtain ⟨q0, qP, qK⟩ := q9; exact ⟨q0, qP, va_K.moved (u := U) (U := U.calling g9 mk9 a9) (Vm.Alike.refl U.vm) qK⟩, va_recv hK hP (ci := 4) (q0 := 0) rfl rfl, fun U hU hW => ⟨rfl, by rw [hU]; exact hP, va_K.moved hW.alike hK⟩⟩ rfl rfl hl.1 rfl (lv_room (Nat.le_of_ble_eq_true rfl)) dX4_told_36 ⟨Nat.zero_le _, Nat.zero_le _⟩) (fun r_36 hw => ?_)
    try dsimp only at hw
    subst hw
    have wg_36 := gAt_le gw (i := i) (by omega)
    refine lv_icmp_le (tgt := 46) hx hb dX4_told_39 (by decide) (fun c_39 => ?_) (fun c_39 => ?_)
    · have c_39 : gEn sz us pl i ≤ gAt st pl ln i := (nI_leI (a := gEn sz us pl i) (b := gAt st pl ln i) (by omega) (by omega)).mp c_39
      refine lv_iconst (v := (nI 0)) hx hb dX4_told_46 (by decide) ?_
      refine lv_iadd hx hb dX4_told_47 ?_
      refine tpi (nI_add _ _) ?_
      refine lv_istore_n (lv' := [(3, .int (nI (g + 0))), (2, .int (nI (b + (ln i)))), (4, .int (nI i)), (0, .ref (a 0)), (1, .int p1)]) hx hb dX4_told_48 rfl hl (by decide) rfl (fun ls hl => ?_)
      refine lv_iinc (v := (nI (i + 1))) (lv' := [(4, .int (nI (i + 1))), (3, .int (nI (g + 0))), (2, .int (nI (b + (ln i)))), (0, .ref (a 0)), (1, .int p1)]) hx hb dX4_told_49 hl (k := 2) rfl (nI_inc _) (by decide) rfl (fun ls hl => ?_)
      refine lv_goto (tgt := 7) hx hb dX4_told_52 (by decide) ?_
      exact ih_7 (i + 1, b + (ln i), g + 0) (⟨by omega, by rw [hb2]; rfl, by rw [hg2, gpn_s, if_neg (by omega)]⟩) (show us - (i + 1) < us - i by omega) ls (lv_sub hl [0, 1, 2, 3, 4] rfl)
    · have c_39 : ¬ gEn sz us pl i ≤ gAt st pl ln i := fun q => c_39 ((nI_leI (a := gEn sz us pl i) (b := gAt st pl ln i) (by omega) (by omega)).mpr q)
      refine lv_iconst (v := (nI 1)) hx hb dX4_told_42 (by decide) ?_
      refine lv_goto (tgt := 47) hx hb dX4_told_43 (by decide) ?_
      refine lv_iadd hx hb dX4_told_47 ?_
      refine tpi (nI_add _ _) ?_
      refine lv_istore_n (lv' := [(3, .int (nI (g + 1))), (2, .int (nI (b + (ln i)))), (4, .int (nI i)), (0, .ref (a 0)), (1, .int p1)]) hx hb dX4_told_48 rfl hl (by decide) rfl (fun ls hl => ?_)
      refine lv_iinc (v := (nI (i + 1))) (lv' := [(4, .int (nI (i + 1))), (3, .int (nI (g + 1))), (2, .int (nI (b + (ln i)))), (0, .ref (a 0)), (1, .int p1)]) hx hb dX4_told_49 hl (k := 2) rfl (nI_inc _) (by decide) rfl (fun ls hl => ?_)
      refine lv_goto (tgt := 7) hx hb dX4_told_52 (by decide) ?_
      exact ih_7 (i + 1, b + (ln i), g + 1) (⟨by omega, by rw [hb2]; rfl, by rw [hg2, gpn_s, if_pos (by omega)]⟩) (show us - (i + 1) < us - i by omega) ls (lv_sub hl [0, 1, 2, 3, 4] rfl)
set_option maxHeartbeats 4000000 in
set_option maxRecDepth 100000 in
theorem c_X4_same (l : Launch) (dC : Nat → ClassId) (dI : Nat → Nat → Nat) (cI : ClassId) (a : Nat → Nat) (sz st us kp ga gl cs : Nat) (mem pl ln km ks kt ku kl kn cd wt : Nat → Nat)  (g3 : sz ≤ 8192) (g4 : kp ≤ 4) (g5 : us ≤ 64) (bmem : ∀ j, mem j < 256) (bkm : ∀ j, km j < 256) (bpl : ∀ j, pl j < 2 ^ 31) (bln : ∀ j, ln j < 2 ^ 31) (bkl : ∀ j, kl j < 2 ^ 31) (bkn : ∀ j, kn j < 2 ^ 31) (bks : ∀ j, ks j < 2 ^ 31) (bkt : ∀ j, kt j < 2 ^ 31) (bku : ∀ j, ku j < 2 ^ 31) (gst : st < 2 ^ 31) : Met l yX4_same wsX4_same ({ frames := 0, cells := 0, slots := 0, locals := 0 }) (va_Pc [.ref (a 0)] (fun U => va_P (dC, dI) vwCl (mw cI a sz st us kp ga gl cs mem pl ln km ks kt ku kl kn cd wt) U.heap ∧ va_K (dC, dI) vwCl [(cI, .int)] U)) (vp_Si (fun r => (kp = 0 ∧ r = (-11)) ∨ (¬ kp = 0 ∧ ((smP sz st us mem pl ln km ks kt ku kl kn (kp - 1) ∧ r = nI 1) ∨ (¬ smP sz st us mem pl ln km ks kt ku kl kn (kp - 1) ∧ r = nI 0))))) 0 0 (fun _ => False) := by
  refine Met.ofW (cc := cX4_same) (maxL := 4) (ret := (some .int)) (by decide) rfl ?_
  intro p e s m args below meth c s₁ B hml hv
  obtain ⟨rfl, hP, hK⟩ := hv
  have hx := B.exec
  have hb := B.bytes
  have hr := B.returns
  have hts := atoms_spec (ws := wsX4_same) B.pre
  have hown : s.vm.findClass RX4 = some m.cls := findClass_of_methodNamed B.named
  have hlocks := B.notSynchronized
  have in_X4 : ∀ w ∈ wsX40, w ∈ wsX4_same := fun _ h => List.mem_cons_of_mem _ (List.mem_append_right _ h)
  have lk_1 := hts (.fieldLink RX4 121 "GlulxHeapModel" "kept" "I") (List.mem_of_getElem? (i := 1) rfl)
  have lk_2 := hts (.fieldLink RX4 44 "GlulxHeapModel" "size" "I") (List.mem_of_getElem? (i := 2) rfl)
  have lk_3 := hts (.fieldLink RX4 23 "GlulxHeapModel" "keptSize" "[I") (List.mem_of_getElem? (i := 3) rfl)
  have lk_4 := hts (.fieldLink RX4 78 "GlulxHeapModel" "start" "I") (List.mem_of_getElem? (i := 4) rfl)
  have lk_5 := hts (.fieldLink RX4 26 "GlulxHeapModel" "keptStart" "[I") (List.mem_of_getElem? (i := 5) rfl)
  have lk_6 := hts (.fieldLink RX4 71 "GlulxHeapModel" "used" "I") (List.mem_of_getElem? (i := 6) rfl)
  have lk_7 := hts (.fieldLink RX4 29 "GlulxHeapModel" "keptUsed" "[I") (List.mem_of_getElem? (i := 7) rfl)
  have lk_8 := hts (.fieldLink RX4 7 "GlulxHeapModel" "memory" "[I") (List.mem_of_getElem? (i := 8) rfl)
  have lk_9 := hts (.fieldLink RX4 20 "GlulxHeapModel" "keptMemory" "[I") (List.mem_of_getElem? (i := 9) rfl)
  have lk_10 := hts (.fieldLink RX4 13 "GlulxHeapModel" "place" "[I") (List.mem_of_getElem? (i := 10) rfl)
  have lk_11 := hts (.fieldLink RX4 32 "GlulxHeapModel" "keptPlace" "[I") (List.mem_of_getElem? (i := 11) rfl)
  have lk_12 := hts (.fieldLink RX4 16 "GlulxHeapModel" "length" "[I") (List.mem_of_getElem? (i := 12) rfl)
  have lk_13 := hts (.fieldLink RX4 35 "GlulxHeapModel" "keptLength" "[I") (List.mem_of_getElem? (i := 13) rfl)
  have hl := lv_entry ([.ref (a 0)]) (n := 4) (Nat.le_of_ble_eq_true rfl)
  rw [lg_entry_eq]
  generalize (lg_sl ([.ref (a 0)]) ++ List.replicate (4 - (lg_sl ([.ref (a 0)])).length) Slot.unset).toArray = ls at hl ⊢
  have hl : lv_has ls 4 [(0, .ref (a 0))] := hl
  refine lv_aload_n hx hb dX4_same_0 rfl (lv_at hl 0 rfl) ?_
  refine va_get (D := (dC, dI)) (ci := 4) (v := .int (nI kp)) (C := RX4) (T := TX4) (N := 18) hx hb hts in_X4 hown hK hP 0 rfl rfl 6 (by decide) lk_1 (fun _ h9 => h9) rfl dX4_same_1 ?_
  refine lv_if_ne (tgt := 10) hx hb dX4_same_4 (by decide) (fun c_4 => ?_) (fun c_4 => ?_)
  · have c_4 : ¬ kp = 0 := fun q => c_4 ((nZ_eq (by omega)).mpr q)
    refine lv_aload_n hx hb dX4_same_10 rfl (lv_at hl 0 rfl) ?_
    refine va_get (D := (dC, dI)) (ci := 4) (v := .int (nI kp)) (C := RX4) (T := TX4) (N := 18) hx hb hts in_X4 hown hK hP 0 rfl rfl 6 (by decide) lk_1 (fun _ h9 => h9) rfl dX4_same_11 ?_
    refine lv_iconst (v := (nI 1)) hx hb dX4_same_14 (by decide) ?_
    refine lv_isub hx hb dX4_same_15 ?_
    refine tpi (pk_sub (by omega)) ?_
    refine lv_istore_n (lv' := [(1, .int (nI (kp - 1))), (0, .ref (a 0))]) hx hb dX4_same_16 rfl hl (by decide) rfl (fun ls hl => ?_)
    refine lv_aload_n hx hb dX4_same_17 rfl (lv_at hl 1 rfl) ?_
    refine va_get (D := (dC, dI)) (ci := 4) (v := .int (nI sz)) (C := RX4) (T := TX4) (N := 18) hx hb hts in_X4 hown hK hP 0 rfl rfl 1 (by decide) lk_2 (fun _ h9 => h9) rfl dX4_same_18 ?_
    refine lv_aload_n hx hb dX4_same_21 rfl (lv_at hl 1 rfl) ?_
    refine va_get (D := (dC, dI)) (ci := 4) (v := .ref (a 5)) (C := RX4) (T := TX4) (N := 18) hx hb hts in_X4 hown hK hP 0 rfl rfl 8 (by decide) lk_3 (fun _ h9 => h9) rfl dX4_same_22 ?_
    refine lv_iload_n hx hb dX4_same_25 rfl (lv_at hl 0 rfl) ?_
    refine va_iald hx hb hK hP 5 0 rfl rfl (vp_in_nI (by omega) (by omega)) dX4_same_26 ?_
    refine tpi (nf_at (by omega)) ?_
    have w_26 := bks (kp - 1)
    refine lv_icmp_ne (tgt := 60) hx hb dX4_same_27 (by decide) (fun c_27 => ?_) (fun c_27 => ?_)
    · have c_27 : ¬ sz = ks (kp - 1) := fun q => c_27 ((nI_eq (a := sz) (b := ks (kp - 1)) (by omega) (by omega)).mpr q)
      refine lv_iconst (v := (nI 0)) hx hb dX4_same_60 (by decide) ?_
      refine lv_istore_n (lv' := [(2, .int (nI 0)), (1, .int (nI (kp - 1))), (0, .ref (a 0))]) hx hb dX4_same_61 rfl hl (by decide) rfl (fun ls hl => ?_)
      refine lv_iconst (v := (nI 0)) hx hb dX4_same_62 (by decide) ?_
      refine lv_istore_n (lv' := [(3, .int (nI 0)), (2, .int (nI 0)), (1, .int (nI (kp - 1))), (0, .ref (a 0))]) hx hb dX4_same_63 rfl hl (by decide) rfl (fun ls hl => ?_)
      refine lp_still (σ := Nat × Nat) (fun ⟨i, b⟩ => i ≤ sz ∧ ((b = 1 ∧ (sz = ks (kp - 1) ∧ st = kt (kp - 1) ∧ us = ku (kp - 1)) ∧ (∀ j, j < i → mem j = km (8192 * (kp - 1) + j))) ∨ (b = 0 ∧ ¬ smP sz st us mem pl ln km ks kt ku kl kn (kp - 1)))) (fun ⟨i, b⟩ => sz - i) (fun ⟨i, b⟩ => [(3, .int (nI i)), (2, .int (nI b)), (1, .int (nI (kp - 1))), (0, .ref (a 0))]) ?_ ((0, 0)) (⟨by omega, Or.inr ⟨rfl, fun q => c_27 q.1.1⟩⟩) (lv_sub hl [0, 1, 2, 3] rfl)
      intro ⟨i, b⟩ hI ih ls hl
      have hl : lv_has ls 4 [(3, .int (nI i)), (2, .int (nI b)), (1, .int (nI (kp - 1))), (0, .ref (a 0))] := hl
      have hI : i ≤ sz ∧ ((b = 1 ∧ (sz = ks (kp - 1) ∧ st = kt (kp - 1) ∧ us = ku (kp - 1)) ∧ (∀ j, j < i → mem j = km (8192 * (kp - 1) + j))) ∨ (b = 0 ∧ ¬ smP sz st us mem pl ln km ks kt ku kl kn (kp - 1))) := hI
      obtain ⟨hi, hv⟩ := hI
      have ih_64 := ih
      refine lv_iload_n hx hb dX4_same_64 rfl (lv_at hl 0 rfl) ?_
      refine lv_aload_n hx hb dX4_same_65 rfl (lv_at hl 3 rfl) ?_
      refine va_get (D := (dC, dI)) (ci := 4) (v := .int (nI sz)) (C := RX4) (T := TX4) (N := 18) hx hb hts in_X4 hown hK hP 0 rfl rfl 1 (by decide) lk_2 (fun _ h9 => h9) rfl dX4_same_66 ?_
      refine lv_icmp_ge (tgt := 109) hx hb dX4_same_69 (by decide) (fun c_69 => ?_) (fun c_69 => ?_)
      · have c_69 : sz ≤ i := (nI_leI (a := sz) (b := i) (by omega) (by omega)).mp c_69
        rcases hv with ⟨rfl, hv⟩ | ⟨rfl, hv⟩
        · refine lv_iconst (v := (nI 0)) hx hb dX4_same_109 (by decide) ?_
          refine lv_istore_n (lv' := [(3, .int (nI 0)), (2, .int (nI 1)), (1, .int (nI (kp - 1))), (0, .ref (a 0))]) hx hb dX4_same_110 rfl hl (by decide) rfl (fun ls hl => ?_)
          refine lp_still (σ := Nat × Nat) (fun ⟨k, b⟩ => k ≤ us ∧ ((b = 1 ∧ (sz = ks (kp - 1) ∧ st = kt (kp - 1) ∧ us = ku (kp - 1)) ∧ (∀ j, j < sz → mem j = km (8192 * (kp - 1) + j)) ∧ (∀ j, j < k → pl j = kl (64 * (kp - 1) + j) ∧ ln j = kn (64 * (kp - 1) + j))) ∨ (b = 0 ∧ ¬ smP sz st us mem pl ln km ks kt ku kl kn (kp - 1)))) (fun ⟨k, b⟩ => us - k) (fun ⟨k, b⟩ => [(3, .int (nI k)), (2, .int (nI b)), (1, .int (nI (kp - 1))), (0, .ref (a 0))]) ?_ ((0, 1)) (⟨by omega, Or.inl ⟨rfl, hv.1, fun j hj => hv.2 j (by omega), fun j hj => absurd hj (Nat.not_lt_zero _)⟩⟩) (lv_sub hl [0, 1, 2, 3] rfl)
          intro ⟨k, b⟩ hI ih ls hl
          have hl : lv_has ls 4 [(3, .int (nI k)), (2, .int (nI b)), (1, .int (nI (kp - 1))), (0, .ref (a 0))] := hl
          have hI : k ≤ us ∧ ((b = 1 ∧ (sz = ks (kp - 1) ∧ st = kt (kp - 1) ∧ us = ku (kp - 1)) ∧ (∀ j, j < sz → mem j = km (8192 * (kp - 1) + j)) ∧ (∀ j, j < k → pl j = kl (64 * (kp - 1) + j) ∧ ln j = kn (64 * (kp - 1) + j))) ∨ (b = 0 ∧ ¬ smP sz st us mem pl ln km ks kt ku kl kn (kp - 1))) := hI
          obtain ⟨hk, hv⟩ := hI
          have ih_111 := ih
          refine lv_iload_n hx hb dX4_same_111 rfl (lv_at hl 0 rfl) ?_
          refine lv_aload_n hx hb dX4_same_112 rfl (lv_at hl 3 rfl) ?_
          refine va_get (D := (dC, dI)) (ci := 4) (v := .int (nI us)) (C := RX4) (T := TX4) (N := 18) hx hb hts in_X4 hown hK hP 0 rfl rfl 3 (by decide) lk_6 (fun _ h9 => h9) rfl dX4_same_113 ?_
          refine lv_icmp_ge (tgt := 175) hx hb dX4_same_116 (by decide) (fun c_116 => ?_) (fun c_116 => ?_)
          · have c_116 : us ≤ k := (nI_leI (a := us) (b := k) (by omega) (by omega)).mp c_116
            rcases hv with ⟨rfl, hv⟩ | ⟨rfl, hv⟩
            · refine lv_iload_n hx hb dX4_same_175 rfl (lv_at hl 1 rfl) ?_
              refine lv_if_eq (tgt := 183) hx hb dX4_same_176 (by decide) (fun c_176 => ?_) (fun c_176 => ?_)
              · exact absurd c_176 (by decide)
              · have c_176 : ¬ 1 = 0 := fun q => c_176 ((nZ_eq (by omega)).mpr q)
                refine lv_iconst (v := (nI 1)) hx hb dX4_same_179 (by decide) ?_
                refine lv_goto (tgt := 184) hx hb dX4_same_180 (by decide) ?_
                exact W.iret (v := (nI 1)) hx hb hr (fun t ht hW => ⟨(nI 1), rfl, Or.inr ⟨c_4, Or.inl ⟨⟨hv.1, hv.2.1, fun j hj => hv.2.2 j (by omega)⟩, rfl⟩⟩, ht⟩) (fun _ h9 => absurd h9 List.not_mem_nil) dX4_same_184
            · refine lv_iload_n hx hb dX4_same_175 rfl (lv_at hl 1 rfl) ?_
              refine lv_if_eq (tgt := 183) hx hb dX4_same_176 (by decide) (fun c_176 => ?_) (fun c_176 => ?_)
              · have c_176 : 0 = 0 := (nZ_eq (by omega)).mp c_176
                refine lv_iconst (v := (nI 0)) hx hb dX4_same_183 (by decide) ?_
                exact W.iret (v := (nI 0)) hx hb hr (fun t ht hW => ⟨(nI 0), rfl, Or.inr ⟨c_4, Or.inr ⟨hv, rfl⟩⟩, ht⟩) (fun _ h9 => absurd h9 List.not_mem_nil) dX4_same_184
              · exact absurd c_176 (by decide)
          · have c_116 : ¬ us ≤ k := fun q => c_116 ((nI_leI (a := us) (b := k) (by omega) (by omega)).mpr q)
            rcases hv with ⟨rfl, hv⟩ | ⟨rfl, hv⟩
            · refine lv_iload_n hx hb dX4_same_119 rfl (lv_at hl 1 rfl) ?_
              refine lv_if_eq (tgt := 175) hx hb dX4_same_120 (by decide) (fun c_120 => ?_) (fun c_120 => ?_)
              · exact absurd c_120 (by decide)
              · have c_120 : ¬ 1 = 0 := fun q => c_120 ((nZ_eq (by omega)).mpr q)
                refine lv_aload_n hx hb dX4_same_123 rfl (lv_at hl 3 rfl) ?_
                refine va_get (D := (dC, dI)) (ci := 4) (v := .ref (a 2)) (C := RX4) (T := TX4) (N := 18) hx hb hts in_X4 hown hK hP 0 rfl rfl 4 (by decide) lk_10 (fun _ h9 => h9) rfl dX4_same_124 ?_
                refine lv_iload_n hx hb dX4_same_127 rfl (lv_at hl 0 rfl) ?_
                refine va_iald hx hb hK hP 2 0 rfl rfl (vp_in_nI (by omega) (by omega)) dX4_same_128 ?_
                refine tpi (nf_at (by omega)) ?_
                have w_128 := bpl k
                refine lv_aload_n hx hb dX4_same_129 rfl (lv_at hl 3 rfl) ?_
                refine va_get (D := (dC, dI)) (ci := 4) (v := .ref (a 8)) (C := RX4) (T := TX4) (N := 18) hx hb hts in_X4 hown hK hP 0 rfl rfl 11 (by decide) lk_11 (fun _ h9 => h9) rfl dX4_same_130 ?_
                refine lv_bipush (v := (nI 64)) hx hb dX4_same_133 (by decide) ?_
                refine lv_iload_n hx hb dX4_same_135 rfl (lv_at hl 2 rfl) ?_
                refine lv_imul hx hb dX4_same_136 ?_
                refine tpi (pk_mul _ _) ?_
                refine lv_iload_n hx hb dX4_same_137 rfl (lv_at hl 0 rfl) ?_
                refine lv_iadd hx hb dX4_same_138 ?_
                refine tpi (nI_add _ _) ?_
                refine va_iald hx hb hK hP 8 0 rfl rfl (vp_in_nI (by omega) (by omega)) dX4_same_139 ?_
                refine tpi (nf_at (by omega)) ?_
                have w_139 := bkl (64 * (kp - 1) + k)
                refine lv_icmp_ne (tgt := 167) hx hb dX4_same_140 (by decide) (fun c_140 => ?_) (fun c_140 => ?_)
                · have c_140 : ¬ pl k = kl (64 * (kp - 1) + k) := fun q => c_140 ((nI_eq (a := pl k) (b := kl (64 * (kp - 1) + k)) (by omega) (by omega)).mpr q)
                  refine lv_iconst (v := (nI 0)) hx hb dX4_same_167 (by decide) ?_
                  refine lv_istore_n (lv' := [(2, .int (nI 0)), (3, .int (nI k)), (1, .int (nI (kp - 1))), (0, .ref (a 0))]) hx hb dX4_same_168 rfl hl (by decide) rfl (fun ls hl => ?_)
                  refine lv_iinc (v := (nI (k + 1))) (lv' := [(3, .int (nI (k + 1))), (2, .int (nI 0)), (1, .int (nI (kp - 1))), (0, .ref (a 0))]) hx hb dX4_same_169 hl (k := 1) rfl (nI_inc _) (by decide) rfl (fun ls hl => ?_)
                  refine lv_goto (tgt := 111) hx hb dX4_same_172 (by decide) ?_
                  exact ih_111 (k + 1, 0) (⟨by omega, Or.inr ⟨rfl, fun q => c_140 (q.2.2 k (by omega)).1⟩⟩) (show us - (k + 1) < us - k by omega) ls (lv_sub hl [0, 1, 2, 3] rfl)
                · have c_140 : pl k = kl (64 * (kp - 1) + k) := (nI_eq (a := pl k) (b := kl (64 * (kp - 1) + k)) (by omega) (by omega)).mp c_140
                  refine lv_aload_n hx hb dX4_same_143 rfl (lv_at hl 3 rfl) ?_
                  refine va_get (D := (dC, dI)) (ci := 4) (v := .ref (a 3)) (C := RX4) (T := TX4) (N := 18) hx hb hts in_X4 hown hK hP 0 rfl rfl 5 (by decide) lk_12 (fun _ h9 => h9) rfl dX4_same_144 ?_
                  refine lv_iload_n hx hb dX4_same_147 rfl (lv_at hl 0 rfl) ?_
                  refine va_iald hx hb hK hP 3 0 rfl rfl (vp_in_nI (by omega) (by omega)) dX4_same_148 ?_
                  refine tpi (nf_at (by omega)) ?_
                  have w_148 := bln k
                  refine lv_aload_n hx hb dX4_same_149 rfl (lv_at hl 3 rfl) ?_
                  refine va_get (D := (dC, dI)) (ci := 4) (v := .ref (a 9)) (C := RX4) (T := TX4) (N := 18) hx hb hts in_X4 hown hK hP 0 rfl rfl 12 (by decide) lk_13 (fun _ h9 => h9) rfl dX4_same_150 ?_
                  refine lv_bipush (v := (nI 64)) hx hb dX4_same_153 (by decide) ?_
                  refine lv_iload_n hx hb dX4_same_155 rfl (lv_at hl 2 rfl) ?_
                  refine lv_imul hx hb dX4_same_156 ?_
                  refine tpi (pk_mul _ _) ?_
                  refine lv_iload_n hx hb dX4_same_157 rfl (lv_at hl 0 rfl) ?_
                  refine lv_iadd hx hb dX4_same_158 ?_
                  refine tpi (nI_add _ _) ?_
                  refine va_iald hx hb hK hP 9 0 rfl rfl (vp_in_nI (by omega) (by omega)) dX4_same_159 ?_
                  refine tpi (nf_at (by omega)) ?_
                  have w_159 := bkn (64 * (kp - 1) + k)
                  refine lv_icmp_ne (tgt := 167) hx hb dX4_same_160 (by decide) (fun c_160 => ?_) (fun c_160 => ?_)
                  · have c_160 : ¬ ln k = kn (64 * (kp - 1) + k) := fun q => c_160 ((nI_eq (a := ln k) (b := kn (64 * (kp - 1) + k)) (by omega) (by omega)).mpr q)
                    refine lv_iconst (v := (nI 0)) hx hb dX4_same_167 (by decide) ?_
                    refine lv_istore_n (lv' := [(2, .int (nI 0)), (3, .int (nI k)), (1, .int (nI (kp - 1))), (0, .ref (a 0))]) hx hb dX4_same_168 rfl hl (by decide) rfl (fun ls hl => ?_)
                    refine lv_iinc (v := (nI (k + 1))) (lv' := [(3, .int (nI (k + 1))), (2, .int (nI 0)), (1, .int (nI (kp - 1))), (0, .ref (a 0))]) hx hb dX4_same_169 hl (k := 1) rfl (nI_inc _) (by decide) rfl (fun ls hl => ?_)
                    refine lv_goto (tgt := 111) hx hb dX4_same_172 (by decide) ?_
                    exact ih_111 (k + 1, 0) (⟨by omega, Or.inr ⟨rfl, fun q => c_160 (q.2.2 k (by omega)).2⟩⟩) (show us - (k + 1) < us - k by omega) ls (lv_sub hl [0, 1, 2, 3] rfl)
                  · have c_160 : ln k = kn (64 * (kp - 1) + k) := (nI_eq (a := ln k) (b := kn (64 * (kp - 1) + k)) (by omega) (by omega)).mp c_160
                    refine lv_iconst (v := (nI 1)) hx hb dX4_same_163 (by decide) ?_
                    refine lv_goto (tgt := 168) hx hb dX4_same_164 (by decide) ?_
                    refine lv_istore_n (lv' := [(2, .int (nI 1)), (3, .int (nI k)), (1, .int (nI (kp - 1))), (0, .ref (a 0))]) hx hb dX4_same_168 rfl hl (by decide) rfl (fun ls hl => ?_)
                    refine lv_iinc (v := (nI (k + 1))) (lv' := [(3, .int (nI (k + 1))), (2, .int (nI 1)), (1, .int (nI (kp - 1))), (0, .ref (a 0))]) hx hb dX4_same_169 hl (k := 1) rfl (nI_inc _) (by decide) rfl (fun ls hl => ?_)
                    refine lv_goto (tgt := 111) hx hb dX4_same_172 (by decide) ?_
                    exact ih_111 (k + 1, 1) (⟨by omega, Or.inl ⟨rfl, hv.1, hv.2.1, lt_s hv.2.2 ⟨c_140, c_160⟩⟩⟩) (show us - (k + 1) < us - k by omega) ls (lv_sub hl [0, 1, 2, 3] rfl)
            · refine lv_iload_n hx hb dX4_same_119 rfl (lv_at hl 1 rfl) ?_
              refine lv_if_eq (tgt := 175) hx hb dX4_same_120 (by decide) (fun c_120 => ?_) (fun c_120 => ?_)
              · have c_120 : 0 = 0 := (nZ_eq (by omega)).mp c_120
                refine lv_iload_n hx hb dX4_same_175 rfl (lv_at hl 1 rfl) ?_
                refine lv_if_eq (tgt := 183) hx hb dX4_same_176 (by decide) (fun c_176 => ?_) (fun c_176 => ?_)
                · have c_176 : 0 = 0 := (nZ_eq (by omega)).mp c_176
                  refine lv_iconst (v := (nI 0)) hx hb dX4_same_183 (by decide) ?_
                  exact W.iret (v := (nI 0)) hx hb hr (fun t ht hW => ⟨(nI 0), rfl, Or.inr ⟨c_4, Or.inr ⟨hv, rfl⟩⟩, ht⟩) (fun _ h9 => absurd h9 List.not_mem_nil) dX4_same_184
                · exact absurd c_176 (by decide)
              · exact absurd c_120 (by decide)
        · refine lv_iconst (v := (nI 0)) hx hb dX4_same_109 (by decide) ?_
          refine lv_istore_n (lv' := [(3, .int (nI 0)), (2, .int (nI 0)), (1, .int (nI (kp - 1))), (0, .ref (a 0))]) hx hb dX4_same_110 rfl hl (by decide) rfl (fun ls hl => ?_)
          refine lp_still (σ := Nat × Nat) (fun ⟨k, b⟩ => k ≤ us ∧ ((b = 1 ∧ (sz = ks (kp - 1) ∧ st = kt (kp - 1) ∧ us = ku (kp - 1)) ∧ (∀ j, j < sz → mem j = km (8192 * (kp - 1) + j)) ∧ (∀ j, j < k → pl j = kl (64 * (kp - 1) + j) ∧ ln j = kn (64 * (kp - 1) + j))) ∨ (b = 0 ∧ ¬ smP sz st us mem pl ln km ks kt ku kl kn (kp - 1)))) (fun ⟨k, b⟩ => us - k) (fun ⟨k, b⟩ => [(3, .int (nI k)), (2, .int (nI b)), (1, .int (nI (kp - 1))), (0, .ref (a 0))]) ?_ ((0, 0)) (⟨by omega, Or.inr ⟨rfl, hv⟩⟩) (lv_sub hl [0, 1, 2, 3] rfl)
          intro ⟨k, b⟩ hI ih ls hl
          have hl : lv_has ls 4 [(3, .int (nI k)), (2, .int (nI b)), (1, .int (nI (kp - 1))), (0, .ref (a 0))] := hl
          have hI : k ≤ us ∧ ((b = 1 ∧ (sz = ks (kp - 1) ∧ st = kt (kp - 1) ∧ us = ku (kp - 1)) ∧ (∀ j, j < sz → mem j = km (8192 * (kp - 1) + j)) ∧ (∀ j, j < k → pl j = kl (64 * (kp - 1) + j) ∧ ln j = kn (64 * (kp - 1) + j))) ∨ (b = 0 ∧ ¬ smP sz st us mem pl ln km ks kt ku kl kn (kp - 1))) := hI
          obtain ⟨hk, hv⟩ := hI
          have ih_111 := ih
          refine lv_iload_n hx hb dX4_same_111 rfl (lv_at hl 0 rfl) ?_
          refine lv_aload_n hx hb dX4_same_112 rfl (lv_at hl 3 rfl) ?_
          refine va_get (D := (dC, dI)) (ci := 4) (v := .int (nI us)) (C := RX4) (T := TX4) (N := 18) hx hb hts in_X4 hown hK hP 0 rfl rfl 3 (by decide) lk_6 (fun _ h9 => h9) rfl dX4_same_113 ?_
          refine lv_icmp_ge (tgt := 175) hx hb dX4_same_116 (by decide) (fun c_116 => ?_) (fun c_116 => ?_)
          · have c_116 : us ≤ k := (nI_leI (a := us) (b := k) (by omega) (by omega)).mp c_116
            rcases hv with ⟨rfl, hv⟩ | ⟨rfl, hv⟩
            · refine lv_iload_n hx hb dX4_same_175 rfl (lv_at hl 1 rfl) ?_
              refine lv_if_eq (tgt := 183) hx hb dX4_same_176 (by decide) (fun c_176 => ?_) (fun c_176 => ?_)
              · exact absurd c_176 (by decide)
              · have c_176 : ¬ 1 = 0 := fun q => c_176 ((nZ_eq (by omega)).mpr q)
                refine lv_iconst (v := (nI 1)) hx hb dX4_same_179 (by decide) ?_
                refine lv_goto (tgt := 184) hx hb dX4_same_180 (by decide) ?_
                exact W.iret (v := (nI 1)) hx hb hr (fun t ht hW => ⟨(nI 1), rfl, Or.inr ⟨c_4, Or.inl ⟨⟨hv.1, hv.2.1, fun j hj => hv.2.2 j (by omega)⟩, rfl⟩⟩, ht⟩) (fun _ h9 => absurd h9 List.not_mem_nil) dX4_same_184
            · refine lv_iload_n hx hb dX4_same_175 rfl (lv_at hl 1 rfl) ?_
              refine lv_if_eq (tgt := 183) hx hb dX4_same_176 (by decide) (fun c_176 => ?_) (fun c_176 => ?_)
              · have c_176 : 0 = 0 := (nZ_eq (by omega)).mp c_176
                refine lv_iconst (v := (nI 0)) hx hb dX4_same_183 (by decide) ?_
                exact W.iret (v := (nI 0)) hx hb hr (fun t ht hW => ⟨(nI 0), rfl, Or.inr ⟨c_4, Or.inr ⟨hv, rfl⟩⟩, ht⟩) (fun _ h9 => absurd h9 List.not_mem_nil) dX4_same_184
              · exact absurd c_176 (by decide)
          · have c_116 : ¬ us ≤ k := fun q => c_116 ((nI_leI (a := us) (b := k) (by omega) (by omega)).mpr q)
            rcases hv with ⟨rfl, hv⟩ | ⟨rfl, hv⟩
            · refine lv_iload_n hx hb dX4_same_119 rfl (lv_at hl 1 rfl) ?_
              refine lv_if_eq (tgt := 175) hx hb dX4_same_120 (by decide) (fun c_120 => ?_) (fun c_120 => ?_)
              · exact absurd c_120 (by decide)
              · have c_120 : ¬ 1 = 0 := fun q => c_120 ((nZ_eq (by omega)).mpr q)
                refine lv_aload_n hx hb dX4_same_123 rfl (lv_at hl 3 rfl) ?_
                refine va_get (D := (dC, dI)) (ci := 4) (v := .ref (a 2)) (C := RX4) (T := TX4) (N := 18) hx hb hts in_X4 hown hK hP 0 rfl rfl 4 (by decide) lk_10 (fun _ h9 => h9) rfl dX4_same_124 ?_
                refine lv_iload_n hx hb dX4_same_127 rfl (lv_at hl 0 rfl) ?_
                refine va_iald hx hb hK hP 2 0 rfl rfl (vp_in_nI (by omega) (by omega)) dX4_same_128 ?_
                refine tpi (nf_at (by omega)) ?_
                have w_128 := bpl k
                refine lv_aload_n hx hb dX4_same_129 rfl (lv_at hl 3 rfl) ?_
                refine va_get (D := (dC, dI)) (ci := 4) (v := .ref (a 8)) (C := RX4) (T := TX4) (N := 18) hx hb hts in_X4 hown hK hP 0 rfl rfl 11 (by decide) lk_11 (fun _ h9 => h9) rfl dX4_same_130 ?_
                refine lv_bipush (v := (nI 64)) hx hb dX4_same_133 (by decide) ?_
                refine lv_iload_n hx hb dX4_same_135 rfl (lv_at hl 2 rfl) ?_
                refine lv_imul hx hb dX4_same_136 ?_
                refine tpi (pk_mul _ _) ?_
                refine lv_iload_n hx hb dX4_same_137 rfl (lv_at hl 0 rfl) ?_
                refine lv_iadd hx hb dX4_same_138 ?_
                refine tpi (nI_add _ _) ?_
                refine va_iald hx hb hK hP 8 0 rfl rfl (vp_in_nI (by omega) (by omega)) dX4_same_139 ?_
                refine tpi (nf_at (by omega)) ?_
                have w_139 := bkl (64 * (kp - 1) + k)
                refine lv_icmp_ne (tgt := 167) hx hb dX4_same_140 (by decide) (fun c_140 => ?_) (fun c_140 => ?_)
                · have c_140 : ¬ pl k = kl (64 * (kp - 1) + k) := fun q => c_140 ((nI_eq (a := pl k) (b := kl (64 * (kp - 1) + k)) (by omega) (by omega)).mpr q)
                  refine lv_iconst (v := (nI 0)) hx hb dX4_same_167 (by decide) ?_
                  refine lv_istore_n (lv' := [(2, .int (nI 0)), (3, .int (nI k)), (1, .int (nI (kp - 1))), (0, .ref (a 0))]) hx hb dX4_same_168 rfl hl (by decide) rfl (fun ls hl => ?_)
                  refine lv_iinc (v := (nI (k + 1))) (lv' := [(3, .int (nI (k + 1))), (2, .int (nI 0)), (1, .int (nI (kp - 1))), (0, .ref (a 0))]) hx hb dX4_same_169 hl (k := 1) rfl (nI_inc _) (by decide) rfl (fun ls hl => ?_)
                  refine lv_goto (tgt := 111) hx hb dX4_same_172 (by decide) ?_
                  exact ih_111 (k + 1, 0) (⟨by omega, Or.inr ⟨rfl, fun q => c_140 (q.2.2 k (by omega)).1⟩⟩) (show us - (k + 1) < us - k by omega) ls (lv_sub hl [0, 1, 2, 3] rfl)
                · have c_140 : pl k = kl (64 * (kp - 1) + k) := (nI_eq (a := pl k) (b := kl (64 * (kp - 1) + k)) (by omega) (by omega)).mp c_140
                  refine lv_aload_n hx hb dX4_same_143 rfl (lv_at hl 3 rfl) ?_
                  refine va_get (D := (dC, dI)) (ci := 4) (v := .ref (a 3)) (C := RX4) (T := TX4) (N := 18) hx hb hts in_X4 hown hK hP 0 rfl rfl 5 (by decide) lk_12 (fun _ h9 => h9) rfl dX4_same_144 ?_
                  refine lv_iload_n hx hb dX4_same_147 rfl (lv_at hl 0 rfl) ?_
                  refine va_iald hx hb hK hP 3 0 rfl rfl (vp_in_nI (by omega) (by omega)) dX4_same_148 ?_
                  refine tpi (nf_at (by omega)) ?_
                  have w_148 := bln k
                  refine lv_aload_n hx hb dX4_same_149 rfl (lv_at hl 3 rfl) ?_
                  refine va_get (D := (dC, dI)) (ci := 4) (v := .ref (a 9)) (C := RX4) (T := TX4) (N := 18) hx hb hts in_X4 hown hK hP 0 rfl rfl 12 (by decide) lk_13 (fun _ h9 => h9) rfl dX4_same_150 ?_
                  refine lv_bipush (v := (nI 64)) hx hb dX4_same_153 (by decide) ?_
                  refine lv_iload_n hx hb dX4_same_155 rfl (lv_at hl 2 rfl) ?_
                  refine lv_imul hx hb dX4_same_156 ?_
                  refine tpi (pk_mul _ _) ?_
                  refine lv_iload_n hx hb dX4_same_157 rfl (lv_at hl 0 rfl) ?_
                  refine lv_iadd hx hb dX4_same_158 ?_
                  refine tpi (nI_add _ _) ?_
                  refine va_iald hx hb hK hP 9 0 rfl rfl (vp_in_nI (by omega) (by omega)) dX4_same_159 ?_
                  refine tpi (nf_at (by omega)) ?_
                  have w_159 := bkn (64 * (kp - 1) + k)
                  refine lv_icmp_ne (tgt := 167) hx hb dX4_same_160 (by decide) (fun c_160 => ?_) (fun c_160 => ?_)
                  · have c_160 : ¬ ln k = kn (64 * (kp - 1) + k) := fun q => c_160 ((nI_eq (a := ln k) (b := kn (64 * (kp - 1) + k)) (by omega) (by omega)).mpr q)
                    refine lv_iconst (v := (nI 0)) hx hb dX4_same_167 (by decide) ?_
                    refine lv_istore_n (lv' := [(2, .int (nI 0)), (3, .int (nI k)), (1, .int (nI (kp - 1))), (0, .ref (a 0))]) hx hb dX4_same_168 rfl hl (by decide) rfl (fun ls hl => ?_)
                    refine lv_iinc (v := (nI (k + 1))) (lv' := [(3, .int (nI (k + 1))), (2, .int (nI 0)), (1, .int (nI (kp - 1))), (0, .ref (a 0))]) hx hb dX4_same_169 hl (k := 1) rfl (nI_inc _) (by decide) rfl (fun ls hl => ?_)
                    refine lv_goto (tgt := 111) hx hb dX4_same_172 (by decide) ?_
                    exact ih_111 (k + 1, 0) (⟨by omega, Or.inr ⟨rfl, fun q => c_160 (q.2.2 k (by omega)).2⟩⟩) (show us - (k + 1) < us - k by omega) ls (lv_sub hl [0, 1, 2, 3] rfl)
                  · have c_160 : ln k = kn (64 * (kp - 1) + k) := (nI_eq (a := ln k) (b := kn (64 * (kp - 1) + k)) (by omega) (by omega)).mp c_160
                    refine lv_iconst (v := (nI 1)) hx hb dX4_same_163 (by decide) ?_
                    refine lv_goto (tgt := 168) hx hb dX4_same_164 (by decide) ?_
                    refine lv_istore_n (lv' := [(2, .int (nI 1)), (3, .int (nI k)), (1, .int (nI (kp - 1))), (0, .ref (a 0))]) hx hb dX4_same_168 rfl hl (by decide) rfl (fun ls hl => ?_)
                    refine lv_iinc (v := (nI (k + 1))) (lv' := [(3, .int (nI (k + 1))), (2, .int (nI 1)), (1, .int (nI (kp - 1))), (0, .ref (a 0))]) hx hb dX4_same_169 hl (k := 1) rfl (nI_inc _) (by decide) rfl (fun ls hl => ?_)
                    refine lv_goto (tgt := 111) hx hb dX4_same_172 (by decide) ?_
                    exact ih_111 (k + 1, 1) (⟨by omega, Or.inl ⟨rfl, hv.1, hv.2.1, lt_s hv.2.2 ⟨c_140, c_160⟩⟩⟩) (show us - (k + 1) < us - k by omega) ls (lv_sub hl [0, 1, 2, 3] rfl)
            · refine lv_iload_n hx hb dX4_same_119 rfl (lv_at hl 1 rfl) ?_
              refine lv_if_eq (tgt := 175) hx hb dX4_same_120 (by decide) (fun c_120 => ?_) (fun c_120 => ?_)
              · have c_120 : 0 = 0 := (nZ_eq (by omega)).mp c_120
                refine lv_iload_n hx hb dX4_same_175 rfl (lv_at hl 1 rfl) ?_
                refine lv_if_eq (tgt := 183) hx hb dX4_same_176 (by decide) (fun c_176 => ?_) (fun c_176 => ?_)
                · have c_176 : 0 = 0 := (nZ_eq (by omega)).mp c_176
                  refine lv_iconst (v := (nI 0)) hx hb dX4_same_183 (by decide) ?_
                  exact W.iret (v := (nI 0)) hx hb hr (fun t ht hW => ⟨(nI 0), rfl, Or.inr ⟨c_4, Or.inr ⟨hv, rfl⟩⟩, ht⟩) (fun _ h9 => absurd h9 List.not_mem_nil) dX4_same_184
                · exact absurd c_176 (by decide)
              · exact absurd c_120 (by decide)
      · have c_69 : ¬ sz ≤ i := fun q => c_69 ((nI_leI (a := sz) (b := i) (by omega) (by omega)).mpr q)
        rcases hv with ⟨rfl, hv⟩ | ⟨rfl, hv⟩
        · refine lv_iload_n hx hb dX4_same_72 rfl (lv_at hl 1 rfl) ?_
          refine lv_if_eq (tgt := 109) hx hb dX4_same_73 (by decide) (fun c_73 => ?_) (fun c_73 => ?_)
          · exact absurd c_73 (by decide)
          · have c_73 : ¬ 1 = 0 := fun q => c_73 ((nZ_eq (by omega)).mpr q)
            refine lv_aload_n hx hb dX4_same_76 rfl (lv_at hl 3 rfl) ?_
            refine va_get (D := (dC, dI)) (ci := 4) (v := .ref (a 1)) (C := RX4) (T := TX4) (N := 18) hx hb hts in_X4 hown hK hP 0 rfl rfl 0 (by decide) lk_8 (fun _ h9 => h9) rfl dX4_same_77 ?_
            refine lv_iload_n hx hb dX4_same_80 rfl (lv_at hl 0 rfl) ?_
            refine va_iald hx hb hK hP 1 0 rfl rfl (vp_in_nI (by omega) (by omega)) dX4_same_81 ?_
            refine tpi (nf_at (by omega)) ?_
            have w_81 := bmem i
            refine lv_aload_n hx hb dX4_same_82 rfl (lv_at hl 3 rfl) ?_
            refine va_get (D := (dC, dI)) (ci := 4) (v := .ref (a 4)) (C := RX4) (T := TX4) (N := 18) hx hb hts in_X4 hown hK hP 0 rfl rfl 7 (by decide) lk_9 (fun _ h9 => h9) rfl dX4_same_83 ?_
            refine lv_sipush (v := (nI 8192)) hx hb dX4_same_86 (by decide) ?_
            refine lv_iload_n hx hb dX4_same_89 rfl (lv_at hl 2 rfl) ?_
            refine lv_imul hx hb dX4_same_90 ?_
            refine tpi (pk_mul _ _) ?_
            refine lv_iload_n hx hb dX4_same_91 rfl (lv_at hl 0 rfl) ?_
            refine lv_iadd hx hb dX4_same_92 ?_
            refine tpi (nI_add _ _) ?_
            refine va_iald hx hb hK hP 4 0 rfl rfl (vp_in_nI (by omega) (by omega)) dX4_same_93 ?_
            refine tpi (nf_at (by omega)) ?_
            have w_93 := bkm (8192 * (kp - 1) + i)
            refine lv_icmp_ne (tgt := 101) hx hb dX4_same_94 (by decide) (fun c_94 => ?_) (fun c_94 => ?_)
            · have c_94 : ¬ mem i = km (8192 * (kp - 1) + i) := fun q => c_94 ((nI_eq (a := mem i) (b := km (8192 * (kp - 1) + i)) (by omega) (by omega)).mpr q)
              refine lv_iconst (v := (nI 0)) hx hb dX4_same_101 (by decide) ?_
              refine lv_istore_n (lv' := [(2, .int (nI 0)), (3, .int (nI i)), (1, .int (nI (kp - 1))), (0, .ref (a 0))]) hx hb dX4_same_102 rfl hl (by decide) rfl (fun ls hl => ?_)
              refine lv_iinc (v := (nI (i + 1))) (lv' := [(3, .int (nI (i + 1))), (2, .int (nI 0)), (1, .int (nI (kp - 1))), (0, .ref (a 0))]) hx hb dX4_same_103 hl (k := 1) rfl (nI_inc _) (by decide) rfl (fun ls hl => ?_)
              refine lv_goto (tgt := 64) hx hb dX4_same_106 (by decide) ?_
              exact ih_64 (i + 1, 0) (⟨by omega, Or.inr ⟨rfl, fun q => c_94 (q.2.1 i (by omega))⟩⟩) (show sz - (i + 1) < sz - i by omega) ls (lv_sub hl [0, 1, 2, 3] rfl)
            · have c_94 : mem i = km (8192 * (kp - 1) + i) := (nI_eq (a := mem i) (b := km (8192 * (kp - 1) + i)) (by omega) (by omega)).mp c_94
              refine lv_iconst (v := (nI 1)) hx hb dX4_same_97 (by decide) ?_
              refine lv_goto (tgt := 102) hx hb dX4_same_98 (by decide) ?_
              refine lv_istore_n (lv' := [(2, .int (nI 1)), (3, .int (nI i)), (1, .int (nI (kp - 1))), (0, .ref (a 0))]) hx hb dX4_same_102 rfl hl (by decide) rfl (fun ls hl => ?_)
              refine lv_iinc (v := (nI (i + 1))) (lv' := [(3, .int (nI (i + 1))), (2, .int (nI 1)), (1, .int (nI (kp - 1))), (0, .ref (a 0))]) hx hb dX4_same_103 hl (k := 1) rfl (nI_inc _) (by decide) rfl (fun ls hl => ?_)
              refine lv_goto (tgt := 64) hx hb dX4_same_106 (by decide) ?_
              exact ih_64 (i + 1, 1) (⟨by omega, Or.inl ⟨rfl, hv.1, lt_s hv.2 c_94⟩⟩) (show sz - (i + 1) < sz - i by omega) ls (lv_sub hl [0, 1, 2, 3] rfl)
        · refine lv_iload_n hx hb dX4_same_72 rfl (lv_at hl 1 rfl) ?_
          refine lv_if_eq (tgt := 109) hx hb dX4_same_73 (by decide) (fun c_73 => ?_) (fun c_73 => ?_)
          · have c_73 : 0 = 0 := (nZ_eq (by omega)).mp c_73
            refine lv_iconst (v := (nI 0)) hx hb dX4_same_109 (by decide) ?_
            refine lv_istore_n (lv' := [(3, .int (nI 0)), (2, .int (nI 0)), (1, .int (nI (kp - 1))), (0, .ref (a 0))]) hx hb dX4_same_110 rfl hl (by decide) rfl (fun ls hl => ?_)
            refine lp_still (σ := Nat × Nat) (fun ⟨k, b⟩ => k ≤ us ∧ ((b = 1 ∧ (sz = ks (kp - 1) ∧ st = kt (kp - 1) ∧ us = ku (kp - 1)) ∧ (∀ j, j < sz → mem j = km (8192 * (kp - 1) + j)) ∧ (∀ j, j < k → pl j = kl (64 * (kp - 1) + j) ∧ ln j = kn (64 * (kp - 1) + j))) ∨ (b = 0 ∧ ¬ smP sz st us mem pl ln km ks kt ku kl kn (kp - 1)))) (fun ⟨k, b⟩ => us - k) (fun ⟨k, b⟩ => [(3, .int (nI k)), (2, .int (nI b)), (1, .int (nI (kp - 1))), (0, .ref (a 0))]) ?_ ((0, 0)) (⟨by omega, Or.inr ⟨rfl, hv⟩⟩) (lv_sub hl [0, 1, 2, 3] rfl)
            intro ⟨k, b⟩ hI ih ls hl
            have hl : lv_has ls 4 [(3, .int (nI k)), (2, .int (nI b)), (1, .int (nI (kp - 1))), (0, .ref (a 0))] := hl
            have hI : k ≤ us ∧ ((b = 1 ∧ (sz = ks (kp - 1) ∧ st = kt (kp - 1) ∧ us = ku (kp - 1)) ∧ (∀ j, j < sz → mem j = km (8192 * (kp - 1) + j)) ∧ (∀ j, j < k → pl j = kl (64 * (kp - 1) + j) ∧ ln j = kn (64 * (kp - 1) + j))) ∨ (b = 0 ∧ ¬ smP sz st us mem pl ln km ks kt ku kl kn (kp - 1))) := hI
            obtain ⟨hk, hv⟩ := hI
            have ih_111 := ih
            refine lv_iload_n hx hb dX4_same_111 rfl (lv_at hl 0 rfl) ?_
            refine lv_aload_n hx hb dX4_same_112 rfl (lv_at hl 3 rfl) ?_
            refine va_get (D := (dC, dI)) (ci := 4) (v := .int (nI us)) (C := RX4) (T := TX4) (N := 18) hx hb hts in_X4 hown hK hP 0 rfl rfl 3 (by decide) lk_6 (fun _ h9 => h9) rfl dX4_same_113 ?_
            refine lv_icmp_ge (tgt := 175) hx hb dX4_same_116 (by decide) (fun c_116 => ?_) (fun c_116 => ?_)
            · have c_116 : us ≤ k := (nI_leI (a := us) (b := k) (by omega) (by omega)).mp c_116
              rcases hv with ⟨rfl, hv⟩ | ⟨rfl, hv⟩
              · refine lv_iload_n hx hb dX4_same_175 rfl (lv_at hl 1 rfl) ?_
                refine lv_if_eq (tgt := 183) hx hb dX4_same_176 (by decide) (fun c_176 => ?_) (fun c_176 => ?_)
                · exact absurd c_176 (by decide)
                · have c_176 : ¬ 1 = 0 := fun q => c_176 ((nZ_eq (by omega)).mpr q)
                  refine lv_iconst (v := (nI 1)) hx hb dX4_same_179 (by decide) ?_
                  refine lv_goto (tgt := 184) hx hb dX4_same_180 (by decide) ?_
                  exact W.iret (v := (nI 1)) hx hb hr (fun t ht hW => ⟨(nI 1), rfl, Or.inr ⟨c_4, Or.inl ⟨⟨hv.1, hv.2.1, fun j hj => hv.2.2 j (by omega)⟩, rfl⟩⟩, ht⟩) (fun _ h9 => absurd h9 List.not_mem_nil) dX4_same_184
              · refine lv_iload_n hx hb dX4_same_175 rfl (lv_at hl 1 rfl) ?_
                refine lv_if_eq (tgt := 183) hx hb dX4_same_176 (by decide) (fun c_176 => ?_) (fun c_176 => ?_)
                · have c_176 : 0 = 0 := (nZ_eq (by omega)).mp c_176
                  refine lv_iconst (v := (nI 0)) hx hb dX4_same_183 (by decide) ?_
                  exact W.iret (v := (nI 0)) hx hb hr (fun t ht hW => ⟨(nI 0), rfl, Or.inr ⟨c_4, Or.inr ⟨hv, rfl⟩⟩, ht⟩) (fun _ h9 => absurd h9 List.not_mem_nil) dX4_same_184
                · exact absurd c_176 (by decide)
            · have c_116 : ¬ us ≤ k := fun q => c_116 ((nI_leI (a := us) (b := k) (by omega) (by omega)).mpr q)
              rcases hv with ⟨rfl, hv⟩ | ⟨rfl, hv⟩
              · refine lv_iload_n hx hb dX4_same_119 rfl (lv_at hl 1 rfl) ?_
                refine lv_if_eq (tgt := 175) hx hb dX4_same_120 (by decide) (fun c_120 => ?_) (fun c_120 => ?_)
                · exact absurd c_120 (by decide)
                · have c_120 : ¬ 1 = 0 := fun q => c_120 ((nZ_eq (by omega)).mpr q)
                  refine lv_aload_n hx hb dX4_same_123 rfl (lv_at hl 3 rfl) ?_
                  refine va_get (D := (dC, dI)) (ci := 4) (v := .ref (a 2)) (C := RX4) (T := TX4) (N := 18) hx hb hts in_X4 hown hK hP 0 rfl rfl 4 (by decide) lk_10 (fun _ h9 => h9) rfl dX4_same_124 ?_
                  refine lv_iload_n hx hb dX4_same_127 rfl (lv_at hl 0 rfl) ?_
                  refine va_iald hx hb hK hP 2 0 rfl rfl (vp_in_nI (by omega) (by omega)) dX4_same_128 ?_
                  refine tpi (nf_at (by omega)) ?_
                  have w_128 := bpl k
                  refine lv_aload_n hx hb dX4_same_129 rfl (lv_at hl 3 rfl) ?_
                  refine va_get (D := (dC, dI)) (ci := 4) (v := .ref (a 8)) (C := RX4) (T := TX4) (N := 18) hx hb hts in_X4 hown hK hP 0 rfl rfl 11 (by decide) lk_11 (fun _ h9 => h9) rfl dX4_same_130 ?_
                  refine lv_bipush (v := (nI 64)) hx hb dX4_same_133 (by decide) ?_
                  refine lv_iload_n hx hb dX4_same_135 rfl (lv_at hl 2 rfl) ?_
                  refine lv_imul hx hb dX4_same_136 ?_
                  refine tpi (pk_mul _ _) ?_
                  refine lv_iload_n hx hb dX4_same_137 rfl (lv_at hl 0 rfl) ?_
                  refine lv_iadd hx hb dX4_same_138 ?_
                  refine tpi (nI_add _ _) ?_
                  refine va_iald hx hb hK hP 8 0 rfl rfl (vp_in_nI (by omega) (by omega)) dX4_same_139 ?_
                  refine tpi (nf_at (by omega)) ?_
                  have w_139 := bkl (64 * (kp - 1) + k)
                  refine lv_icmp_ne (tgt := 167) hx hb dX4_same_140 (by decide) (fun c_140 => ?_) (fun c_140 => ?_)
                  · have c_140 : ¬ pl k = kl (64 * (kp - 1) + k) := fun q => c_140 ((nI_eq (a := pl k) (b := kl (64 * (kp - 1) + k)) (by omega) (by omega)).mpr q)
                    refine lv_iconst (v := (nI 0)) hx hb dX4_same_167 (by decide) ?_
                    refine lv_istore_n (lv' := [(2, .int (nI 0)), (3, .int (nI k)), (1, .int (nI (kp - 1))), (0, .ref (a 0))]) hx hb dX4_same_168 rfl hl (by decide) rfl (fun ls hl => ?_)
                    refine lv_iinc (v := (nI (k + 1))) (lv' := [(3, .int (nI (k + 1))), (2, .int (nI 0)), (1, .int (nI (kp - 1))), (0, .ref (a 0))]) hx hb dX4_same_169 hl (k := 1) rfl (nI_inc _) (by decide) rfl (fun ls hl => ?_)
                    refine lv_goto (tgt := 111) hx hb dX4_same_172 (by decide) ?_
                    exact ih_111 (k + 1, 0) (⟨by omega, Or.inr ⟨rfl, fun q => c_140 (q.2.2 k (by omega)).1⟩⟩) (show us - (k + 1) < us - k by omega) ls (lv_sub hl [0, 1, 2, 3] rfl)
                  · have c_140 : pl k = kl (64 * (kp - 1) + k) := (nI_eq (a := pl k) (b := kl (64 * (kp - 1) + k)) (by omega) (by omega)).mp c_140
                    refine lv_aload_n hx hb dX4_same_143 rfl (lv_at hl 3 rfl) ?_
                    refine va_get (D := (dC, dI)) (ci := 4) (v := .ref (a 3)) (C := RX4) (T := TX4) (N := 18) hx hb hts in_X4 hown hK hP 0 rfl rfl 5 (by decide) lk_12 (fun _ h9 => h9) rfl dX4_same_144 ?_
                    refine lv_iload_n hx hb dX4_same_147 rfl (lv_at hl 0 rfl) ?_
                    refine va_iald hx hb hK hP 3 0 rfl rfl (vp_in_nI (by omega) (by omega)) dX4_same_148 ?_
                    refine tpi (nf_at (by omega)) ?_
                    have w_148 := bln k
                    refine lv_aload_n hx hb dX4_same_149 rfl (lv_at hl 3 rfl) ?_
                    refine va_get (D := (dC, dI)) (ci := 4) (v := .ref (a 9)) (C := RX4) (T := TX4) (N := 18) hx hb hts in_X4 hown hK hP 0 rfl rfl 12 (by decide) lk_13 (fun _ h9 => h9) rfl dX4_same_150 ?_
                    refine lv_bipush (v := (nI 64)) hx hb dX4_same_153 (by decide) ?_
                    refine lv_iload_n hx hb dX4_same_155 rfl (lv_at hl 2 rfl) ?_
                    refine lv_imul hx hb dX4_same_156 ?_
                    refine tpi (pk_mul _ _) ?_
                    refine lv_iload_n hx hb dX4_same_157 rfl (lv_at hl 0 rfl) ?_
                    refine lv_iadd hx hb dX4_same_158 ?_
                    refine tpi (nI_add _ _) ?_
                    refine va_iald hx hb hK hP 9 0 rfl rfl (vp_in_nI (by omega) (by omega)) dX4_same_159 ?_
                    refine tpi (nf_at (by omega)) ?_
                    have w_159 := bkn (64 * (kp - 1) + k)
                    refine lv_icmp_ne (tgt := 167) hx hb dX4_same_160 (by decide) (fun c_160 => ?_) (fun c_160 => ?_)
                    · have c_160 : ¬ ln k = kn (64 * (kp - 1) + k) := fun q => c_160 ((nI_eq (a := ln k) (b := kn (64 * (kp - 1) + k)) (by omega) (by omega)).mpr q)
                      refine lv_iconst (v := (nI 0)) hx hb dX4_same_167 (by decide) ?_
                      refine lv_istore_n (lv' := [(2, .int (nI 0)), (3, .int (nI k)), (1, .int (nI (kp - 1))), (0, .ref (a 0))]) hx hb dX4_same_168 rfl hl (by decide) rfl (fun ls hl => ?_)
                      refine lv_iinc (v := (nI (k + 1))) (lv' := [(3, .int (nI (k + 1))), (2, .int (nI 0)), (1, .int (nI (kp - 1))), (0, .ref (a 0))]) hx hb dX4_same_169 hl (k := 1) rfl (nI_inc _) (by decide) rfl (fun ls hl => ?_)
                      refine lv_goto (tgt := 111) hx hb dX4_same_172 (by decide) ?_
                      exact ih_111 (k + 1, 0) (⟨by omega, Or.inr ⟨rfl, fun q => c_160 (q.2.2 k (by omega)).2⟩⟩) (show us - (k + 1) < us - k by omega) ls (lv_sub hl [0, 1, 2, 3] rfl)
                    · have c_160 : ln k = kn (64 * (kp - 1) + k) := (nI_eq (a := ln k) (b := kn (64 * (kp - 1) + k)) (by omega) (by omega)).mp c_160
                      refine lv_iconst (v := (nI 1)) hx hb dX4_same_163 (by decide) ?_
                      refine lv_goto (tgt := 168) hx hb dX4_same_164 (by decide) ?_
                      refine lv_istore_n (lv' := [(2, .int (nI 1)), (3, .int (nI k)), (1, .int (nI (kp - 1))), (0, .ref (a 0))]) hx hb dX4_same_168 rfl hl (by decide) rfl (fun ls hl => ?_)
                      refine lv_iinc (v := (nI (k + 1))) (lv' := [(3, .int (nI (k + 1))), (2, .int (nI 1)), (1, .int (nI (kp - 1))), (0, .ref (a 0))]) hx hb dX4_same_169 hl (k := 1) rfl (nI_inc _) (by decide) rfl (fun ls hl => ?_)
                      refine lv_goto (tgt := 111) hx hb dX4_same_172 (by decide) ?_
                      exact ih_111 (k + 1, 1) (⟨by omega, Or.inl ⟨rfl, hv.1, hv.2.1, lt_s hv.2.2 ⟨c_140, c_160⟩⟩⟩) (show us - (k + 1) < us - k by omega) ls (lv_sub hl [0, 1, 2, 3] rfl)
              · refine lv_iload_n hx hb dX4_same_119 rfl (lv_at hl 1 rfl) ?_
                refine lv_if_eq (tgt := 175) hx hb dX4_same_120 (by decide) (fun c_120 => ?_) (fun c_120 => ?_)
                · have c_120 : 0 = 0 := (nZ_eq (by omega)).mp c_120
                  refine lv_iload_n hx hb dX4_same_175 rfl (lv_at hl 1 rfl) ?_
                  refine lv_if_eq (tgt := 183) hx hb dX4_same_176 (by decide) (fun c_176 => ?_) (fun c_176 => ?_)
                  · have c_176 : 0 = 0 := (nZ_eq (by omega)).mp c_176
                    refine lv_iconst (v := (nI 0)) hx hb dX4_same_183 (by decide) ?_
                    exact W.iret (v := (nI 0)) hx hb hr (fun t ht hW => ⟨(nI 0), rfl, Or.inr ⟨c_4, Or.inr ⟨hv, rfl⟩⟩, ht⟩) (fun _ h9 => absurd h9 List.not_mem_nil) dX4_same_184
                  · exact absurd c_176 (by decide)
                · exact absurd c_120 (by decide)
          · exact absurd c_73 (by decide)
    · have c_27 : sz = ks (kp - 1) := (nI_eq (a := sz) (b := ks (kp - 1)) (by omega) (by omega)).mp c_27
      refine lv_aload_n hx hb dX4_same_30 rfl (lv_at hl 1 rfl) ?_
      refine va_get (D := (dC, dI)) (ci := 4) (v := .int (nI st)) (C := RX4) (T := TX4) (N := 18) hx hb hts in_X4 hown hK hP 0 rfl rfl 2 (by decide) lk_4 (fun _ h9 => h9) rfl dX4_same_31 ?_
      refine lv_aload_n hx hb dX4_same_34 rfl (lv_at hl 1 rfl) ?_
      refine va_get (D := (dC, dI)) (ci := 4) (v := .ref (a 6)) (C := RX4) (T := TX4) (N := 18) hx hb hts in_X4 hown hK hP 0 rfl rfl 9 (by decide) lk_5 (fun _ h9 => h9) rfl dX4_same_35 ?_
      refine lv_iload_n hx hb dX4_same_38 rfl (lv_at hl 0 rfl) ?_
      refine va_iald hx hb hK hP 6 0 rfl rfl (vp_in_nI (by omega) (by omega)) dX4_same_39 ?_
      refine tpi (nf_at (by omega)) ?_
      have w_39 := bkt (kp - 1)
      refine lv_icmp_ne (tgt := 60) hx hb dX4_same_40 (by decide) (fun c_40 => ?_) (fun c_40 => ?_)
      · have c_40 : ¬ st = kt (kp - 1) := fun q => c_40 ((nI_eq (a := st) (b := kt (kp - 1)) (by omega) (by omega)).mpr q)
        refine lv_iconst (v := (nI 0)) hx hb dX4_same_60 (by decide) ?_
        refine lv_istore_n (lv' := [(2, .int (nI 0)), (1, .int (nI (kp - 1))), (0, .ref (a 0))]) hx hb dX4_same_61 rfl hl (by decide) rfl (fun ls hl => ?_)
        refine lv_iconst (v := (nI 0)) hx hb dX4_same_62 (by decide) ?_
        refine lv_istore_n (lv' := [(3, .int (nI 0)), (2, .int (nI 0)), (1, .int (nI (kp - 1))), (0, .ref (a 0))]) hx hb dX4_same_63 rfl hl (by decide) rfl (fun ls hl => ?_)
        refine lp_still (σ := Nat × Nat) (fun ⟨i, b⟩ => i ≤ sz ∧ ((b = 1 ∧ (sz = ks (kp - 1) ∧ st = kt (kp - 1) ∧ us = ku (kp - 1)) ∧ (∀ j, j < i → mem j = km (8192 * (kp - 1) + j))) ∨ (b = 0 ∧ ¬ smP sz st us mem pl ln km ks kt ku kl kn (kp - 1)))) (fun ⟨i, b⟩ => sz - i) (fun ⟨i, b⟩ => [(3, .int (nI i)), (2, .int (nI b)), (1, .int (nI (kp - 1))), (0, .ref (a 0))]) ?_ ((0, 0)) (⟨by omega, Or.inr ⟨rfl, fun q => c_40 q.1.2.1⟩⟩) (lv_sub hl [0, 1, 2, 3] rfl)
        intro ⟨i, b⟩ hI ih ls hl
        have hl : lv_has ls 4 [(3, .int (nI i)), (2, .int (nI b)), (1, .int (nI (kp - 1))), (0, .ref (a 0))] := hl
        have hI : i ≤ sz ∧ ((b = 1 ∧ (sz = ks (kp - 1) ∧ st = kt (kp - 1) ∧ us = ku (kp - 1)) ∧ (∀ j, j < i → mem j = km (8192 * (kp - 1) + j))) ∨ (b = 0 ∧ ¬ smP sz st us mem pl ln km ks kt ku kl kn (kp - 1))) := hI
        obtain ⟨hi, hv⟩ := hI
        have ih_64 := ih
        refine lv_iload_n hx hb dX4_same_64 rfl (lv_at hl 0 rfl) ?_
        refine lv_aload_n hx hb dX4_same_65 rfl (lv_at hl 3 rfl) ?_
        refine va_get (D := (dC, dI)) (ci := 4) (v := .int (nI sz)) (C := RX4) (T := TX4) (N := 18) hx hb hts in_X4 hown hK hP 0 rfl rfl 1 (by decide) lk_2 (fun _ h9 => h9) rfl dX4_same_66 ?_
        refine lv_icmp_ge (tgt := 109) hx hb dX4_same_69 (by decide) (fun c_69 => ?_) (fun c_69 => ?_)
        · have c_69 : sz ≤ i := (nI_leI (a := sz) (b := i) (by omega) (by omega)).mp c_69
          rcases hv with ⟨rfl, hv⟩ | ⟨rfl, hv⟩
          · refine lv_iconst (v := (nI 0)) hx hb dX4_same_109 (by decide) ?_
            refine lv_istore_n (lv' := [(3, .int (nI 0)), (2, .int (nI 1)), (1, .int (nI (kp - 1))), (0, .ref (a 0))]) hx hb dX4_same_110 rfl hl (by decide) rfl (fun ls hl => ?_)
            refine lp_still (σ := Nat × Nat) (fun ⟨k, b⟩ => k ≤ us ∧ ((b = 1 ∧ (sz = ks (kp - 1) ∧ st = kt (kp - 1) ∧ us = ku (kp - 1)) ∧ (∀ j, j < sz → mem j = km (8192 * (kp - 1) + j)) ∧ (∀ j, j < k → pl j = kl (64 * (kp - 1) + j) ∧ ln j = kn (64 * (kp - 1) + j))) ∨ (b = 0 ∧ ¬ smP sz st us mem pl ln km ks kt ku kl kn (kp - 1)))) (fun ⟨k, b⟩ => us - k) (fun ⟨k, b⟩ => [(3, .int (nI k)), (2, .int (nI b)), (1, .int (nI (kp - 1))), (0, .ref (a 0))]) ?_ ((0, 1)) (⟨by omega, Or.inl ⟨rfl, hv.1, fun j hj => hv.2 j (by omega), fun j hj => absurd hj (Nat.not_lt_zero _)⟩⟩) (lv_sub hl [0, 1, 2, 3] rfl)
            intro ⟨k, b⟩ hI ih ls hl
            have hl : lv_has ls 4 [(3, .int (nI k)), (2, .int (nI b)), (1, .int (nI (kp - 1))), (0, .ref (a 0))] := hl
            have hI : k ≤ us ∧ ((b = 1 ∧ (sz = ks (kp - 1) ∧ st = kt (kp - 1) ∧ us = ku (kp - 1)) ∧ (∀ j, j < sz → mem j = km (8192 * (kp - 1) + j)) ∧ (∀ j, j < k → pl j = kl (64 * (kp - 1) + j) ∧ ln j = kn (64 * (kp - 1) + j))) ∨ (b = 0 ∧ ¬ smP sz st us mem pl ln km ks kt ku kl kn (kp - 1))) := hI
            obtain ⟨hk, hv⟩ := hI
            have ih_111 := ih
            refine lv_iload_n hx hb dX4_same_111 rfl (lv_at hl 0 rfl) ?_
            refine lv_aload_n hx hb dX4_same_112 rfl (lv_at hl 3 rfl) ?_
            refine va_get (D := (dC, dI)) (ci := 4) (v := .int (nI us)) (C := RX4) (T := TX4) (N := 18) hx hb hts in_X4 hown hK hP 0 rfl rfl 3 (by decide) lk_6 (fun _ h9 => h9) rfl dX4_same_113 ?_
            refine lv_icmp_ge (tgt := 175) hx hb dX4_same_116 (by decide) (fun c_116 => ?_) (fun c_116 => ?_)
            · have c_116 : us ≤ k := (nI_leI (a := us) (b := k) (by omega) (by omega)).mp c_116
              rcases hv with ⟨rfl, hv⟩ | ⟨rfl, hv⟩
              · refine lv_iload_n hx hb dX4_same_175 rfl (lv_at hl 1 rfl) ?_
                refine lv_if_eq (tgt := 183) hx hb dX4_same_176 (by decide) (fun c_176 => ?_) (fun c_176 => ?_)
                · exact absurd c_176 (by decide)
                · have c_176 : ¬ 1 = 0 := fun q => c_176 ((nZ_eq (by omega)).mpr q)
                  refine lv_iconst (v := (nI 1)) hx hb dX4_same_179 (by decide) ?_
                  refine lv_goto (tgt := 184) hx hb dX4_same_180 (by decide) ?_
                  exact W.iret (v := (nI 1)) hx hb hr (fun t ht hW => ⟨(nI 1), rfl, Or.inr ⟨c_4, Or.inl ⟨⟨hv.1, hv.2.1, fun j hj => hv.2.2 j (by omega)⟩, rfl⟩⟩, ht⟩) (fun _ h9 => absurd h9 List.not_mem_nil) dX4_same_184
              · refine lv_iload_n hx hb dX4_same_175 rfl (lv_at hl 1 rfl) ?_
                refine lv_if_eq (tgt := 183) hx hb dX4_same_176 (by decide) (fun c_176 => ?_) (fun c_176 => ?_)
                · have c_176 : 0 = 0 := (nZ_eq (by omega)).mp c_176
                  refine lv_iconst (v := (nI 0)) hx hb dX4_same_183 (by decide) ?_
                  exact W.iret (v := (nI 0)) hx hb hr (fun t ht hW => ⟨(nI 0), rfl, Or.inr ⟨c_4, Or.inr ⟨hv, rfl⟩⟩, ht⟩) (fun _ h9 => absurd h9 List.not_mem_nil) dX4_same_184
                · exact absurd c_176 (by decide)
            · have c_116 : ¬ us ≤ k := fun q => c_116 ((nI_leI (a := us) (b := k) (by omega) (by omega)).mpr q)
              rcases hv with ⟨rfl, hv⟩ | ⟨rfl, hv⟩
              · refine lv_iload_n hx hb dX4_same_119 rfl (lv_at hl 1 rfl) ?_
                refine lv_if_eq (tgt := 175) hx hb dX4_same_120 (by decide) (fun c_120 => ?_) (fun c_120 => ?_)
                · exact absurd c_120 (by decide)
                · have c_120 : ¬ 1 = 0 := fun q => c_120 ((nZ_eq (by omega)).mpr q)
                  refine lv_aload_n hx hb dX4_same_123 rfl (lv_at hl 3 rfl) ?_
                  refine va_get (D := (dC, dI)) (ci := 4) (v := .ref (a 2)) (C := RX4) (T := TX4) (N := 18) hx hb hts in_X4 hown hK hP 0 rfl rfl 4 (by decide) lk_10 (fun _ h9 => h9) rfl dX4_same_124 ?_
                  refine lv_iload_n hx hb dX4_same_127 rfl (lv_at hl 0 rfl) ?_
                  refine va_iald hx hb hK hP 2 0 rfl rfl (vp_in_nI (by omega) (by omega)) dX4_same_128 ?_
                  refine tpi (nf_at (by omega)) ?_
                  have w_128 := bpl k
                  refine lv_aload_n hx hb dX4_same_129 rfl (lv_at hl 3 rfl) ?_
                  refine va_get (D := (dC, dI)) (ci := 4) (v := .ref (a 8)) (C := RX4) (T := TX4) (N := 18) hx hb hts in_X4 hown hK hP 0 rfl rfl 11 (by decide) lk_11 (fun _ h9 => h9) rfl dX4_same_130 ?_
                  refine lv_bipush (v := (nI 64)) hx hb dX4_same_133 (by decide) ?_
                  refine lv_iload_n hx hb dX4_same_135 rfl (lv_at hl 2 rfl) ?_
                  refine lv_imul hx hb dX4_same_136 ?_
                  refine tpi (pk_mul _ _) ?_
                  refine lv_iload_n hx hb dX4_same_137 rfl (lv_at hl 0 rfl) ?_
                  refine lv_iadd hx hb dX4_same_138 ?_
                  refine tpi (nI_add _ _) ?_
                  refine va_iald hx hb hK hP 8 0 rfl rfl (vp_in_nI (by omega) (by omega)) dX4_same_139 ?_
                  refine tpi (nf_at (by omega)) ?_
                  have w_139 := bkl (64 * (kp - 1) + k)
                  refine lv_icmp_ne (tgt := 167) hx hb dX4_same_140 (by decide) (fun c_140 => ?_) (fun c_140 => ?_)
                  · have c_140 : ¬ pl k = kl (64 * (kp - 1) + k) := fun q => c_140 ((nI_eq (a := pl k) (b := kl (64 * (kp - 1) + k)) (by omega) (by omega)).mpr q)
                    refine lv_iconst (v := (nI 0)) hx hb dX4_same_167 (by decide) ?_
                    refine lv_istore_n (lv' := [(2, .int (nI 0)), (3, .int (nI k)), (1, .int (nI (kp - 1))), (0, .ref (a 0))]) hx hb dX4_same_168 rfl hl (by decide) rfl (fun ls hl => ?_)
                    refine lv_iinc (v := (nI (k + 1))) (lv' := [(3, .int (nI (k + 1))), (2, .int (nI 0)), (1, .int (nI (kp - 1))), (0, .ref (a 0))]) hx hb dX4_same_169 hl (k := 1) rfl (nI_inc _) (by decide) rfl (fun ls hl => ?_)
                    refine lv_goto (tgt := 111) hx hb dX4_same_172 (by decide) ?_
                    exact ih_111 (k + 1, 0) (⟨by omega, Or.inr ⟨rfl, fun q => c_140 (q.2.2 k (by omega)).1⟩⟩) (show us - (k + 1) < us - k by omega) ls (lv_sub hl [0, 1, 2, 3] rfl)
                  · have c_140 : pl k = kl (64 * (kp - 1) + k) := (nI_eq (a := pl k) (b := kl (64 * (kp - 1) + k)) (by omega) (by omega)).mp c_140
                    refine lv_aload_n hx hb dX4_same_143 rfl (lv_at hl 3 rfl) ?_
                    refine va_get (D := (dC, dI)) (ci := 4) (v := .ref (a 3)) (C := RX4) (T := TX4) (N := 18) hx hb hts in_X4 hown hK hP 0 rfl rfl 5 (by decide) lk_12 (fun _ h9 => h9) rfl dX4_same_144 ?_
                    refine lv_iload_n hx hb dX4_same_147 rfl (lv_at hl 0 rfl) ?_
                    refine va_iald hx hb hK hP 3 0 rfl rfl (vp_in_nI (by omega) (by omega)) dX4_same_148 ?_
                    refine tpi (nf_at (by omega)) ?_
                    have w_148 := bln k
                    refine lv_aload_n hx hb dX4_same_149 rfl (lv_at hl 3 rfl) ?_
                    refine va_get (D := (dC, dI)) (ci := 4) (v := .ref (a 9)) (C := RX4) (T := TX4) (N := 18) hx hb hts in_X4 hown hK hP 0 rfl rfl 12 (by decide) lk_13 (fun _ h9 => h9) rfl dX4_same_150 ?_
                    refine lv_bipush (v := (nI 64)) hx hb dX4_same_153 (by decide) ?_
                    refine lv_iload_n hx hb dX4_same_155 rfl (lv_at hl 2 rfl) ?_
                    refine lv_imul hx hb dX4_same_156 ?_
                    refine tpi (pk_mul _ _) ?_
                    refine lv_iload_n hx hb dX4_same_157 rfl (lv_at hl 0 rfl) ?_
                    refine lv_iadd hx hb dX4_same_158 ?_
                    refine tpi (nI_add _ _) ?_
                    refine va_iald hx hb hK hP 9 0 rfl rfl (vp_in_nI (by omega) (by omega)) dX4_same_159 ?_
                    refine tpi (nf_at (by omega)) ?_
                    have w_159 := bkn (64 * (kp - 1) + k)
                    refine lv_icmp_ne (tgt := 167) hx hb dX4_same_160 (by decide) (fun c_160 => ?_) (fun c_160 => ?_)
                    · have c_160 : ¬ ln k = kn (64 * (kp - 1) + k) := fun q => c_160 ((nI_eq (a := ln k) (b := kn (64 * (kp - 1) + k)) (by omega) (by omega)).mpr q)
                      refine lv_iconst (v := (nI 0)) hx hb dX4_same_167 (by decide) ?_
                      refine lv_istore_n (lv' := [(2, .int (nI 0)), (3, .int (nI k)), (1, .int (nI (kp - 1))), (0, .ref (a 0))]) hx hb dX4_same_168 rfl hl (by decide) rfl (fun ls hl => ?_)
                      refine lv_iinc (v := (nI (k + 1))) (lv' := [(3, .int (nI (k + 1))), (2, .int (nI 0)), (1, .int (nI (kp - 1))), (0, .ref (a 0))]) hx hb dX4_same_169 hl (k := 1) rfl (nI_inc _) (by decide) rfl (fun ls hl => ?_)
                      refine lv_goto (tgt := 111) hx hb dX4_same_172 (by decide) ?_
                      exact ih_111 (k + 1, 0) (⟨by omega, Or.inr ⟨rfl, fun q => c_160 (q.2.2 k (by omega)).2⟩⟩) (show us - (k + 1) < us - k by omega) ls (lv_sub hl [0, 1, 2, 3] rfl)
                    · have c_160 : ln k = kn (64 * (kp - 1) + k) := (nI_eq (a := ln k) (b := kn (64 * (kp - 1) + k)) (by omega) (by omega)).mp c_160
                      refine lv_iconst (v := (nI 1)) hx hb dX4_same_163 (by decide) ?_
                      refine lv_goto (tgt := 168) hx hb dX4_same_164 (by decide) ?_
                      refine lv_istore_n (lv' := [(2, .int (nI 1)), (3, .int (nI k)), (1, .int (nI (kp - 1))), (0, .ref (a 0))]) hx hb dX4_same_168 rfl hl (by decide) rfl (fun ls hl => ?_)
                      refine lv_iinc (v := (nI (k + 1))) (lv' := [(3, .int (nI (k + 1))), (2, .int (nI 1)), (1, .int (nI (kp - 1))), (0, .ref (a 0))]) hx hb dX4_same_169 hl (k := 1) rfl (nI_inc _) (by decide) rfl (fun ls hl => ?_)
                      refine lv_goto (tgt := 111) hx hb dX4_same_172 (by decide) ?_
                      exact ih_111 (k + 1, 1) (⟨by omega, Or.inl ⟨rfl, hv.1, hv.2.1, lt_s hv.2.2 ⟨c_140, c_160⟩⟩⟩) (show us - (k + 1) < us - k by omega) ls (lv_sub hl [0, 1, 2, 3] rfl)
              · refine lv_iload_n hx hb dX4_same_119 rfl (lv_at hl 1 rfl) ?_
                refine lv_if_eq (tgt := 175) hx hb dX4_same_120 (by decide) (fun c_120 => ?_) (fun c_120 => ?_)
                · have c_120 : 0 = 0 := (nZ_eq (by omega)).mp c_120
                  refine lv_iload_n hx hb dX4_same_175 rfl (lv_at hl 1 rfl) ?_
                  refine lv_if_eq (tgt := 183) hx hb dX4_same_176 (by decide) (fun c_176 => ?_) (fun c_176 => ?_)
                  · have c_176 : 0 = 0 := (nZ_eq (by omega)).mp c_176
                    refine lv_iconst (v := (nI 0)) hx hb dX4_same_183 (by decide) ?_
                    exact W.iret (v := (nI 0)) hx hb hr (fun t ht hW => ⟨(nI 0), rfl, Or.inr ⟨c_4, Or.inr ⟨hv, rfl⟩⟩, ht⟩) (fun _ h9 => absurd h9 List.not_mem_nil) dX4_same_184
                  · exact absurd c_176 (by decide)
                · exact absurd c_120 (by decide)
          · refine lv_iconst (v := (nI 0)) hx hb dX4_same_109 (by decide) ?_
            refine lv_istore_n (lv' := [(3, .int (nI 0)), (2, .int (nI 0)), (1, .int (nI (kp - 1))), (0, .ref (a 0))]) hx hb dX4_same_110 rfl hl (by decide) rfl (fun ls hl => ?_)
            refine lp_still (σ := Nat × Nat) (fun ⟨k, b⟩ => k ≤ us ∧ ((b = 1 ∧ (sz = ks (kp - 1) ∧ st = kt (kp - 1) ∧ us = ku (kp - 1)) ∧ (∀ j, j < sz → mem j = km (8192 * (kp - 1) + j)) ∧ (∀ j, j < k → pl j = kl (64 * (kp - 1) + j) ∧ ln j = kn (64 * (kp - 1) + j))) ∨ (b = 0 ∧ ¬ smP sz st us mem pl ln km ks kt ku kl kn (kp - 1)))) (fun ⟨k, b⟩ => us - k) (fun ⟨k, b⟩ => [(3, .int (nI k)), (2, .int (nI b)), (1, .int (nI (kp - 1))), (0, .ref (a 0))]) ?_ ((0, 0)) (⟨by omega, Or.inr ⟨rfl, hv⟩⟩) (lv_sub hl [0, 1, 2, 3] rfl)
            intro ⟨k, b⟩ hI ih ls hl
            have hl : lv_has ls 4 [(3, .int (nI k)), (2, .int (nI b)), (1, .int (nI (kp - 1))), (0, .ref (a 0))] := hl
            have hI : k ≤ us ∧ ((b = 1 ∧ (sz = ks (kp - 1) ∧ st = kt (kp - 1) ∧ us = ku (kp - 1)) ∧ (∀ j, j < sz → mem j = km (8192 * (kp - 1) + j)) ∧ (∀ j, j < k → pl j = kl (64 * (kp - 1) + j) ∧ ln j = kn (64 * (kp - 1) + j))) ∨ (b = 0 ∧ ¬ smP sz st us mem pl ln km ks kt ku kl kn (kp - 1))) := hI
            obtain ⟨hk, hv⟩ := hI
            have ih_111 := ih
            refine lv_iload_n hx hb dX4_same_111 rfl (lv_at hl 0 rfl) ?_
            refine lv_aload_n hx hb dX4_same_112 rfl (lv_at hl 3 rfl) ?_
            refine va_get (D := (dC, dI)) (ci := 4) (v := .int (nI us)) (C := RX4) (T := TX4) (N := 18) hx hb hts in_X4 hown hK hP 0 rfl rfl 3 (by decide) lk_6 (fun _ h9 => h9) rfl dX4_same_113 ?_
            refine lv_icmp_ge (tgt := 175) hx hb dX4_same_116 (by decide) (fun c_116 => ?_) (fun c_116 => ?_)
            · have c_116 : us ≤ k := (nI_leI (a := us) (b := k) (by omega) (by omega)).mp c_116
              rcases hv with ⟨rfl, hv⟩ | ⟨rfl, hv⟩
              · refine lv_iload_n hx hb dX4_same_175 rfl (lv_at hl 1 rfl) ?_
                refine lv_if_eq (tgt := 183) hx hb dX4_same_176 (by decide) (fun c_176 => ?_) (fun c_176 => ?_)
                · exact absurd c_176 (by decide)
                · have c_176 : ¬ 1 = 0 := fun q => c_176 ((nZ_eq (by omega)).mpr q)
                  refine lv_iconst (v := (nI 1)) hx hb dX4_same_179 (by decide) ?_
                  refine lv_goto (tgt := 184) hx hb dX4_same_180 (by decide) ?_
                  exact W.iret (v := (nI 1)) hx hb hr (fun t ht hW => ⟨(nI 1), rfl, Or.inr ⟨c_4, Or.inl ⟨⟨hv.1, hv.2.1, fun j hj => hv.2.2 j (by omega)⟩, rfl⟩⟩, ht⟩) (fun _ h9 => absurd h9 List.not_mem_nil) dX4_same_184
              · refine lv_iload_n hx hb dX4_same_175 rfl (lv_at hl 1 rfl) ?_
                refine lv_if_eq (tgt := 183) hx hb dX4_same_176 (by decide) (fun c_176 => ?_) (fun c_176 => ?_)
                · have c_176 : 0 = 0 := (nZ_eq (by omega)).mp c_176
                  refine lv_iconst (v := (nI 0)) hx hb dX4_same_183 (by decide) ?_
                  exact W.iret (v := (nI 0)) hx hb hr (fun t ht hW => ⟨(nI 0), rfl, Or.inr ⟨c_4, Or.inr ⟨hv, rfl⟩⟩, ht⟩) (fun _ h9 => absurd h9 List.not_mem_nil) dX4_same_184
                · exact absurd c_176 (by decide)
            · have c_116 : ¬ us ≤ k := fun q => c_116 ((nI_leI (a := us) (b := k) (by omega) (by omega)).mpr q)
              rcases hv with ⟨rfl, hv⟩ | ⟨rfl, hv⟩
              · refine lv_iload_n hx hb dX4_same_119 rfl (lv_at hl 1 rfl) ?_
                refine lv_if_eq (tgt := 175) hx hb dX4_same_120 (by decide) (fun c_120 => ?_) (fun c_120 => ?_)
                · exact absurd c_120 (by decide)
                · have c_120 : ¬ 1 = 0 := fun q => c_120 ((nZ_eq (by omega)).mpr q)
                  refine lv_aload_n hx hb dX4_same_123 rfl (lv_at hl 3 rfl) ?_
                  refine va_get (D := (dC, dI)) (ci := 4) (v := .ref (a 2)) (C := RX4) (T := TX4) (N := 18) hx hb hts in_X4 hown hK hP 0 rfl rfl 4 (by decide) lk_10 (fun _ h9 => h9) rfl dX4_same_124 ?_
                  refine lv_iload_n hx hb dX4_same_127 rfl (lv_at hl 0 rfl) ?_
                  refine va_iald hx hb hK hP 2 0 rfl rfl (vp_in_nI (by omega) (by omega)) dX4_same_128 ?_
                  refine tpi (nf_at (by omega)) ?_
                  have w_128 := bpl k
                  refine lv_aload_n hx hb dX4_same_129 rfl (lv_at hl 3 rfl) ?_
                  refine va_get (D := (dC, dI)) (ci := 4) (v := .ref (a 8)) (C := RX4) (T := TX4) (N := 18) hx hb hts in_X4 hown hK hP 0 rfl rfl 11 (by decide) lk_11 (fun _ h9 => h9) rfl dX4_same_130 ?_
                  refine lv_bipush (v := (nI 64)) hx hb dX4_same_133 (by decide) ?_
                  refine lv_iload_n hx hb dX4_same_135 rfl (lv_at hl 2 rfl) ?_
                  refine lv_imul hx hb dX4_same_136 ?_
                  refine tpi (pk_mul _ _) ?_
                  refine lv_iload_n hx hb dX4_same_137 rfl (lv_at hl 0 rfl) ?_
                  refine lv_iadd hx hb dX4_same_138 ?_
                  refine tpi (nI_add _ _) ?_
                  refine va_iald hx hb hK hP 8 0 rfl rfl (vp_in_nI (by omega) (by omega)) dX4_same_139 ?_
                  refine tpi (nf_at (by omega)) ?_
                  have w_139 := bkl (64 * (kp - 1) + k)
                  refine lv_icmp_ne (tgt := 167) hx hb dX4_same_140 (by decide) (fun c_140 => ?_) (fun c_140 => ?_)
                  · have c_140 : ¬ pl k = kl (64 * (kp - 1) + k) := fun q => c_140 ((nI_eq (a := pl k) (b := kl (64 * (kp - 1) + k)) (by omega) (by omega)).mpr q)
                    refine lv_iconst (v := (nI 0)) hx hb dX4_same_167 (by decide) ?_
                    refine lv_istore_n (lv' := [(2, .int (nI 0)), (3, .int (nI k)), (1, .int (nI (kp - 1))), (0, .ref (a 0))]) hx hb dX4_same_168 rfl hl (by decide) rfl (fun ls hl => ?_)
                    refine lv_iinc (v := (nI (k + 1))) (lv' := [(3, .int (nI (k + 1))), (2, .int (nI 0)), (1, .int (nI (kp - 1))), (0, .ref (a 0))]) hx hb dX4_same_169 hl (k := 1) rfl (nI_inc _) (by decide) rfl (fun ls hl => ?_)
                    refine lv_goto (tgt := 111) hx hb dX4_same_172 (by decide) ?_
                    exact ih_111 (k + 1, 0) (⟨by omega, Or.inr ⟨rfl, fun q => c_140 (q.2.2 k (by omega)).1⟩⟩) (show us - (k + 1) < us - k by omega) ls (lv_sub hl [0, 1, 2, 3] rfl)
                  · have c_140 : pl k = kl (64 * (kp - 1) + k) := (nI_eq (a := pl k) (b := kl (64 * (kp - 1) + k)) (by omega) (by omega)).mp c_140
                    refine lv_aload_n hx hb dX4_same_143 rfl (lv_at hl 3 rfl) ?_
                    refine va_get (D := (dC, dI)) (ci := 4) (v := .ref (a 3)) (C := RX4) (T := TX4) (N := 18) hx hb hts in_X4 hown hK hP 0 rfl rfl 5 (by decide) lk_12 (fun _ h9 => h9) rfl dX4_same_144 ?_
                    refine lv_iload_n hx hb dX4_same_147 rfl (lv_at hl 0 rfl) ?_
                    refine va_iald hx hb hK hP 3 0 rfl rfl (vp_in_nI (by omega) (by omega)) dX4_same_148 ?_
                    refine tpi (nf_at (by omega)) ?_
                    have w_148 := bln k
                    refine lv_aload_n hx hb dX4_same_149 rfl (lv_at hl 3 rfl) ?_
                    refine va_get (D := (dC, dI)) (ci := 4) (v := .ref (a 9)) (C := RX4) (T := TX4) (N := 18) hx hb hts in_X4 hown hK hP 0 rfl rfl 12 (by decide) lk_13 (fun _ h9 => h9) rfl dX4_same_150 ?_
                    refine lv_bipush (v := (nI 64)) hx hb dX4_same_153 (by decide) ?_
                    refine lv_iload_n hx hb dX4_same_155 rfl (lv_at hl 2 rfl) ?_
                    refine lv_imul hx hb dX4_same_156 ?_
                    refine tpi (pk_mul _ _) ?_
                    refine lv_iload_n hx hb dX4_same_157 rfl (lv_at hl 0 rfl) ?_
                    refine lv_iadd hx hb dX4_same_158 ?_
                    refine tpi (nI_add _ _) ?_
                    refine va_iald hx hb hK hP 9 0 rfl rfl (vp_in_nI (by omega) (by omega)) dX4_same_159 ?_
                    refine tpi (nf_at (by omega)) ?_
                    have w_159 := bkn (64 * (kp - 1) + k)
                    refine lv_icmp_ne (tgt := 167) hx hb dX4_same_160 (by decide) (fun c_160 => ?_) (fun c_160 => ?_)
                    · have c_160 : ¬ ln k = kn (64 * (kp - 1) + k) := fun q => c_160 ((nI_eq (a := ln k) (b := kn (64 * (kp - 1) + k)) (by omega) (by omega)).mpr q)
                      refine lv_iconst (v := (nI 0)) hx hb dX4_same_167 (by decide) ?_
                      refine lv_istore_n (lv' := [(2, .int (nI 0)), (3, .int (nI k)), (1, .int (nI (kp - 1))), (0, .ref (a 0))]) hx hb dX4_same_168 rfl hl (by decide) rfl (fun ls hl => ?_)
                      refine lv_iinc (v := (nI (k + 1))) (lv' := [(3, .int (nI (k + 1))), (2, .int (nI 0)), (1, .int (nI (kp - 1))), (0, .ref (a 0))]) hx hb dX4_same_169 hl (k := 1) rfl (nI_inc _) (by decide) rfl (fun ls hl => ?_)
                      refine lv_goto (tgt := 111) hx hb dX4_same_172 (by decide) ?_
                      exact ih_111 (k + 1, 0) (⟨by omega, Or.inr ⟨rfl, fun q => c_160 (q.2.2 k (by omega)).2⟩⟩) (show us - (k + 1) < us - k by omega) ls (lv_sub hl [0, 1, 2, 3] rfl)
                    · have c_160 : ln k = kn (64 * (kp - 1) + k) := (nI_eq (a := ln k) (b := kn (64 * (kp - 1) + k)) (by omega) (by omega)).mp c_160
                      refine lv_iconst (v := (nI 1)) hx hb dX4_same_163 (by decide) ?_
                      refine lv_goto (tgt := 168) hx hb dX4_same_164 (by decide) ?_
                      refine lv_istore_n (lv' := [(2, .int (nI 1)), (3, .int (nI k)), (1, .int (nI (kp - 1))), (0, .ref (a 0))]) hx hb dX4_same_168 rfl hl (by decide) rfl (fun ls hl => ?_)
                      refine lv_iinc (v := (nI (k + 1))) (lv' := [(3, .int (nI (k + 1))), (2, .int (nI 1)), (1, .int (nI (kp - 1))), (0, .ref (a 0))]) hx hb dX4_same_169 hl (k := 1) rfl (nI_inc _) (by decide) rfl (fun ls hl => ?_)
                      refine lv_goto (tgt := 111) hx hb dX4_same_172 (by decide) ?_
                      exact ih_111 (k + 1, 1) (⟨by omega, Or.inl ⟨rfl, hv.1, hv.2.1, lt_s hv.2.2 ⟨c_140, c_160⟩⟩⟩) (show us - (k + 1) < us - k by omega) ls (lv_sub hl [0, 1, 2, 3] rfl)
              · refine lv_iload_n hx hb dX4_same_119 rfl (lv_at hl 1 rfl) ?_
                refine lv_if_eq (tgt := 175) hx hb dX4_same_120 (by decide) (fun c_120 => ?_) (fun c_120 => ?_)
                · have c_120 : 0 = 0 := (nZ_eq (by omega)).mp c_120
                  refine lv_iload_n hx hb dX4_same_175 rfl (lv_at hl 1 rfl) ?_
                  refine lv_if_eq (tgt := 183) hx hb dX4_same_176 (by decide) (fun c_176 => ?_) (fun c_176 => ?_)
                  · have c_176 : 0 = 0 := (nZ_eq (by omega)).mp c_176
                    refine lv_iconst (v := (nI 0)) hx hb dX4_same_183 (by decide) ?_
                    exact W.iret (v := (nI 0)) hx hb hr (fun t ht hW => ⟨(nI 0), rfl, Or.inr ⟨c_4, Or.inr ⟨hv, rfl⟩⟩, ht⟩) (fun _ h9 => absurd h9 List.not_mem_nil) dX4_same_184
                  · exact absurd c_176 (by decide)
                · exact absurd c_120 (by decide)
        · have c_69 : ¬ sz ≤ i := fun q => c_69 ((nI_leI (a := sz) (b := i) (by omega) (by omega)).mpr q)
          rcases hv with ⟨rfl, hv⟩ | ⟨rfl, hv⟩
          · refine lv_iload_n hx hb dX4_same_72 rfl (lv_at hl 1 rfl) ?_
            refine lv_if_eq (tgt := 109) hx hb dX4_same_73 (by decide) (fun c_73 => ?_) (fun c_73 => ?_)
            · exact absurd c_73 (by decide)
            · have c_73 : ¬ 1 = 0 := fun q => c_73 ((nZ_eq (by omega)).mpr q)
              refine lv_aload_n hx hb dX4_same_76 rfl (lv_at hl 3 rfl) ?_
              refine va_get (D := (dC, dI)) (ci := 4) (v := .ref (a 1)) (C := RX4) (T := TX4) (N := 18) hx hb hts in_X4 hown hK hP 0 rfl rfl 0 (by decide) lk_8 (fun _ h9 => h9) rfl dX4_same_77 ?_
              refine lv_iload_n hx hb dX4_same_80 rfl (lv_at hl 0 rfl) ?_
              refine va_iald hx hb hK hP 1 0 rfl rfl (vp_in_nI (by omega) (by omega)) dX4_same_81 ?_
              refine tpi (nf_at (by omega)) ?_
              have w_81 := bmem i
              refine lv_aload_n hx hb dX4_same_82 rfl (lv_at hl 3 rfl) ?_
              refine va_get (D := (dC, dI)) (ci := 4) (v := .ref (a 4)) (C := RX4) (T := TX4) (N := 18) hx hb hts in_X4 hown hK hP 0 rfl rfl 7 (by decide) lk_9 (fun _ h9 => h9) rfl dX4_same_83 ?_
              refine lv_sipush (v := (nI 8192)) hx hb dX4_same_86 (by decide) ?_
              refine lv_iload_n hx hb dX4_same_89 rfl (lv_at hl 2 rfl) ?_
              refine lv_imul hx hb dX4_same_90 ?_
              refine tpi (pk_mul _ _) ?_
              refine lv_iload_n hx hb dX4_same_91 rfl (lv_at hl 0 rfl) ?_
              refine lv_iadd hx hb dX4_same_92 ?_
              refine tpi (nI_add _ _) ?_
              refine va_iald hx hb hK hP 4 0 rfl rfl (vp_in_nI (by omega) (by omega)) dX4_same_93 ?_
              refine tpi (nf_at (by omega)) ?_
              have w_93 := bkm (8192 * (kp - 1) + i)
              refine lv_icmp_ne (tgt := 101) hx hb dX4_same_94 (by decide) (fun c_94 => ?_) (fun c_94 => ?_)
              · have c_94 : ¬ mem i = km (8192 * (kp - 1) + i) := fun q => c_94 ((nI_eq (a := mem i) (b := km (8192 * (kp - 1) + i)) (by omega) (by omega)).mpr q)
                refine lv_iconst (v := (nI 0)) hx hb dX4_same_101 (by decide) ?_
                refine lv_istore_n (lv' := [(2, .int (nI 0)), (3, .int (nI i)), (1, .int (nI (kp - 1))), (0, .ref (a 0))]) hx hb dX4_same_102 rfl hl (by decide) rfl (fun ls hl => ?_)
                refine lv_iinc (v := (nI (i + 1))) (lv' := [(3, .int (nI (i + 1))), (2, .int (nI 0)), (1, .int (nI (kp - 1))), (0, .ref (a 0))]) hx hb dX4_same_103 hl (k := 1) rfl (nI_inc _) (by decide) rfl (fun ls hl => ?_)
                refine lv_goto (tgt := 64) hx hb dX4_same_106 (by decide) ?_
                exact ih_64 (i + 1, 0) (⟨by omega, Or.inr ⟨rfl, fun q => c_94 (q.2.1 i (by omega))⟩⟩) (show sz - (i + 1) < sz - i by omega) ls (lv_sub hl [0, 1, 2, 3] rfl)
              · have c_94 : mem i = km (8192 * (kp - 1) + i) := (nI_eq (a := mem i) (b := km (8192 * (kp - 1) + i)) (by omega) (by omega)).mp c_94
                refine lv_iconst (v := (nI 1)) hx hb dX4_same_97 (by decide) ?_
                refine lv_goto (tgt := 102) hx hb dX4_same_98 (by decide) ?_
                refine lv_istore_n (lv' := [(2, .int (nI 1)), (3, .int (nI i)), (1, .int (nI (kp - 1))), (0, .ref (a 0))]) hx hb dX4_same_102 rfl hl (by decide) rfl (fun ls hl => ?_)
                refine lv_iinc (v := (nI (i + 1))) (lv' := [(3, .int (nI (i + 1))), (2, .int (nI 1)), (1, .int (nI (kp - 1))), (0, .ref (a 0))]) hx hb dX4_same_103 hl (k := 1) rfl (nI_inc _) (by decide) rfl (fun ls hl => ?_)
                refine lv_goto (tgt := 64) hx hb dX4_same_106 (by decide) ?_
                exact ih_64 (i + 1, 1) (⟨by omega, Or.inl ⟨rfl, hv.1, lt_s hv.2 c_94⟩⟩) (show sz - (i + 1) < sz - i by omega) ls (lv_sub hl [0, 1, 2, 3] rfl)
          · refine lv_iload_n hx hb dX4_same_72 rfl (lv_at hl 1 rfl) ?_
            refine lv_if_eq (tgt := 109) hx hb dX4_same_73 (by decide) (fun c_73 => ?_) (fun c_73 => ?_)
            · have c_73 : 0 = 0 := (nZ_eq (by omega)).mp c_73
              refine lv_iconst (v := (nI 0)) hx hb dX4_same_109 (by decide) ?_
              refine lv_istore_n (lv' := [(3, .int (nI 0)), (2, .int (nI 0)), (1, .int (nI (kp - 1))), (0, .ref (a 0))]) hx hb dX4_same_110 rfl hl (by decide) rfl (fun ls hl => ?_)
              refine lp_still (σ := Nat × Nat) (fun ⟨k, b⟩ => k ≤ us ∧ ((b = 1 ∧ (sz = ks (kp - 1) ∧ st = kt (kp - 1) ∧ us = ku (kp - 1)) ∧ (∀ j, j < sz → mem j = km (8192 * (kp - 1) + j)) ∧ (∀ j, j < k → pl j = kl (64 * (kp - 1) + j) ∧ ln j = kn (64 * (kp - 1) + j))) ∨ (b = 0 ∧ ¬ smP sz st us mem pl ln km ks kt ku kl kn (kp - 1)))) (fun ⟨k, b⟩ => us - k) (fun ⟨k, b⟩ => [(3, .int (nI k)), (2, .int (nI b)), (1, .int (nI (kp - 1))), (0, .ref (a 0))]) ?_ ((0, 0)) (⟨by omega, Or.inr ⟨rfl, hv⟩⟩) (lv_sub hl [0, 1, 2, 3] rfl)
              intro ⟨k, b⟩ hI ih ls hl
              have hl : lv_has ls 4 [(3, .int (nI k)), (2, .int (nI b)), (1, .int (nI (kp - 1))), (0, .ref (a 0))] := hl
              have hI : k ≤ us ∧ ((b = 1 ∧ (sz = ks (kp - 1) ∧ st = kt (kp - 1) ∧ us = ku (kp - 1)) ∧ (∀ j, j < sz → mem j = km (8192 * (kp - 1) + j)) ∧ (∀ j, j < k → pl j = kl (64 * (kp - 1) + j) ∧ ln j = kn (64 * (kp - 1) + j))) ∨ (b = 0 ∧ ¬ smP sz st us mem pl ln km ks kt ku kl kn (kp - 1))) := hI
              obtain ⟨hk, hv⟩ := hI
              have ih_111 := ih
              refine lv_iload_n hx hb dX4_same_111 rfl (lv_at hl 0 rfl) ?_
              refine lv_aload_n hx hb dX4_same_112 rfl (lv_at hl 3 rfl) ?_
              refine va_get (D := (dC, dI)) (ci := 4) (v := .int (nI us)) (C := RX4) (T := TX4) (N := 18) hx hb hts in_X4 hown hK hP 0 rfl rfl 3 (by decide) lk_6 (fun _ h9 => h9) rfl dX4_same_113 ?_
              refine lv_icmp_ge (tgt := 175) hx hb dX4_same_116 (by decide) (fun c_116 => ?_) (fun c_116 => ?_)
              · have c_116 : us ≤ k := (nI_leI (a := us) (b := k) (by omega) (by omega)).mp c_116
                rcases hv with ⟨rfl, hv⟩ | ⟨rfl, hv⟩
                · refine lv_iload_n hx hb dX4_same_175 rfl (lv_at hl 1 rfl) ?_
                  refine lv_if_eq (tgt := 183) hx hb dX4_same_176 (by decide) (fun c_176 => ?_) (fun c_176 => ?_)
                  · exact absurd c_176 (by decide)
                  · have c_176 : ¬ 1 = 0 := fun q => c_176 ((nZ_eq (by omega)).mpr q)
                    refine lv_iconst (v := (nI 1)) hx hb dX4_same_179 (by decide) ?_
                    refine lv_goto (tgt := 184) hx hb dX4_same_180 (by decide) ?_
                    exact W.iret (v := (nI 1)) hx hb hr (fun t ht hW => ⟨(nI 1), rfl, Or.inr ⟨c_4, Or.inl ⟨⟨hv.1, hv.2.1, fun j hj => hv.2.2 j (by omega)⟩, rfl⟩⟩, ht⟩) (fun _ h9 => absurd h9 List.not_mem_nil) dX4_same_184
                · refine lv_iload_n hx hb dX4_same_175 rfl (lv_at hl 1 rfl) ?_
                  refine lv_if_eq (tgt := 183) hx hb dX4_same_176 (by decide) (fun c_176 => ?_) (fun c_176 => ?_)
                  · have c_176 : 0 = 0 := (nZ_eq (by omega)).mp c_176
                    refine lv_iconst (v := (nI 0)) hx hb dX4_same_183 (by decide) ?_
                    exact W.iret (v := (nI 0)) hx hb hr (fun t ht hW => ⟨(nI 0), rfl, Or.inr ⟨c_4, Or.inr ⟨hv, rfl⟩⟩, ht⟩) (fun _ h9 => absurd h9 List.not_mem_nil) dX4_same_184
                  · exact absurd c_176 (by decide)
              · have c_116 : ¬ us ≤ k := fun q => c_116 ((nI_leI (a := us) (b := k) (by omega) (by omega)).mpr q)
                rcases hv with ⟨rfl, hv⟩ | ⟨rfl, hv⟩
                · refine lv_iload_n hx hb dX4_same_119 rfl (lv_at hl 1 rfl) ?_
                  refine lv_if_eq (tgt := 175) hx hb dX4_same_120 (by decide) (fun c_120 => ?_) (fun c_120 => ?_)
                  · exact absurd c_120 (by decide)
                  · have c_120 : ¬ 1 = 0 := fun q => c_120 ((nZ_eq (by omega)).mpr q)
                    refine lv_aload_n hx hb dX4_same_123 rfl (lv_at hl 3 rfl) ?_
                    refine va_get (D := (dC, dI)) (ci := 4) (v := .ref (a 2)) (C := RX4) (T := TX4) (N := 18) hx hb hts in_X4 hown hK hP 0 rfl rfl 4 (by decide) lk_10 (fun _ h9 => h9) rfl dX4_same_124 ?_
                    refine lv_iload_n hx hb dX4_same_127 rfl (lv_at hl 0 rfl) ?_
                    refine va_iald hx hb hK hP 2 0 rfl rfl (vp_in_nI (by omega) (by omega)) dX4_same_128 ?_
                    refine tpi (nf_at (by omega)) ?_
                    have w_128 := bpl k
                    refine lv_aload_n hx hb dX4_same_129 rfl (lv_at hl 3 rfl) ?_
                    refine va_get (D := (dC, dI)) (ci := 4) (v := .ref (a 8)) (C := RX4) (T := TX4) (N := 18) hx hb hts in_X4 hown hK hP 0 rfl rfl 11 (by decide) lk_11 (fun _ h9 => h9) rfl dX4_same_130 ?_
                    refine lv_bipush (v := (nI 64)) hx hb dX4_same_133 (by decide) ?_
                    refine lv_iload_n hx hb dX4_same_135 rfl (lv_at hl 2 rfl) ?_
                    refine lv_imul hx hb dX4_same_136 ?_
                    refine tpi (pk_mul _ _) ?_
                    refine lv_iload_n hx hb dX4_same_137 rfl (lv_at hl 0 rfl) ?_
                    refine lv_iadd hx hb dX4_same_138 ?_
                    refine tpi (nI_add _ _) ?_
                    refine va_iald hx hb hK hP 8 0 rfl rfl (vp_in_nI (by omega) (by omega)) dX4_same_139 ?_
                    refine tpi (nf_at (by omega)) ?_
                    have w_139 := bkl (64 * (kp - 1) + k)
                    refine lv_icmp_ne (tgt := 167) hx hb dX4_same_140 (by decide) (fun c_140 => ?_) (fun c_140 => ?_)
                    · have c_140 : ¬ pl k = kl (64 * (kp - 1) + k) := fun q => c_140 ((nI_eq (a := pl k) (b := kl (64 * (kp - 1) + k)) (by omega) (by omega)).mpr q)
                      refine lv_iconst (v := (nI 0)) hx hb dX4_same_167 (by decide) ?_
                      refine lv_istore_n (lv' := [(2, .int (nI 0)), (3, .int (nI k)), (1, .int (nI (kp - 1))), (0, .ref (a 0))]) hx hb dX4_same_168 rfl hl (by decide) rfl (fun ls hl => ?_)
                      refine lv_iinc (v := (nI (k + 1))) (lv' := [(3, .int (nI (k + 1))), (2, .int (nI 0)), (1, .int (nI (kp - 1))), (0, .ref (a 0))]) hx hb dX4_same_169 hl (k := 1) rfl (nI_inc _) (by decide) rfl (fun ls hl => ?_)
                      refine lv_goto (tgt := 111) hx hb dX4_same_172 (by decide) ?_
                      exact ih_111 (k + 1, 0) (⟨by omega, Or.inr ⟨rfl, fun q => c_140 (q.2.2 k (by omega)).1⟩⟩) (show us - (k + 1) < us - k by omega) ls (lv_sub hl [0, 1, 2, 3] rfl)
                    · have c_140 : pl k = kl (64 * (kp - 1) + k) := (nI_eq (a := pl k) (b := kl (64 * (kp - 1) + k)) (by omega) (by omega)).mp c_140
                      refine lv_aload_n hx hb dX4_same_143 rfl (lv_at hl 3 rfl) ?_
                      refine va_get (D := (dC, dI)) (ci := 4) (v := .ref (a 3)) (C := RX4) (T := TX4) (N := 18) hx hb hts in_X4 hown hK hP 0 rfl rfl 5 (by decide) lk_12 (fun _ h9 => h9) rfl dX4_same_144 ?_
                      refine lv_iload_n hx hb dX4_same_147 rfl (lv_at hl 0 rfl) ?_
                      refine va_iald hx hb hK hP 3 0 rfl rfl (vp_in_nI (by omega) (by omega)) dX4_same_148 ?_
                      refine tpi (nf_at (by omega)) ?_
                      have w_148 := bln k
                      refine lv_aload_n hx hb dX4_same_149 rfl (lv_at hl 3 rfl) ?_
                      refine va_get (D := (dC, dI)) (ci := 4) (v := .ref (a 9)) (C := RX4) (T := TX4) (N := 18) hx hb hts in_X4 hown hK hP 0 rfl rfl 12 (by decide) lk_13 (fun _ h9 => h9) rfl dX4_same_150 ?_
                      refine lv_bipush (v := (nI 64)) hx hb dX4_same_153 (by decide) ?_
                      refine lv_iload_n hx hb dX4_same_155 rfl (lv_at hl 2 rfl) ?_
                      refine lv_imul hx hb dX4_same_156 ?_
                      refine tpi (pk_mul _ _) ?_
                      refine lv_iload_n hx hb dX4_same_157 rfl (lv_at hl 0 rfl) ?_
                      refine lv_iadd hx hb dX4_same_158 ?_
                      refine tpi (nI_add _ _) ?_
                      refine va_iald hx hb hK hP 9 0 rfl rfl (vp_in_nI (by omega) (by omega)) dX4_same_159 ?_
                      refine tpi (nf_at (by omega)) ?_
                      have w_159 := bkn (64 * (kp - 1) + k)
                      refine lv_icmp_ne (tgt := 167) hx hb dX4_same_160 (by decide) (fun c_160 => ?_) (fun c_160 => ?_)
                      · have c_160 : ¬ ln k = kn (64 * (kp - 1) + k) := fun q => c_160 ((nI_eq (a := ln k) (b := kn (64 * (kp - 1) + k)) (by omega) (by omega)).mpr q)
                        refine lv_iconst (v := (nI 0)) hx hb dX4_same_167 (by decide) ?_
                        refine lv_istore_n (lv' := [(2, .int (nI 0)), (3, .int (nI k)), (1, .int (nI (kp - 1))), (0, .ref (a 0))]) hx hb dX4_same_168 rfl hl (by decide) rfl (fun ls hl => ?_)
                        refine lv_iinc (v := (nI (k + 1))) (lv' := [(3, .int (nI (k + 1))), (2, .int (nI 0)), (1, .int (nI (kp - 1))), (0, .ref (a 0))]) hx hb dX4_same_169 hl (k := 1) rfl (nI_inc _) (by decide) rfl (fun ls hl => ?_)
                        refine lv_goto (tgt := 111) hx hb dX4_same_172 (by decide) ?_
                        exact ih_111 (k + 1, 0) (⟨by omega, Or.inr ⟨rfl, fun q => c_160 (q.2.2 k (by omega)).2⟩⟩) (show us - (k + 1) < us - k by omega) ls (lv_sub hl [0, 1, 2, 3] rfl)
                      · have c_160 : ln k = kn (64 * (kp - 1) + k) := (nI_eq (a := ln k) (b := kn (64 * (kp - 1) + k)) (by omega) (by omega)).mp c_160
                        refine lv_iconst (v := (nI 1)) hx hb dX4_same_163 (by decide) ?_
                        refine lv_goto (tgt := 168) hx hb dX4_same_164 (by decide) ?_
                        refine lv_istore_n (lv' := [(2, .int (nI 1)), (3, .int (nI k)), (1, .int (nI (kp - 1))), (0, .ref (a 0))]) hx hb dX4_same_168 rfl hl (by decide) rfl (fun ls hl => ?_)
                        refine lv_iinc (v := (nI (k + 1))) (lv' := [(3, .int (nI (k + 1))), (2, .int (nI 1)), (1, .int (nI (kp - 1))), (0, .ref (a 0))]) hx hb dX4_same_169 hl (k := 1) rfl (nI_inc _) (by decide) rfl (fun ls hl => ?_)
                        refine lv_goto (tgt := 111) hx hb dX4_same_172 (by decide) ?_
                        exact ih_111 (k + 1, 1) (⟨by omega, Or.inl ⟨rfl, hv.1, hv.2.1, lt_s hv.2.2 ⟨c_140, c_160⟩⟩⟩) (show us - (k + 1) < us - k by omega) ls (lv_sub hl [0, 1, 2, 3] rfl)
                · refine lv_iload_n hx hb dX4_same_119 rfl (lv_at hl 1 rfl) ?_
                  refine lv_if_eq (tgt := 175) hx hb dX4_same_120 (by decide) (fun c_120 => ?_) (fun c_120 => ?_)
                  · have c_120 : 0 = 0 := (nZ_eq (by omega)).mp c_120
                    refine lv_iload_n hx hb dX4_same_175 rfl (lv_at hl 1 rfl) ?_
                    refine lv_if_eq (tgt := 183) hx hb dX4_same_176 (by decide) (fun c_176 => ?_) (fun c_176 => ?_)
                    · have c_176 : 0 = 0 := (nZ_eq (by omega)).mp c_176
                      refine lv_iconst (v := (nI 0)) hx hb dX4_same_183 (by decide) ?_
                      exact W.iret (v := (nI 0)) hx hb hr (fun t ht hW => ⟨(nI 0), rfl, Or.inr ⟨c_4, Or.inr ⟨hv, rfl⟩⟩, ht⟩) (fun _ h9 => absurd h9 List.not_mem_nil) dX4_same_184
                    · exact absurd c_176 (by decide)
                  · exact absurd c_120 (by decide)
            · exact absurd c_73 (by decide)
      · have c_40 : st = kt (kp - 1) := (nI_eq (a := st) (b := kt (kp - 1)) (by omega) (by omega)).mp c_40
        refine lv_aload_n hx hb dX4_same_43 rfl (lv_at hl 1 rfl) ?_
        refine va_get (D := (dC, dI)) (ci := 4) (v := .int (nI us)) (C := RX4) (T := TX4) (N := 18) hx hb hts in_X4 hown hK hP 0 rfl rfl 3 (by decide) lk_6 (fun _ h9 => h9) rfl dX4_same_44 ?_
        refine lv_aload_n hx hb dX4_same_47 rfl (lv_at hl 1 rfl) ?_
        refine va_get (D := (dC, dI)) (ci := 4) (v := .ref (a 7)) (C := RX4) (T := TX4) (N := 18) hx hb hts in_X4 hown hK hP 0 rfl rfl 10 (by decide) lk_7 (fun _ h9 => h9) rfl dX4_same_48 ?_
        refine lv_iload_n hx hb dX4_same_51 rfl (lv_at hl 0 rfl) ?_
        refine va_iald hx hb hK hP 7 0 rfl rfl (vp_in_nI (by omega) (by omega)) dX4_same_52 ?_
        refine tpi (nf_at (by omega)) ?_
        have w_52 := bku (kp - 1)
        refine lv_icmp_ne (tgt := 60) hx hb dX4_same_53 (by decide) (fun c_53 => ?_) (fun c_53 => ?_)
        · have c_53 : ¬ us = ku (kp - 1) := fun q => c_53 ((nI_eq (a := us) (b := ku (kp - 1)) (by omega) (by omega)).mpr q)
          refine lv_iconst (v := (nI 0)) hx hb dX4_same_60 (by decide) ?_
          refine lv_istore_n (lv' := [(2, .int (nI 0)), (1, .int (nI (kp - 1))), (0, .ref (a 0))]) hx hb dX4_same_61 rfl hl (by decide) rfl (fun ls hl => ?_)
          refine lv_iconst (v := (nI 0)) hx hb dX4_same_62 (by decide) ?_
          refine lv_istore_n (lv' := [(3, .int (nI 0)), (2, .int (nI 0)), (1, .int (nI (kp - 1))), (0, .ref (a 0))]) hx hb dX4_same_63 rfl hl (by decide) rfl (fun ls hl => ?_)
          refine lp_still (σ := Nat × Nat) (fun ⟨i, b⟩ => i ≤ sz ∧ ((b = 1 ∧ (sz = ks (kp - 1) ∧ st = kt (kp - 1) ∧ us = ku (kp - 1)) ∧ (∀ j, j < i → mem j = km (8192 * (kp - 1) + j))) ∨ (b = 0 ∧ ¬ smP sz st us mem pl ln km ks kt ku kl kn (kp - 1)))) (fun ⟨i, b⟩ => sz - i) (fun ⟨i, b⟩ => [(3, .int (nI i)), (2, .int (nI b)), (1, .int (nI (kp - 1))), (0, .ref (a 0))]) ?_ ((0, 0)) (⟨by omega, Or.inr ⟨rfl, fun q => c_53 q.1.2.2⟩⟩) (lv_sub hl [0, 1, 2, 3] rfl)
          intro ⟨i, b⟩ hI ih ls hl
          have hl : lv_has ls 4 [(3, .int (nI i)), (2, .int (nI b)), (1, .int (nI (kp - 1))), (0, .ref (a 0))] := hl
          have hI : i ≤ sz ∧ ((b = 1 ∧ (sz = ks (kp - 1) ∧ st = kt (kp - 1) ∧ us = ku (kp - 1)) ∧ (∀ j, j < i → mem j = km (8192 * (kp - 1) + j))) ∨ (b = 0 ∧ ¬ smP sz st us mem pl ln km ks kt ku kl kn (kp - 1))) := hI
          obtain ⟨hi, hv⟩ := hI
          have ih_64 := ih
          refine lv_iload_n hx hb dX4_same_64 rfl (lv_at hl 0 rfl) ?_
          refine lv_aload_n hx hb dX4_same_65 rfl (lv_at hl 3 rfl) ?_
          refine va_get (D := (dC, dI)) (ci := 4) (v := .int (nI sz)) (C := RX4) (T := TX4) (N := 18) hx hb hts in_X4 hown hK hP 0 rfl rfl 1 (by decide) lk_2 (fun _ h9 => h9) rfl dX4_same_66 ?_
          refine lv_icmp_ge (tgt := 109) hx hb dX4_same_69 (by decide) (fun c_69 => ?_) (fun c_69 => ?_)
          · have c_69 : sz ≤ i := (nI_leI (a := sz) (b := i) (by omega) (by omega)).mp c_69
            rcases hv with ⟨rfl, hv⟩ | ⟨rfl, hv⟩
            · refine lv_iconst (v := (nI 0)) hx hb dX4_same_109 (by decide) ?_
              refine lv_istore_n (lv' := [(3, .int (nI 0)), (2, .int (nI 1)), (1, .int (nI (kp - 1))), (0, .ref (a 0))]) hx hb dX4_same_110 rfl hl (by decide) rfl (fun ls hl => ?_)
              refine lp_still (σ := Nat × Nat) (fun ⟨k, b⟩ => k ≤ us ∧ ((b = 1 ∧ (sz = ks (kp - 1) ∧ st = kt (kp - 1) ∧ us = ku (kp - 1)) ∧ (∀ j, j < sz → mem j = km (8192 * (kp - 1) + j)) ∧ (∀ j, j < k → pl j = kl (64 * (kp - 1) + j) ∧ ln j = kn (64 * (kp - 1) + j))) ∨ (b = 0 ∧ ¬ smP sz st us mem pl ln km ks kt ku kl kn (kp - 1)))) (fun ⟨k, b⟩ => us - k) (fun ⟨k, b⟩ => [(3, .int (nI k)), (2, .int (nI b)), (1, .int (nI (kp - 1))), (0, .ref (a 0))]) ?_ ((0, 1)) (⟨by omega, Or.inl ⟨rfl, hv.1, fun j hj => hv.2 j (by omega), fun j hj => absurd hj (Nat.not_lt_zero _)⟩⟩) (lv_sub hl [0, 1, 2, 3] rfl)
              intro ⟨k, b⟩ hI ih ls hl
              have hl : lv_has ls 4 [(3, .int (nI k)), (2, .int (nI b)), (1, .int (nI (kp - 1))), (0, .ref (a 0))] := hl
              have hI : k ≤ us ∧ ((b = 1 ∧ (sz = ks (kp - 1) ∧ st = kt (kp - 1) ∧ us = ku (kp - 1)) ∧ (∀ j, j < sz → mem j = km (8192 * (kp - 1) + j)) ∧ (∀ j, j < k → pl j = kl (64 * (kp - 1) + j) ∧ ln j = kn (64 * (kp - 1) + j))) ∨ (b = 0 ∧ ¬ smP sz st us mem pl ln km ks kt ku kl kn (kp - 1))) := hI
              obtain ⟨hk, hv⟩ := hI
              have ih_111 := ih
              refine lv_iload_n hx hb dX4_same_111 rfl (lv_at hl 0 rfl) ?_
              refine lv_aload_n hx hb dX4_same_112 rfl (lv_at hl 3 rfl) ?_
              refine va_get (D := (dC, dI)) (ci := 4) (v := .int (nI us)) (C := RX4) (T := TX4) (N := 18) hx hb hts in_X4 hown hK hP 0 rfl rfl 3 (by decide) lk_6 (fun _ h9 => h9) rfl dX4_same_113 ?_
              refine lv_icmp_ge (tgt := 175) hx hb dX4_same_116 (by decide) (fun c_116 => ?_) (fun c_116 => ?_)
              · have c_116 : us ≤ k := (nI_leI (a := us) (b := k) (by omega) (by omega)).mp c_116
                rcases hv with ⟨rfl, hv⟩ | ⟨rfl, hv⟩
                · refine lv_iload_n hx hb dX4_same_175 rfl (lv_at hl 1 rfl) ?_
                  refine lv_if_eq (tgt := 183) hx hb dX4_same_176 (by decide) (fun c_176 => ?_) (fun c_176 => ?_)
                  · exact absurd c_176 (by decide)
                  · have c_176 : ¬ 1 = 0 := fun q => c_176 ((nZ_eq (by omega)).mpr q)
                    refine lv_iconst (v := (nI 1)) hx hb dX4_same_179 (by decide) ?_
                    refine lv_goto (tgt := 184) hx hb dX4_same_180 (by decide) ?_
                    exact W.iret (v := (nI 1)) hx hb hr (fun t ht hW => ⟨(nI 1), rfl, Or.inr ⟨c_4, Or.inl ⟨⟨hv.1, hv.2.1, fun j hj => hv.2.2 j (by omega)⟩, rfl⟩⟩, ht⟩) (fun _ h9 => absurd h9 List.not_mem_nil) dX4_same_184
                · refine lv_iload_n hx hb dX4_same_175 rfl (lv_at hl 1 rfl) ?_
                  refine lv_if_eq (tgt := 183) hx hb dX4_same_176 (by decide) (fun c_176 => ?_) (fun c_176 => ?_)
                  · have c_176 : 0 = 0 := (nZ_eq (by omega)).mp c_176
                    refine lv_iconst (v := (nI 0)) hx hb dX4_same_183 (by decide) ?_
                    exact W.iret (v := (nI 0)) hx hb hr (fun t ht hW => ⟨(nI 0), rfl, Or.inr ⟨c_4, Or.inr ⟨hv, rfl⟩⟩, ht⟩) (fun _ h9 => absurd h9 List.not_mem_nil) dX4_same_184
                  · exact absurd c_176 (by decide)
              · have c_116 : ¬ us ≤ k := fun q => c_116 ((nI_leI (a := us) (b := k) (by omega) (by omega)).mpr q)
                rcases hv with ⟨rfl, hv⟩ | ⟨rfl, hv⟩
                · refine lv_iload_n hx hb dX4_same_119 rfl (lv_at hl 1 rfl) ?_
                  refine lv_if_eq (tgt := 175) hx hb dX4_same_120 (by decide) (fun c_120 => ?_) (fun c_120 => ?_)
                  · exact absurd c_120 (by decide)
                  · have c_120 : ¬ 1 = 0 := fun q => c_120 ((nZ_eq (by omega)).mpr q)
                    refine lv_aload_n hx hb dX4_same_123 rfl (lv_at hl 3 rfl) ?_
                    refine va_get (D := (dC, dI)) (ci := 4) (v := .ref (a 2)) (C := RX4) (T := TX4) (N := 18) hx hb hts in_X4 hown hK hP 0 rfl rfl 4 (by decide) lk_10 (fun _ h9 => h9) rfl dX4_same_124 ?_
                    refine lv_iload_n hx hb dX4_same_127 rfl (lv_at hl 0 rfl) ?_
                    refine va_iald hx hb hK hP 2 0 rfl rfl (vp_in_nI (by omega) (by omega)) dX4_same_128 ?_
                    refine tpi (nf_at (by omega)) ?_
                    have w_128 := bpl k
                    refine lv_aload_n hx hb dX4_same_129 rfl (lv_at hl 3 rfl) ?_
                    refine va_get (D := (dC, dI)) (ci := 4) (v := .ref (a 8)) (C := RX4) (T := TX4) (N := 18) hx hb hts in_X4 hown hK hP 0 rfl rfl 11 (by decide) lk_11 (fun _ h9 => h9) rfl dX4_same_130 ?_
                    refine lv_bipush (v := (nI 64)) hx hb dX4_same_133 (by decide) ?_
                    refine lv_iload_n hx hb dX4_same_135 rfl (lv_at hl 2 rfl) ?_
                    refine lv_imul hx hb dX4_same_136 ?_
                    refine tpi (pk_mul _ _) ?_
                    refine lv_iload_n hx hb dX4_same_137 rfl (lv_at hl 0 rfl) ?_
                    refine lv_iadd hx hb dX4_same_138 ?_
                    refine tpi (nI_add _ _) ?_
                    refine va_iald hx hb hK hP 8 0 rfl rfl (vp_in_nI (by omega) (by omega)) dX4_same_139 ?_
                    refine tpi (nf_at (by omega)) ?_
                    have w_139 := bkl (64 * (kp - 1) + k)
                    refine lv_icmp_ne (tgt := 167) hx hb dX4_same_140 (by decide) (fun c_140 => ?_) (fun c_140 => ?_)
                    · have c_140 : ¬ pl k = kl (64 * (kp - 1) + k) := fun q => c_140 ((nI_eq (a := pl k) (b := kl (64 * (kp - 1) + k)) (by omega) (by omega)).mpr q)
                      refine lv_iconst (v := (nI 0)) hx hb dX4_same_167 (by decide) ?_
                      refine lv_istore_n (lv' := [(2, .int (nI 0)), (3, .int (nI k)), (1, .int (nI (kp - 1))), (0, .ref (a 0))]) hx hb dX4_same_168 rfl hl (by decide) rfl (fun ls hl => ?_)
                      refine lv_iinc (v := (nI (k + 1))) (lv' := [(3, .int (nI (k + 1))), (2, .int (nI 0)), (1, .int (nI (kp - 1))), (0, .ref (a 0))]) hx hb dX4_same_169 hl (k := 1) rfl (nI_inc _) (by decide) rfl (fun ls hl => ?_)
                      refine lv_goto (tgt := 111) hx hb dX4_same_172 (by decide) ?_
                      exact ih_111 (k + 1, 0) (⟨by omega, Or.inr ⟨rfl, fun q => c_140 (q.2.2 k (by omega)).1⟩⟩) (show us - (k + 1) < us - k by omega) ls (lv_sub hl [0, 1, 2, 3] rfl)
                    · have c_140 : pl k = kl (64 * (kp - 1) + k) := (nI_eq (a := pl k) (b := kl (64 * (kp - 1) + k)) (by omega) (by omega)).mp c_140
                      refine lv_aload_n hx hb dX4_same_143 rfl (lv_at hl 3 rfl) ?_
                      refine va_get (D := (dC, dI)) (ci := 4) (v := .ref (a 3)) (C := RX4) (T := TX4) (N := 18) hx hb hts in_X4 hown hK hP 0 rfl rfl 5 (by decide) lk_12 (fun _ h9 => h9) rfl dX4_same_144 ?_
                      refine lv_iload_n hx hb dX4_same_147 rfl (lv_at hl 0 rfl) ?_
                      refine va_iald hx hb hK hP 3 0 rfl rfl (vp_in_nI (by omega) (by omega)) dX4_same_148 ?_
                      refine tpi (nf_at (by omega)) ?_
                      have w_148 := bln k
                      refine lv_aload_n hx hb dX4_same_149 rfl (lv_at hl 3 rfl) ?_
                      refine va_get (D := (dC, dI)) (ci := 4) (v := .ref (a 9)) (C := RX4) (T := TX4) (N := 18) hx hb hts in_X4 hown hK hP 0 rfl rfl 12 (by decide) lk_13 (fun _ h9 => h9) rfl dX4_same_150 ?_
                      refine lv_bipush (v := (nI 64)) hx hb dX4_same_153 (by decide) ?_
                      refine lv_iload_n hx hb dX4_same_155 rfl (lv_at hl 2 rfl) ?_
                      refine lv_imul hx hb dX4_same_156 ?_
                      refine tpi (pk_mul _ _) ?_
                      refine lv_iload_n hx hb dX4_same_157 rfl (lv_at hl 0 rfl) ?_
                      refine lv_iadd hx hb dX4_same_158 ?_
                      refine tpi (nI_add _ _) ?_
                      refine va_iald hx hb hK hP 9 0 rfl rfl (vp_in_nI (by omega) (by omega)) dX4_same_159 ?_
                      refine tpi (nf_at (by omega)) ?_
                      have w_159 := bkn (64 * (kp - 1) + k)
                      refine lv_icmp_ne (tgt := 167) hx hb dX4_same_160 (by decide) (fun c_160 => ?_) (fun c_160 => ?_)
                      · have c_160 : ¬ ln k = kn (64 * (kp - 1) + k) := fun q => c_160 ((nI_eq (a := ln k) (b := kn (64 * (kp - 1) + k)) (by omega) (by omega)).mpr q)
                        refine lv_iconst (v := (nI 0)) hx hb dX4_same_167 (by decide) ?_
                        refine lv_istore_n (lv' := [(2, .int (nI 0)), (3, .int (nI k)), (1, .int (nI (kp - 1))), (0, .ref (a 0))]) hx hb dX4_same_168 rfl hl (by decide) rfl (fun ls hl => ?_)
                        refine lv_iinc (v := (nI (k + 1))) (lv' := [(3, .int (nI (k + 1))), (2, .int (nI 0)), (1, .int (nI (kp - 1))), (0, .ref (a 0))]) hx hb dX4_same_169 hl (k := 1) rfl (nI_inc _) (by decide) rfl (fun ls hl => ?_)
                        refine lv_goto (tgt := 111) hx hb dX4_same_172 (by decide) ?_
                        exact ih_111 (k + 1, 0) (⟨by omega, Or.inr ⟨rfl, fun q => c_160 (q.2.2 k (by omega)).2⟩⟩) (show us - (k + 1) < us - k by omega) ls (lv_sub hl [0, 1, 2, 3] rfl)
                      · have c_160 : ln k = kn (64 * (kp - 1) + k) := (nI_eq (a := ln k) (b := kn (64 * (kp - 1) + k)) (by omega) (by omega)).mp c_160
                        refine lv_iconst (v := (nI 1)) hx hb dX4_same_163 (by decide) ?_
                        refine lv_goto (tgt := 168) hx hb dX4_same_164 (by decide) ?_
                        refine lv_istore_n (lv' := [(2, .int (nI 1)), (3, .int (nI k)), (1, .int (nI (kp - 1))), (0, .ref (a 0))]) hx hb dX4_same_168 rfl hl (by decide) rfl (fun ls hl => ?_)
                        refine lv_iinc (v := (nI (k + 1))) (lv' := [(3, .int (nI (k + 1))), (2, .int (nI 1)), (1, .int (nI (kp - 1))), (0, .ref (a 0))]) hx hb dX4_same_169 hl (k := 1) rfl (nI_inc _) (by decide) rfl (fun ls hl => ?_)
                        refine lv_goto (tgt := 111) hx hb dX4_same_172 (by decide) ?_
                        exact ih_111 (k + 1, 1) (⟨by omega, Or.inl ⟨rfl, hv.1, hv.2.1, lt_s hv.2.2 ⟨c_140, c_160⟩⟩⟩) (show us - (k + 1) < us - k by omega) ls (lv_sub hl [0, 1, 2, 3] rfl)
                · refine lv_iload_n hx hb dX4_same_119 rfl (lv_at hl 1 rfl) ?_
                  refine lv_if_eq (tgt := 175) hx hb dX4_same_120 (by decide) (fun c_120 => ?_) (fun c_120 => ?_)
                  · have c_120 : 0 = 0 := (nZ_eq (by omega)).mp c_120
                    refine lv_iload_n hx hb dX4_same_175 rfl (lv_at hl 1 rfl) ?_
                    refine lv_if_eq (tgt := 183) hx hb dX4_same_176 (by decide) (fun c_176 => ?_) (fun c_176 => ?_)
                    · have c_176 : 0 = 0 := (nZ_eq (by omega)).mp c_176
                      refine lv_iconst (v := (nI 0)) hx hb dX4_same_183 (by decide) ?_
                      exact W.iret (v := (nI 0)) hx hb hr (fun t ht hW => ⟨(nI 0), rfl, Or.inr ⟨c_4, Or.inr ⟨hv, rfl⟩⟩, ht⟩) (fun _ h9 => absurd h9 List.not_mem_nil) dX4_same_184
                    · exact absurd c_176 (by decide)
                  · exact absurd c_120 (by decide)
            · refine lv_iconst (v := (nI 0)) hx hb dX4_same_109 (by decide) ?_
              refine lv_istore_n (lv' := [(3, .int (nI 0)), (2, .int (nI 0)), (1, .int (nI (kp - 1))), (0, .ref (a 0))]) hx hb dX4_same_110 rfl hl (by decide) rfl (fun ls hl => ?_)
              refine lp_still (σ := Nat × Nat) (fun ⟨k, b⟩ => k ≤ us ∧ ((b = 1 ∧ (sz = ks (kp - 1) ∧ st = kt (kp - 1) ∧ us = ku (kp - 1)) ∧ (∀ j, j < sz → mem j = km (8192 * (kp - 1) + j)) ∧ (∀ j, j < k → pl j = kl (64 * (kp - 1) + j) ∧ ln j = kn (64 * (kp - 1) + j))) ∨ (b = 0 ∧ ¬ smP sz st us mem pl ln km ks kt ku kl kn (kp - 1)))) (fun ⟨k, b⟩ => us - k) (fun ⟨k, b⟩ => [(3, .int (nI k)), (2, .int (nI b)), (1, .int (nI (kp - 1))), (0, .ref (a 0))]) ?_ ((0, 0)) (⟨by omega, Or.inr ⟨rfl, hv⟩⟩) (lv_sub hl [0, 1, 2, 3] rfl)
              intro ⟨k, b⟩ hI ih ls hl
              have hl : lv_has ls 4 [(3, .int (nI k)), (2, .int (nI b)), (1, .int (nI (kp - 1))), (0, .ref (a 0))] := hl
              have hI : k ≤ us ∧ ((b = 1 ∧ (sz = ks (kp - 1) ∧ st = kt (kp - 1) ∧ us = ku (kp - 1)) ∧ (∀ j, j < sz → mem j = km (8192 * (kp - 1) + j)) ∧ (∀ j, j < k → pl j = kl (64 * (kp - 1) + j) ∧ ln j = kn (64 * (kp - 1) + j))) ∨ (b = 0 ∧ ¬ smP sz st us mem pl ln km ks kt ku kl kn (kp - 1))) := hI
              obtain ⟨hk, hv⟩ := hI
              have ih_111 := ih
              refine lv_iload_n hx hb dX4_same_111 rfl (lv_at hl 0 rfl) ?_
              refine lv_aload_n hx hb dX4_same_112 rfl (lv_at hl 3 rfl) ?_
              refine va_get (D := (dC, dI)) (ci := 4) (v := .int (nI us)) (C := RX4) (T := TX4) (N := 18) hx hb hts in_X4 hown hK hP 0 rfl rfl 3 (by decide) lk_6 (fun _ h9 => h9) rfl dX4_same_113 ?_
              refine lv_icmp_ge (tgt := 175) hx hb dX4_same_116 (by decide) (fun c_116 => ?_) (fun c_116 => ?_)
              · have c_116 : us ≤ k := (nI_leI (a := us) (b := k) (by omega) (by omega)).mp c_116
                rcases hv with ⟨rfl, hv⟩ | ⟨rfl, hv⟩
                · refine lv_iload_n hx hb dX4_same_175 rfl (lv_at hl 1 rfl) ?_
                  refine lv_if_eq (tgt := 183) hx hb dX4_same_176 (by decide) (fun c_176 => ?_) (fun c_176 => ?_)
                  · exact absurd c_176 (by decide)
                  · have c_176 : ¬ 1 = 0 := fun q => c_176 ((nZ_eq (by omega)).mpr q)
                    refine lv_iconst (v := (nI 1)) hx hb dX4_same_179 (by decide) ?_
                    refine lv_goto (tgt := 184) hx hb dX4_same_180 (by decide) ?_
                    exact W.iret (v := (nI 1)) hx hb hr (fun t ht hW => ⟨(nI 1), rfl, Or.inr ⟨c_4, Or.inl ⟨⟨hv.1, hv.2.1, fun j hj => hv.2.2 j (by omega)⟩, rfl⟩⟩, ht⟩) (fun _ h9 => absurd h9 List.not_mem_nil) dX4_same_184
                · refine lv_iload_n hx hb dX4_same_175 rfl (lv_at hl 1 rfl) ?_
                  refine lv_if_eq (tgt := 183) hx hb dX4_same_176 (by decide) (fun c_176 => ?_) (fun c_176 => ?_)
                  · have c_176 : 0 = 0 := (nZ_eq (by omega)).mp c_176
                    refine lv_iconst (v := (nI 0)) hx hb dX4_same_183 (by decide) ?_
                    exact W.iret (v := (nI 0)) hx hb hr (fun t ht hW => ⟨(nI 0), rfl, Or.inr ⟨c_4, Or.inr ⟨hv, rfl⟩⟩, ht⟩) (fun _ h9 => absurd h9 List.not_mem_nil) dX4_same_184
                  · exact absurd c_176 (by decide)
              · have c_116 : ¬ us ≤ k := fun q => c_116 ((nI_leI (a := us) (b := k) (by omega) (by omega)).mpr q)
                rcases hv with ⟨rfl, hv⟩ | ⟨rfl, hv⟩
                · refine lv_iload_n hx hb dX4_same_119 rfl (lv_at hl 1 rfl) ?_
                  refine lv_if_eq (tgt := 175) hx hb dX4_same_120 (by decide) (fun c_120 => ?_) (fun c_120 => ?_)
                  · exact absurd c_120 (by decide)
                  · have c_120 : ¬ 1 = 0 := fun q => c_120 ((nZ_eq (by omega)).mpr q)
                    refine lv_aload_n hx hb dX4_same_123 rfl (lv_at hl 3 rfl) ?_
                    refine va_get (D := (dC, dI)) (ci := 4) (v := .ref (a 2)) (C := RX4) (T := TX4) (N := 18) hx hb hts in_X4 hown hK hP 0 rfl rfl 4 (by decide) lk_10 (fun _ h9 => h9) rfl dX4_same_124 ?_
                    refine lv_iload_n hx hb dX4_same_127 rfl (lv_at hl 0 rfl) ?_
                    refine va_iald hx hb hK hP 2 0 rfl rfl (vp_in_nI (by omega) (by omega)) dX4_same_128 ?_
                    refine tpi (nf_at (by omega)) ?_
                    have w_128 := bpl k
                    refine lv_aload_n hx hb dX4_same_129 rfl (lv_at hl 3 rfl) ?_
                    refine va_get (D := (dC, dI)) (ci := 4) (v := .ref (a 8)) (C := RX4) (T := TX4) (N := 18) hx hb hts in_X4 hown hK hP 0 rfl rfl 11 (by decide) lk_11 (fun _ h9 => h9) rfl dX4_same_130 ?_
                    refine lv_bipush (v := (nI 64)) hx hb dX4_same_133 (by decide) ?_
                    refine lv_iload_n hx hb dX4_same_135 rfl (lv_at hl 2 rfl) ?_
                    refine lv_imul hx hb dX4_same_136 ?_
                    refine tpi (pk_mul _ _) ?_
                    refine lv_iload_n hx hb dX4_same_137 rfl (lv_at hl 0 rfl) ?_
                    refine lv_iadd hx hb dX4_same_138 ?_
                    refine tpi (nI_add _ _) ?_
                    refine va_iald hx hb hK hP 8 0 rfl rfl (vp_in_nI (by omega) (by omega)) dX4_same_139 ?_
                    refine tpi (nf_at (by omega)) ?_
                    have w_139 := bkl (64 * (kp - 1) + k)
                    refine lv_icmp_ne (tgt := 167) hx hb dX4_same_140 (by decide) (fun c_140 => ?_) (fun c_140 => ?_)
                    · have c_140 : ¬ pl k = kl (64 * (kp - 1) + k) := fun q => c_140 ((nI_eq (a := pl k) (b := kl (64 * (kp - 1) + k)) (by omega) (by omega)).mpr q)
                      refine lv_iconst (v := (nI 0)) hx hb dX4_same_167 (by decide) ?_
                      refine lv_istore_n (lv' := [(2, .int (nI 0)), (3, .int (nI k)), (1, .int (nI (kp - 1))), (0, .ref (a 0))]) hx hb dX4_same_168 rfl hl (by decide) rfl (fun ls hl => ?_)
                      refine lv_iinc (v := (nI (k + 1))) (lv' := [(3, .int (nI (k + 1))), (2, .int (nI 0)), (1, .int (nI (kp - 1))), (0, .ref (a 0))]) hx hb dX4_same_169 hl (k := 1) rfl (nI_inc _) (by decide) rfl (fun ls hl => ?_)
                      refine lv_goto (tgt := 111) hx hb dX4_same_172 (by decide) ?_
                      exact ih_111 (k + 1, 0) (⟨by omega, Or.inr ⟨rfl, fun q => c_140 (q.2.2 k (by omega)).1⟩⟩) (show us - (k + 1) < us - k by omega) ls (lv_sub hl [0, 1, 2, 3] rfl)
                    · have c_140 : pl k = kl (64 * (kp - 1) + k) := (nI_eq (a := pl k) (b := kl (64 * (kp - 1) + k)) (by omega) (by omega)).mp c_140
                      refine lv_aload_n hx hb dX4_same_143 rfl (lv_at hl 3 rfl) ?_
                      refine va_get (D := (dC, dI)) (ci := 4) (v := .ref (a 3)) (C := RX4) (T := TX4) (N := 18) hx hb hts in_X4 hown hK hP 0 rfl rfl 5 (by decide) lk_12 (fun _ h9 => h9) rfl dX4_same_144 ?_
                      refine lv_iload_n hx hb dX4_same_147 rfl (lv_at hl 0 rfl) ?_
                      refine va_iald hx hb hK hP 3 0 rfl rfl (vp_in_nI (by omega) (by omega)) dX4_same_148 ?_
                      refine tpi (nf_at (by omega)) ?_
                      have w_148 := bln k
                      refine lv_aload_n hx hb dX4_same_149 rfl (lv_at hl 3 rfl) ?_
                      refine va_get (D := (dC, dI)) (ci := 4) (v := .ref (a 9)) (C := RX4) (T := TX4) (N := 18) hx hb hts in_X4 hown hK hP 0 rfl rfl 12 (by decide) lk_13 (fun _ h9 => h9) rfl dX4_same_150 ?_
                      refine lv_bipush (v := (nI 64)) hx hb dX4_same_153 (by decide) ?_
                      refine lv_iload_n hx hb dX4_same_155 rfl (lv_at hl 2 rfl) ?_
                      refine lv_imul hx hb dX4_same_156 ?_
                      refine tpi (pk_mul _ _) ?_
                      refine lv_iload_n hx hb dX4_same_157 rfl (lv_at hl 0 rfl) ?_
                      refine lv_iadd hx hb dX4_same_158 ?_
                      refine tpi (nI_add _ _) ?_
                      refine va_iald hx hb hK hP 9 0 rfl rfl (vp_in_nI (by omega) (by omega)) dX4_same_159 ?_
                      refine tpi (nf_at (by omega)) ?_
                      have w_159 := bkn (64 * (kp - 1) + k)
                      refine lv_icmp_ne (tgt := 167) hx hb dX4_same_160 (by decide) (fun c_160 => ?_) (fun c_160 => ?_)
                      · have c_160 : ¬ ln k = kn (64 * (kp - 1) + k) := fun q => c_160 ((nI_eq (a := ln k) (b := kn (64 * (kp - 1) + k)) (by omega) (by omega)).mpr q)
                        refine lv_iconst (v := (nI 0)) hx hb dX4_same_167 (by decide) ?_
                        refine lv_istore_n (lv' := [(2, .int (nI 0)), (3, .int (nI k)), (1, .int (nI (kp - 1))), (0, .ref (a 0))]) hx hb dX4_same_168 rfl hl (by decide) rfl (fun ls hl => ?_)
                        refine lv_iinc (v := (nI (k + 1))) (lv' := [(3, .int (nI (k + 1))), (2, .int (nI 0)), (1, .int (nI (kp - 1))), (0, .ref (a 0))]) hx hb dX4_same_169 hl (k := 1) rfl (nI_inc _) (by decide) rfl (fun ls hl => ?_)
                        refine lv_goto (tgt := 111) hx hb dX4_same_172 (by decide) ?_
                        exact ih_111 (k + 1, 0) (⟨by omega, Or.inr ⟨rfl, fun q => c_160 (q.2.2 k (by omega)).2⟩⟩) (show us - (k + 1) < us - k by omega) ls (lv_sub hl [0, 1, 2, 3] rfl)
                      · have c_160 : ln k = kn (64 * (kp - 1) + k) := (nI_eq (a := ln k) (b := kn (64 * (kp - 1) + k)) (by omega) (by omega)).mp c_160
                        refine lv_iconst (v := (nI 1)) hx hb dX4_same_163 (by decide) ?_
                        refine lv_goto (tgt := 168) hx hb dX4_same_164 (by decide) ?_
                        refine lv_istore_n (lv' := [(2, .int (nI 1)), (3, .int (nI k)), (1, .int (nI (kp - 1))), (0, .ref (a 0))]) hx hb dX4_same_168 rfl hl (by decide) rfl (fun ls hl => ?_)
                        refine lv_iinc (v := (nI (k + 1))) (lv' := [(3, .int (nI (k + 1))), (2, .int (nI 1)), (1, .int (nI (kp - 1))), (0, .ref (a 0))]) hx hb dX4_same_169 hl (k := 1) rfl (nI_inc _) (by decide) rfl (fun ls hl => ?_)
                        refine lv_goto (tgt := 111) hx hb dX4_same_172 (by decide) ?_
                        exact ih_111 (k + 1, 1) (⟨by omega, Or.inl ⟨rfl, hv.1, hv.2.1, lt_s hv.2.2 ⟨c_140, c_160⟩⟩⟩) (show us - (k + 1) < us - k by omega) ls (lv_sub hl [0, 1, 2, 3] rfl)
                · refine lv_iload_n hx hb dX4_same_119 rfl (lv_at hl 1 rfl) ?_
                  refine lv_if_eq (tgt := 175) hx hb dX4_same_120 (by decide) (fun c_120 => ?_) (fun c_120 => ?_)
                  · have c_120 : 0 = 0 := (nZ_eq (by omega)).mp c_120
                    refine lv_iload_n hx hb dX4_same_175 rfl (lv_at hl 1 rfl) ?_
                    refine lv_if_eq (tgt := 183) hx hb dX4_same_176 (by decide) (fun c_176 => ?_) (fun c_176 => ?_)
                    · have c_176 : 0 = 0 := (nZ_eq (by omega)).mp c_176
                      refine lv_iconst (v := (nI 0)) hx hb dX4_same_183 (by decide) ?_
                      exact W.iret (v := (nI 0)) hx hb hr (fun t ht hW => ⟨(nI 0), rfl, Or.inr ⟨c_4, Or.inr ⟨hv, rfl⟩⟩, ht⟩) (fun _ h9 => absurd h9 List.not_mem_nil) dX4_same_184
                    · exact absurd c_176 (by decide)
                  · exact absurd c_120 (by decide)
          · have c_69 : ¬ sz ≤ i := fun q => c_69 ((nI_leI (a := sz) (b := i) (by omega) (by omega)).mpr q)
            rcases hv with ⟨rfl, hv⟩ | ⟨rfl, hv⟩
            · refine lv_iload_n hx hb dX4_same_72 rfl (lv_at hl 1 rfl) ?_
              refine lv_if_eq (tgt := 109) hx hb dX4_same_73 (by decide) (fun c_73 => ?_) (fun c_73 => ?_)
              · exact absurd c_73 (by decide)
              · have c_73 : ¬ 1 = 0 := fun q => c_73 ((nZ_eq (by omega)).mpr q)
                refine lv_aload_n hx hb dX4_same_76 rfl (lv_at hl 3 rfl) ?_
                refine va_get (D := (dC, dI)) (ci := 4) (v := .ref (a 1)) (C := RX4) (T := TX4) (N := 18) hx hb hts in_X4 hown hK hP 0 rfl rfl 0 (by decide) lk_8 (fun _ h9 => h9) rfl dX4_same_77 ?_
                refine lv_iload_n hx hb dX4_same_80 rfl (lv_at hl 0 rfl) ?_
                refine va_iald hx hb hK hP 1 0 rfl rfl (vp_in_nI (by omega) (by omega)) dX4_same_81 ?_
                refine tpi (nf_at (by omega)) ?_
                have w_81 := bmem i
                refine lv_aload_n hx hb dX4_same_82 rfl (lv_at hl 3 rfl) ?_
                refine va_get (D := (dC, dI)) (ci := 4) (v := .ref (a 4)) (C := RX4) (T := TX4) (N := 18) hx hb hts in_X4 hown hK hP 0 rfl rfl 7 (by decide) lk_9 (fun _ h9 => h9) rfl dX4_same_83 ?_
                refine lv_sipush (v := (nI 8192)) hx hb dX4_same_86 (by decide) ?_
                refine lv_iload_n hx hb dX4_same_89 rfl (lv_at hl 2 rfl) ?_
                refine lv_imul hx hb dX4_same_90 ?_
                refine tpi (pk_mul _ _) ?_
                refine lv_iload_n hx hb dX4_same_91 rfl (lv_at hl 0 rfl) ?_
                refine lv_iadd hx hb dX4_same_92 ?_
                refine tpi (nI_add _ _) ?_
                refine va_iald hx hb hK hP 4 0 rfl rfl (vp_in_nI (by omega) (by omega)) dX4_same_93 ?_
                refine tpi (nf_at (by omega)) ?_
                have w_93 := bkm (8192 * (kp - 1) + i)
                refine lv_icmp_ne (tgt := 101) hx hb dX4_same_94 (by decide) (fun c_94 => ?_) (fun c_94 => ?_)
                · have c_94 : ¬ mem i = km (8192 * (kp - 1) + i) := fun q => c_94 ((nI_eq (a := mem i) (b := km (8192 * (kp - 1) + i)) (by omega) (by omega)).mpr q)
                  refine lv_iconst (v := (nI 0)) hx hb dX4_same_101 (by decide) ?_
                  refine lv_istore_n (lv' := [(2, .int (nI 0)), (3, .int (nI i)), (1, .int (nI (kp - 1))), (0, .ref (a 0))]) hx hb dX4_same_102 rfl hl (by decide) rfl (fun ls hl => ?_)
                  refine lv_iinc (v := (nI (i + 1))) (lv' := [(3, .int (nI (i + 1))), (2, .int (nI 0)), (1, .int (nI (kp - 1))), (0, .ref (a 0))]) hx hb dX4_same_103 hl (k := 1) rfl (nI_inc _) (by decide) rfl (fun ls hl => ?_)
                  refine lv_goto (tgt := 64) hx hb dX4_same_106 (by decide) ?_
                  exact ih_64 (i + 1, 0) (⟨by omega, Or.inr ⟨rfl, fun q => c_94 (q.2.1 i (by omega))⟩⟩) (show sz - (i + 1) < sz - i by omega) ls (lv_sub hl [0, 1, 2, 3] rfl)
                · have c_94 : mem i = km (8192 * (kp - 1) + i) := (nI_eq (a := mem i) (b := km (8192 * (kp - 1) + i)) (by omega) (by omega)).mp c_94
                  refine lv_iconst (v := (nI 1)) hx hb dX4_same_97 (by decide) ?_
                  refine lv_goto (tgt := 102) hx hb dX4_same_98 (by decide) ?_
                  refine lv_istore_n (lv' := [(2, .int (nI 1)), (3, .int (nI i)), (1, .int (nI (kp - 1))), (0, .ref (a 0))]) hx hb dX4_same_102 rfl hl (by decide) rfl (fun ls hl => ?_)
                  refine lv_iinc (v := (nI (i + 1))) (lv' := [(3, .int (nI (i + 1))), (2, .int (nI 1)), (1, .int (nI (kp - 1))), (0, .ref (a 0))]) hx hb dX4_same_103 hl (k := 1) rfl (nI_inc _) (by decide) rfl (fun ls hl => ?_)
                  refine lv_goto (tgt := 64) hx hb dX4_same_106 (by decide) ?_
                  exact ih_64 (i + 1, 1) (⟨by omega, Or.inl ⟨rfl, hv.1, lt_s hv.2 c_94⟩⟩) (show sz - (i + 1) < sz - i by omega) ls (lv_sub hl [0, 1, 2, 3] rfl)
            · refine lv_iload_n hx hb dX4_same_72 rfl (lv_at hl 1 rfl) ?_
              refine lv_if_eq (tgt := 109) hx hb dX4_same_73 (by decide) (fun c_73 => ?_) (fun c_73 => ?_)
              · have c_73 : 0 = 0 := (nZ_eq (by omega)).mp c_73
                refine lv_iconst (v := (nI 0)) hx hb dX4_same_109 (by decide) ?_
                refine lv_istore_n (lv' := [(3, .int (nI 0)), (2, .int (nI 0)), (1, .int (nI (kp - 1))), (0, .ref (a 0))]) hx hb dX4_same_110 rfl hl (by decide) rfl (fun ls hl => ?_)
                refine lp_still (σ := Nat × Nat) (fun ⟨k, b⟩ => k ≤ us ∧ ((b = 1 ∧ (sz = ks (kp - 1) ∧ st = kt (kp - 1) ∧ us = ku (kp - 1)) ∧ (∀ j, j < sz → mem j = km (8192 * (kp - 1) + j)) ∧ (∀ j, j < k → pl j = kl (64 * (kp - 1) + j) ∧ ln j = kn (64 * (kp - 1) + j))) ∨ (b = 0 ∧ ¬ smP sz st us mem pl ln km ks kt ku kl kn (kp - 1)))) (fun ⟨k, b⟩ => us - k) (fun ⟨k, b⟩ => [(3, .int (nI k)), (2, .int (nI b)), (1, .int (nI (kp - 1))), (0, .ref (a 0))]) ?_ ((0, 0)) (⟨by omega, Or.inr ⟨rfl, hv⟩⟩) (lv_sub hl [0, 1, 2, 3] rfl)
                intro ⟨k, b⟩ hI ih ls hl
                have hl : lv_has ls 4 [(3, .int (nI k)), (2, .int (nI b)), (1, .int (nI (kp - 1))), (0, .ref (a 0))] := hl
                have hI : k ≤ us ∧ ((b = 1 ∧ (sz = ks (kp - 1) ∧ st = kt (kp - 1) ∧ us = ku (kp - 1)) ∧ (∀ j, j < sz → mem j = km (8192 * (kp - 1) + j)) ∧ (∀ j, j < k → pl j = kl (64 * (kp - 1) + j) ∧ ln j = kn (64 * (kp - 1) + j))) ∨ (b = 0 ∧ ¬ smP sz st us mem pl ln km ks kt ku kl kn (kp - 1))) := hI
                obtain ⟨hk, hv⟩ := hI
                have ih_111 := ih
                refine lv_iload_n hx hb dX4_same_111 rfl (lv_at hl 0 rfl) ?_
                refine lv_aload_n hx hb dX4_same_112 rfl (lv_at hl 3 rfl) ?_
                refine va_get (D := (dC, dI)) (ci := 4) (v := .int (nI us)) (C := RX4) (T := TX4) (N := 18) hx hb hts in_X4 hown hK hP 0 rfl rfl 3 (by decide) lk_6 (fun _ h9 => h9) rfl dX4_same_113 ?_
                refine lv_icmp_ge (tgt := 175) hx hb dX4_same_116 (by decide) (fun c_116 => ?_) (fun c_116 => ?_)
                · have c_116 : us ≤ k := (nI_leI (a := us) (b := k) (by omega) (by omega)).mp c_116
                  rcases hv with ⟨rfl, hv⟩ | ⟨rfl, hv⟩
                  · refine lv_iload_n hx hb dX4_same_175 rfl (lv_at hl 1 rfl) ?_
                    refine lv_if_eq (tgt := 183) hx hb dX4_same_176 (by decide) (fun c_176 => ?_) (fun c_176 => ?_)
                    · exact absurd c_176 (by decide)
                    · have c_176 : ¬ 1 = 0 := fun q => c_176 ((nZ_eq (by omega)).mpr q)
                      refine lv_iconst (v := (nI 1)) hx hb dX4_same_179 (by decide) ?_
                      refine lv_goto (tgt := 184) hx hb dX4_same_180 (by decide) ?_
                      exact W.iret (v := (nI 1)) hx hb hr (fun t ht hW => ⟨(nI 1), rfl, Or.inr ⟨c_4, Or.inl ⟨⟨hv.1, hv.2.1, fun j hj => hv.2.2 j (by omega)⟩, rfl⟩⟩, ht⟩) (fun _ h9 => absurd h9 List.not_mem_nil) dX4_same_184
                  · refine lv_iload_n hx hb dX4_same_175 rfl (lv_at hl 1 rfl) ?_
                    refine lv_if_eq (tgt := 183) hx hb dX4_same_176 (by decide) (fun c_176 => ?_) (fun c_176 => ?_)
                    · have c_176 : 0 = 0 := (nZ_eq (by omega)).mp c_176
                      refine lv_iconst (v := (nI 0)) hx hb dX4_same_183 (by decide) ?_
                      exact W.iret (v := (nI 0)) hx hb hr (fun t ht hW => ⟨(nI 0), rfl, Or.inr ⟨c_4, Or.inr ⟨hv, rfl⟩⟩, ht⟩) (fun _ h9 => absurd h9 List.not_mem_nil) dX4_same_184
                    · exact absurd c_176 (by decide)
                · have c_116 : ¬ us ≤ k := fun q => c_116 ((nI_leI (a := us) (b := k) (by omega) (by omega)).mpr q)
                  rcases hv with ⟨rfl, hv⟩ | ⟨rfl, hv⟩
                  · refine lv_iload_n hx hb dX4_same_119 rfl (lv_at hl 1 rfl) ?_
                    refine lv_if_eq (tgt := 175) hx hb dX4_same_120 (by decide) (fun c_120 => ?_) (fun c_120 => ?_)
                    · exact absurd c_120 (by decide)
                    · have c_120 : ¬ 1 = 0 := fun q => c_120 ((nZ_eq (by omega)).mpr q)
                      refine lv_aload_n hx hb dX4_same_123 rfl (lv_at hl 3 rfl) ?_
                      refine va_get (D := (dC, dI)) (ci := 4) (v := .ref (a 2)) (C := RX4) (T := TX4) (N := 18) hx hb hts in_X4 hown hK hP 0 rfl rfl 4 (by decide) lk_10 (fun _ h9 => h9) rfl dX4_same_124 ?_
                      refine lv_iload_n hx hb dX4_same_127 rfl (lv_at hl 0 rfl) ?_
                      refine va_iald hx hb hK hP 2 0 rfl rfl (vp_in_nI (by omega) (by omega)) dX4_same_128 ?_
                      refine tpi (nf_at (by omega)) ?_
                      have w_128 := bpl k
                      refine lv_aload_n hx hb dX4_same_129 rfl (lv_at hl 3 rfl) ?_
                      refine va_get (D := (dC, dI)) (ci := 4) (v := .ref (a 8)) (C := RX4) (T := TX4) (N := 18) hx hb hts in_X4 hown hK hP 0 rfl rfl 11 (by decide) lk_11 (fun _ h9 => h9) rfl dX4_same_130 ?_
                      refine lv_bipush (v := (nI 64)) hx hb dX4_same_133 (by decide) ?_
                      refine lv_iload_n hx hb dX4_same_135 rfl (lv_at hl 2 rfl) ?_
                      refine lv_imul hx hb dX4_same_136 ?_
                      refine tpi (pk_mul _ _) ?_
                      refine lv_iload_n hx hb dX4_same_137 rfl (lv_at hl 0 rfl) ?_
                      refine lv_iadd hx hb dX4_same_138 ?_
                      refine tpi (nI_add _ _) ?_
                      refine va_iald hx hb hK hP 8 0 rfl rfl (vp_in_nI (by omega) (by omega)) dX4_same_139 ?_
                      refine tpi (nf_at (by omega)) ?_
                      have w_139 := bkl (64 * (kp - 1) + k)
                      refine lv_icmp_ne (tgt := 167) hx hb dX4_same_140 (by decide) (fun c_140 => ?_) (fun c_140 => ?_)
                      · have c_140 : ¬ pl k = kl (64 * (kp - 1) + k) := fun q => c_140 ((nI_eq (a := pl k) (b := kl (64 * (kp - 1) + k)) (by omega) (by omega)).mpr q)
                        refine lv_iconst (v := (nI 0)) hx hb dX4_same_167 (by decide) ?_
                        refine lv_istore_n (lv' := [(2, .int (nI 0)), (3, .int (nI k)), (1, .int (nI (kp - 1))), (0, .ref (a 0))]) hx hb dX4_same_168 rfl hl (by decide) rfl (fun ls hl => ?_)
                        refine lv_iinc (v := (nI (k + 1))) (lv' := [(3, .int (nI (k + 1))), (2, .int (nI 0)), (1, .int (nI (kp - 1))), (0, .ref (a 0))]) hx hb dX4_same_169 hl (k := 1) rfl (nI_inc _) (by decide) rfl (fun ls hl => ?_)
                        refine lv_goto (tgt := 111) hx hb dX4_same_172 (by decide) ?_
                        exact ih_111 (k + 1, 0) (⟨by omega, Or.inr ⟨rfl, fun q => c_140 (q.2.2 k (by omega)).1⟩⟩) (show us - (k + 1) < us - k by omega) ls (lv_sub hl [0, 1, 2, 3] rfl)
                      · have c_140 : pl k = kl (64 * (kp - 1) + k) := (nI_eq (a := pl k) (b := kl (64 * (kp - 1) + k)) (by omega) (by omega)).mp c_140
                        refine lv_aload_n hx hb dX4_same_143 rfl (lv_at hl 3 rfl) ?_
                        refine va_get (D := (dC, dI)) (ci := 4) (v := .ref (a 3)) (C := RX4) (T := TX4) (N := 18) hx hb hts in_X4 hown hK hP 0 rfl rfl 5 (by decide) lk_12 (fun _ h9 => h9) rfl dX4_same_144 ?_
                        refine lv_iload_n hx hb dX4_same_147 rfl (lv_at hl 0 rfl) ?_
                        refine va_iald hx hb hK hP 3 0 rfl rfl (vp_in_nI (by omega) (by omega)) dX4_same_148 ?_
                        refine tpi (nf_at (by omega)) ?_
                        have w_148 := bln k
                        refine lv_aload_n hx hb dX4_same_149 rfl (lv_at hl 3 rfl) ?_
                        refine va_get (D := (dC, dI)) (ci := 4) (v := .ref (a 9)) (C := RX4) (T := TX4) (N := 18) hx hb hts in_X4 hown hK hP 0 rfl rfl 12 (by decide) lk_13 (fun _ h9 => h9) rfl dX4_same_150 ?_
                        refine lv_bipush (v := (nI 64)) hx hb dX4_same_153 (by decide) ?_
                        refine lv_iload_n hx hb dX4_same_155 rfl (lv_at hl 2 rfl) ?_
                        refine lv_imul hx hb dX4_same_156 ?_
                        refine tpi (pk_mul _ _) ?_
                        refine lv_iload_n hx hb dX4_same_157 rfl (lv_at hl 0 rfl) ?_
                        refine lv_iadd hx hb dX4_same_158 ?_
                        refine tpi (nI_add _ _) ?_
                        refine va_iald hx hb hK hP 9 0 rfl rfl (vp_in_nI (by omega) (by omega)) dX4_same_159 ?_
                        refine tpi (nf_at (by omega)) ?_
                        have w_159 := bkn (64 * (kp - 1) + k)
                        refine lv_icmp_ne (tgt := 167) hx hb dX4_same_160 (by decide) (fun c_160 => ?_) (fun c_160 => ?_)
                        · have c_160 : ¬ ln k = kn (64 * (kp - 1) + k) := fun q => c_160 ((nI_eq (a := ln k) (b := kn (64 * (kp - 1) + k)) (by omega) (by omega)).mpr q)
                          refine lv_iconst (v := (nI 0)) hx hb dX4_same_167 (by decide) ?_
                          refine lv_istore_n (lv' := [(2, .int (nI 0)), (3, .int (nI k)), (1, .int (nI (kp - 1))), (0, .ref (a 0))]) hx hb dX4_same_168 rfl hl (by decide) rfl (fun ls hl => ?_)
                          refine lv_iinc (v := (nI (k + 1))) (lv' := [(3, .int (nI (k + 1))), (2, .int (nI 0)), (1, .int (nI (kp - 1))), (0, .ref (a 0))]) hx hb dX4_same_169 hl (k := 1) rfl (nI_inc _) (by decide) rfl (fun ls hl => ?_)
                          refine lv_goto (tgt := 111) hx hb dX4_same_172 (by decide) ?_
                          exact ih_111 (k + 1, 0) (⟨by omega, Or.inr ⟨rfl, fun q => c_160 (q.2.2 k (by omega)).2⟩⟩) (show us - (k + 1) < us - k by omega) ls (lv_sub hl [0, 1, 2, 3] rfl)
                        · have c_160 : ln k = kn (64 * (kp - 1) + k) := (nI_eq (a := ln k) (b := kn (64 * (kp - 1) + k)) (by omega) (by omega)).mp c_160
                          refine lv_iconst (v := (nI 1)) hx hb dX4_same_163 (by decide) ?_
                          refine lv_goto (tgt := 168) hx hb dX4_same_164 (by decide) ?_
                          refine lv_istore_n (lv' := [(2, .int (nI 1)), (3, .int (nI k)), (1, .int (nI (kp - 1))), (0, .ref (a 0))]) hx hb dX4_same_168 rfl hl (by decide) rfl (fun ls hl => ?_)
                          refine lv_iinc (v := (nI (k + 1))) (lv' := [(3, .int (nI (k + 1))), (2, .int (nI 1)), (1, .int (nI (kp - 1))), (0, .ref (a 0))]) hx hb dX4_same_169 hl (k := 1) rfl (nI_inc _) (by decide) rfl (fun ls hl => ?_)
                          refine lv_goto (tgt := 111) hx hb dX4_same_172 (by decide) ?_
                          exact ih_111 (k + 1, 1) (⟨by omega, Or.inl ⟨rfl, hv.1, hv.2.1, lt_s hv.2.2 ⟨c_140, c_160⟩⟩⟩) (show us - (k + 1) < us - k by omega) ls (lv_sub hl [0, 1, 2, 3] rfl)
                  · refine lv_iload_n hx hb dX4_same_119 rfl (lv_at hl 1 rfl) ?_
                    refine lv_if_eq (tgt := 175) hx hb dX4_same_120 (by decide) (fun c_120 => ?_) (fun c_120 => ?_)
                    · have c_120 : 0 = 0 := (nZ_eq (by omega)).mp c_120
                      refine lv_iload_n hx hb dX4_same_175 rfl (lv_at hl 1 rfl) ?_
                      refine lv_if_eq (tgt := 183) hx hb dX4_same_176 (by decide) (fun c_176 => ?_) (fun c_176 => ?_)
                      · have c_176 : 0 = 0 := (nZ_eq (by omega)).mp c_176
                        refine lv_iconst (v := (nI 0)) hx hb dX4_same_183 (by decide) ?_
                        exact W.iret (v := (nI 0)) hx hb hr (fun t ht hW => ⟨(nI 0), rfl, Or.inr ⟨c_4, Or.inr ⟨hv, rfl⟩⟩, ht⟩) (fun _ h9 => absurd h9 List.not_mem_nil) dX4_same_184
                      · exact absurd c_176 (by decide)
                    · exact absurd c_120 (by decide)
              · exact absurd c_73 (by decide)
        · have c_53 : us = ku (kp - 1) := (nI_eq (a := us) (b := ku (kp - 1)) (by omega) (by omega)).mp c_53
          refine lv_iconst (v := (nI 1)) hx hb dX4_same_56 (by decide) ?_
          refine lv_goto (tgt := 61) hx hb dX4_same_57 (by decide) ?_
          refine lv_istore_n (lv' := [(2, .int (nI 1)), (1, .int (nI (kp - 1))), (0, .ref (a 0))]) hx hb dX4_same_61 rfl hl (by decide) rfl (fun ls hl => ?_)
          refine lv_iconst (v := (nI 0)) hx hb dX4_same_62 (by decide) ?_
          refine lv_istore_n (lv' := [(3, .int (nI 0)), (2, .int (nI 1)), (1, .int (nI (kp - 1))), (0, .ref (a 0))]) hx hb dX4_same_63 rfl hl (by decide) rfl (fun ls hl => ?_)
          refine lp_still (σ := Nat × Nat) (fun ⟨i, b⟩ => i ≤ sz ∧ ((b = 1 ∧ (sz = ks (kp - 1) ∧ st = kt (kp - 1) ∧ us = ku (kp - 1)) ∧ (∀ j, j < i → mem j = km (8192 * (kp - 1) + j))) ∨ (b = 0 ∧ ¬ smP sz st us mem pl ln km ks kt ku kl kn (kp - 1)))) (fun ⟨i, b⟩ => sz - i) (fun ⟨i, b⟩ => [(3, .int (nI i)), (2, .int (nI b)), (1, .int (nI (kp - 1))), (0, .ref (a 0))]) ?_ ((0, 1)) (⟨by omega, Or.inl ⟨rfl, ⟨c_27, c_40, c_53⟩, fun j hj => absurd hj (Nat.not_lt_zero _)⟩⟩) (lv_sub hl [0, 1, 2, 3] rfl)
          intro ⟨i, b⟩ hI ih ls hl
          have hl : lv_has ls 4 [(3, .int (nI i)), (2, .int (nI b)), (1, .int (nI (kp - 1))), (0, .ref (a 0))] := hl
          have hI : i ≤ sz ∧ ((b = 1 ∧ (sz = ks (kp - 1) ∧ st = kt (kp - 1) ∧ us = ku (kp - 1)) ∧ (∀ j, j < i → mem j = km (8192 * (kp - 1) + j))) ∨ (b = 0 ∧ ¬ smP sz st us mem pl ln km ks kt ku kl kn (kp - 1))) := hI
          obtain ⟨hi, hv⟩ := hI
          have ih_64 := ih
          refine lv_iload_n hx hb dX4_same_64 rfl (lv_at hl 0 rfl) ?_
          refine lv_aload_n hx hb dX4_same_65 rfl (lv_at hl 3 rfl) ?_
          refine va_get (D := (dC, dI)) (ci := 4) (v := .int (nI sz)) (C := RX4) (T := TX4) (N := 18) hx hb hts in_X4 hown hK hP 0 rfl rfl 1 (by decide) lk_2 (fun _ h9 => h9) rfl dX4_same_66 ?_
          refine lv_icmp_ge (tgt := 109) hx hb dX4_same_69 (by decide) (fun c_69 => ?_) (fun c_69 => ?_)
          · have c_69 : sz ≤ i := (nI_leI (a := sz) (b := i) (by omega) (by omega)).mp c_69
            rcases hv with ⟨rfl, hv⟩ | ⟨rfl, hv⟩
            · refine lv_iconst (v := (nI 0)) hx hb dX4_same_109 (by decide) ?_
              refine lv_istore_n (lv' := [(3, .int (nI 0)), (2, .int (nI 1)), (1, .int (nI (kp - 1))), (0, .ref (a 0))]) hx hb dX4_same_110 rfl hl (by decide) rfl (fun ls hl => ?_)
              refine lp_still (σ := Nat × Nat) (fun ⟨k, b⟩ => k ≤ us ∧ ((b = 1 ∧ (sz = ks (kp - 1) ∧ st = kt (kp - 1) ∧ us = ku (kp - 1)) ∧ (∀ j, j < sz → mem j = km (8192 * (kp - 1) + j)) ∧ (∀ j, j < k → pl j = kl (64 * (kp - 1) + j) ∧ ln j = kn (64 * (kp - 1) + j))) ∨ (b = 0 ∧ ¬ smP sz st us mem pl ln km ks kt ku kl kn (kp - 1)))) (fun ⟨k, b⟩ => us - k) (fun ⟨k, b⟩ => [(3, .int (nI k)), (2, .int (nI b)), (1, .int (nI (kp - 1))), (0, .ref (a 0))]) ?_ ((0, 1)) (⟨by omega, Or.inl ⟨rfl, hv.1, fun j hj => hv.2 j (by omega), fun j hj => absurd hj (Nat.not_lt_zero _)⟩⟩) (lv_sub hl [0, 1, 2, 3] rfl)
              intro ⟨k, b⟩ hI ih ls hl
              have hl : lv_has ls 4 [(3, .int (nI k)), (2, .int (nI b)), (1, .int (nI (kp - 1))), (0, .ref (a 0))] := hl
              have hI : k ≤ us ∧ ((b = 1 ∧ (sz = ks (kp - 1) ∧ st = kt (kp - 1) ∧ us = ku (kp - 1)) ∧ (∀ j, j < sz → mem j = km (8192 * (kp - 1) + j)) ∧ (∀ j, j < k → pl j = kl (64 * (kp - 1) + j) ∧ ln j = kn (64 * (kp - 1) + j))) ∨ (b = 0 ∧ ¬ smP sz st us mem pl ln km ks kt ku kl kn (kp - 1))) := hI
              obtain ⟨hk, hv⟩ := hI
              have ih_111 := ih
              refine lv_iload_n hx hb dX4_same_111 rfl (lv_at hl 0 rfl) ?_
              refine lv_aload_n hx hb dX4_same_112 rfl (lv_at hl 3 rfl) ?_
              refine va_get (D := (dC, dI)) (ci := 4) (v := .int (nI us)) (C := RX4) (T := TX4) (N := 18) hx hb hts in_X4 hown hK hP 0 rfl rfl 3 (by decide) lk_6 (fun _ h9 => h9) rfl dX4_same_113 ?_
              refine lv_icmp_ge (tgt := 175) hx hb dX4_same_116 (by decide) (fun c_116 => ?_) (fun c_116 => ?_)
              · have c_116 : us ≤ k := (nI_leI (a := us) (b := k) (by omega) (by omega)).mp c_116
                rcases hv with ⟨rfl, hv⟩ | ⟨rfl, hv⟩
                · refine lv_iload_n hx hb dX4_same_175 rfl (lv_at hl 1 rfl) ?_
                  refine lv_if_eq (tgt := 183) hx hb dX4_same_176 (by decide) (fun c_176 => ?_) (fun c_176 => ?_)
                  · exact absurd c_176 (by decide)
                  · have c_176 : ¬ 1 = 0 := fun q => c_176 ((nZ_eq (by omega)).mpr q)
                    refine lv_iconst (v := (nI 1)) hx hb dX4_same_179 (by decide) ?_
                    refine lv_goto (tgt := 184) hx hb dX4_same_180 (by decide) ?_
                    exact W.iret (v := (nI 1)) hx hb hr (fun t ht hW => ⟨(nI 1), rfl, Or.inr ⟨c_4, Or.inl ⟨⟨hv.1, hv.2.1, fun j hj => hv.2.2 j (by omega)⟩, rfl⟩⟩, ht⟩) (fun _ h9 => absurd h9 List.not_mem_nil) dX4_same_184
                · refine lv_iload_n hx hb dX4_same_175 rfl (lv_at hl 1 rfl) ?_
                  refine lv_if_eq (tgt := 183) hx hb dX4_same_176 (by decide) (fun c_176 => ?_) (fun c_176 => ?_)
                  · have c_176 : 0 = 0 := (nZ_eq (by omega)).mp c_176
                    refine lv_iconst (v := (nI 0)) hx hb dX4_same_183 (by decide) ?_
                    exact W.iret (v := (nI 0)) hx hb hr (fun t ht hW => ⟨(nI 0), rfl, Or.inr ⟨c_4, Or.inr ⟨hv, rfl⟩⟩, ht⟩) (fun _ h9 => absurd h9 List.not_mem_nil) dX4_same_184
                  · exact absurd c_176 (by decide)
              · have c_116 : ¬ us ≤ k := fun q => c_116 ((nI_leI (a := us) (b := k) (by omega) (by omega)).mpr q)
                rcases hv with ⟨rfl, hv⟩ | ⟨rfl, hv⟩
                · refine lv_iload_n hx hb dX4_same_119 rfl (lv_at hl 1 rfl) ?_
                  refine lv_if_eq (tgt := 175) hx hb dX4_same_120 (by decide) (fun c_120 => ?_) (fun c_120 => ?_)
                  · exact absurd c_120 (by decide)
                  · have c_120 : ¬ 1 = 0 := fun q => c_120 ((nZ_eq (by omega)).mpr q)
                    refine lv_aload_n hx hb dX4_same_123 rfl (lv_at hl 3 rfl) ?_
                    refine va_get (D := (dC, dI)) (ci := 4) (v := .ref (a 2)) (C := RX4) (T := TX4) (N := 18) hx hb hts in_X4 hown hK hP 0 rfl rfl 4 (by decide) lk_10 (fun _ h9 => h9) rfl dX4_same_124 ?_
                    refine lv_iload_n hx hb dX4_same_127 rfl (lv_at hl 0 rfl) ?_
                    refine va_iald hx hb hK hP 2 0 rfl rfl (vp_in_nI (by omega) (by omega)) dX4_same_128 ?_
                    refine tpi (nf_at (by omega)) ?_
                    have w_128 := bpl k
                    refine lv_aload_n hx hb dX4_same_129 rfl (lv_at hl 3 rfl) ?_
                    refine va_get (D := (dC, dI)) (ci := 4) (v := .ref (a 8)) (C := RX4) (T := TX4) (N := 18) hx hb hts in_X4 hown hK hP 0 rfl rfl 11 (by decide) lk_11 (fun _ h9 => h9) rfl dX4_same_130 ?_
                    refine lv_bipush (v := (nI 64)) hx hb dX4_same_133 (by decide) ?_
                    refine lv_iload_n hx hb dX4_same_135 rfl (lv_at hl 2 rfl) ?_
                    refine lv_imul hx hb dX4_same_136 ?_
                    refine tpi (pk_mul _ _) ?_
                    refine lv_iload_n hx hb dX4_same_137 rfl (lv_at hl 0 rfl) ?_
                    refine lv_iadd hx hb dX4_same_138 ?_
                    refine tpi (nI_add _ _) ?_
                    refine va_iald hx hb hK hP 8 0 rfl rfl (vp_in_nI (by omega) (by omega)) dX4_same_139 ?_
                    refine tpi (nf_at (by omega)) ?_
                    have w_139 := bkl (64 * (kp - 1) + k)
                    refine lv_icmp_ne (tgt := 167) hx hb dX4_same_140 (by decide) (fun c_140 => ?_) (fun c_140 => ?_)
                    · have c_140 : ¬ pl k = kl (64 * (kp - 1) + k) := fun q => c_140 ((nI_eq (a := pl k) (b := kl (64 * (kp - 1) + k)) (by omega) (by omega)).mpr q)
                      refine lv_iconst (v := (nI 0)) hx hb dX4_same_167 (by decide) ?_
                      refine lv_istore_n (lv' := [(2, .int (nI 0)), (3, .int (nI k)), (1, .int (nI (kp - 1))), (0, .ref (a 0))]) hx hb dX4_same_168 rfl hl (by decide) rfl (fun ls hl => ?_)
                      refine lv_iinc (v := (nI (k + 1))) (lv' := [(3, .int (nI (k + 1))), (2, .int (nI 0)), (1, .int (nI (kp - 1))), (0, .ref (a 0))]) hx hb dX4_same_169 hl (k := 1) rfl (nI_inc _) (by decide) rfl (fun ls hl => ?_)
                      refine lv_goto (tgt := 111) hx hb dX4_same_172 (by decide) ?_
                      exact ih_111 (k + 1, 0) (⟨by omega, Or.inr ⟨rfl, fun q => c_140 (q.2.2 k (by omega)).1⟩⟩) (show us - (k + 1) < us - k by omega) ls (lv_sub hl [0, 1, 2, 3] rfl)
                    · have c_140 : pl k = kl (64 * (kp - 1) + k) := (nI_eq (a := pl k) (b := kl (64 * (kp - 1) + k)) (by omega) (by omega)).mp c_140
                      refine lv_aload_n hx hb dX4_same_143 rfl (lv_at hl 3 rfl) ?_
                      refine va_get (D := (dC, dI)) (ci := 4) (v := .ref (a 3)) (C := RX4) (T := TX4) (N := 18) hx hb hts in_X4 hown hK hP 0 rfl rfl 5 (by decide) lk_12 (fun _ h9 => h9) rfl dX4_same_144 ?_
                      refine lv_iload_n hx hb dX4_same_147 rfl (lv_at hl 0 rfl) ?_
                      refine va_iald hx hb hK hP 3 0 rfl rfl (vp_in_nI (by omega) (by omega)) dX4_same_148 ?_
                      refine tpi (nf_at (by omega)) ?_
                      have w_148 := bln k
                      refine lv_aload_n hx hb dX4_same_149 rfl (lv_at hl 3 rfl) ?_
                      refine va_get (D := (dC, dI)) (ci := 4) (v := .ref (a 9)) (C := RX4) (T := TX4) (N := 18) hx hb hts in_X4 hown hK hP 0 rfl rfl 12 (by decide) lk_13 (fun _ h9 => h9) rfl dX4_same_150 ?_
                      refine lv_bipush (v := (nI 64)) hx hb dX4_same_153 (by decide) ?_
                      refine lv_iload_n hx hb dX4_same_155 rfl (lv_at hl 2 rfl) ?_
                      refine lv_imul hx hb dX4_same_156 ?_
                      refine tpi (pk_mul _ _) ?_
                      refine lv_iload_n hx hb dX4_same_157 rfl (lv_at hl 0 rfl) ?_
                      refine lv_iadd hx hb dX4_same_158 ?_
                      refine tpi (nI_add _ _) ?_
                      refine va_iald hx hb hK hP 9 0 rfl rfl (vp_in_nI (by omega) (by omega)) dX4_same_159 ?_
                      refine tpi (nf_at (by omega)) ?_
                      have w_159 := bkn (64 * (kp - 1) + k)
                      refine lv_icmp_ne (tgt := 167) hx hb dX4_same_160 (by decide) (fun c_160 => ?_) (fun c_160 => ?_)
                      · have c_160 : ¬ ln k = kn (64 * (kp - 1) + k) := fun q => c_160 ((nI_eq (a := ln k) (b := kn (64 * (kp - 1) + k)) (by omega) (by omega)).mpr q)
                        refine lv_iconst (v := (nI 0)) hx hb dX4_same_167 (by decide) ?_
                        refine lv_istore_n (lv' := [(2, .int (nI 0)), (3, .int (nI k)), (1, .int (nI (kp - 1))), (0, .ref (a 0))]) hx hb dX4_same_168 rfl hl (by decide) rfl (fun ls hl => ?_)
                        refine lv_iinc (v := (nI (k + 1))) (lv' := [(3, .int (nI (k + 1))), (2, .int (nI 0)), (1, .int (nI (kp - 1))), (0, .ref (a 0))]) hx hb dX4_same_169 hl (k := 1) rfl (nI_inc _) (by decide) rfl (fun ls hl => ?_)
                        refine lv_goto (tgt := 111) hx hb dX4_same_172 (by decide) ?_
                        exact ih_111 (k + 1, 0) (⟨by omega, Or.inr ⟨rfl, fun q => c_160 (q.2.2 k (by omega)).2⟩⟩) (show us - (k + 1) < us - k by omega) ls (lv_sub hl [0, 1, 2, 3] rfl)
                      · have c_160 : ln k = kn (64 * (kp - 1) + k) := (nI_eq (a := ln k) (b := kn (64 * (kp - 1) + k)) (by omega) (by omega)).mp c_160
                        refine lv_iconst (v := (nI 1)) hx hb dX4_same_163 (by decide) ?_
                        refine lv_goto (tgt := 168) hx hb dX4_same_164 (by decide) ?_
                        refine lv_istore_n (lv' := [(2, .int (nI 1)), (3, .int (nI k)), (1, .int (nI (kp - 1))), (0, .ref (a 0))]) hx hb dX4_same_168 rfl hl (by decide) rfl (fun ls hl => ?_)
                        refine lv_iinc (v := (nI (k + 1))) (lv' := [(3, .int (nI (k + 1))), (2, .int (nI 1)), (1, .int (nI (kp - 1))), (0, .ref (a 0))]) hx hb dX4_same_169 hl (k := 1) rfl (nI_inc _) (by decide) rfl (fun ls hl => ?_)
                        refine lv_goto (tgt := 111) hx hb dX4_same_172 (by decide) ?_
                        exact ih_111 (k + 1, 1) (⟨by omega, Or.inl ⟨rfl, hv.1, hv.2.1, lt_s hv.2.2 ⟨c_140, c_160⟩⟩⟩) (show us - (k + 1) < us - k by omega) ls (lv_sub hl [0, 1, 2, 3] rfl)
                · refine lv_iload_n hx hb dX4_same_119 rfl (lv_at hl 1 rfl) ?_
                  refine lv_if_eq (tgt := 175) hx hb dX4_same_120 (by decide) (fun c_120 => ?_) (fun c_120 => ?_)
                  · have c_120 : 0 = 0 := (nZ_eq (by omega)).mp c_120
                    refine lv_iload_n hx hb dX4_same_175 rfl (lv_at hl 1 rfl) ?_
                    refine lv_if_eq (tgt := 183) hx hb dX4_same_176 (by decide) (fun c_176 => ?_) (fun c_176 => ?_)
                    · have c_176 : 0 = 0 := (nZ_eq (by omega)).mp c_176
                      refine lv_iconst (v := (nI 0)) hx hb dX4_same_183 (by decide) ?_
                      exact W.iret (v := (nI 0)) hx hb hr (fun t ht hW => ⟨(nI 0), rfl, Or.inr ⟨c_4, Or.inr ⟨hv, rfl⟩⟩, ht⟩) (fun _ h9 => absurd h9 List.not_mem_nil) dX4_same_184
                    · exact absurd c_176 (by decide)
                  · exact absurd c_120 (by decide)
            · refine lv_iconst (v := (nI 0)) hx hb dX4_same_109 (by decide) ?_
              refine lv_istore_n (lv' := [(3, .int (nI 0)), (2, .int (nI 0)), (1, .int (nI (kp - 1))), (0, .ref (a 0))]) hx hb dX4_same_110 rfl hl (by decide) rfl (fun ls hl => ?_)
              refine lp_still (σ := Nat × Nat) (fun ⟨k, b⟩ => k ≤ us ∧ ((b = 1 ∧ (sz = ks (kp - 1) ∧ st = kt (kp - 1) ∧ us = ku (kp - 1)) ∧ (∀ j, j < sz → mem j = km (8192 * (kp - 1) + j)) ∧ (∀ j, j < k → pl j = kl (64 * (kp - 1) + j) ∧ ln j = kn (64 * (kp - 1) + j))) ∨ (b = 0 ∧ ¬ smP sz st us mem pl ln km ks kt ku kl kn (kp - 1)))) (fun ⟨k, b⟩ => us - k) (fun ⟨k, b⟩ => [(3, .int (nI k)), (2, .int (nI b)), (1, .int (nI (kp - 1))), (0, .ref (a 0))]) ?_ ((0, 0)) (⟨by omega, Or.inr ⟨rfl, hv⟩⟩) (lv_sub hl [0, 1, 2, 3] rfl)
              intro ⟨k, b⟩ hI ih ls hl
              have hl : lv_has ls 4 [(3, .int (nI k)), (2, .int (nI b)), (1, .int (nI (kp - 1))), (0, .ref (a 0))] := hl
              have hI : k ≤ us ∧ ((b = 1 ∧ (sz = ks (kp - 1) ∧ st = kt (kp - 1) ∧ us = ku (kp - 1)) ∧ (∀ j, j < sz → mem j = km (8192 * (kp - 1) + j)) ∧ (∀ j, j < k → pl j = kl (64 * (kp - 1) + j) ∧ ln j = kn (64 * (kp - 1) + j))) ∨ (b = 0 ∧ ¬ smP sz st us mem pl ln km ks kt ku kl kn (kp - 1))) := hI
              obtain ⟨hk, hv⟩ := hI
              have ih_111 := ih
              refine lv_iload_n hx hb dX4_same_111 rfl (lv_at hl 0 rfl) ?_
              refine lv_aload_n hx hb dX4_same_112 rfl (lv_at hl 3 rfl) ?_
              refine va_get (D := (dC, dI)) (ci := 4) (v := .int (nI us)) (C := RX4) (T := TX4) (N := 18) hx hb hts in_X4 hown hK hP 0 rfl rfl 3 (by decide) lk_6 (fun _ h9 => h9) rfl dX4_same_113 ?_
              refine lv_icmp_ge (tgt := 175) hx hb dX4_same_116 (by decide) (fun c_116 => ?_) (fun c_116 => ?_)
              · have c_116 : us ≤ k := (nI_leI (a := us) (b := k) (by omega) (by omega)).mp c_116
                rcases hv with ⟨rfl, hv⟩ | ⟨rfl, hv⟩
                · refine lv_iload_n hx hb dX4_same_175 rfl (lv_at hl 1 rfl) ?_
                  refine lv_if_eq (tgt := 183) hx hb dX4_same_176 (by decide) (fun c_176 => ?_) (fun c_176 => ?_)
                  · exact absurd c_176 (by decide)
                  · have c_176 : ¬ 1 = 0 := fun q => c_176 ((nZ_eq (by omega)).mpr q)
                    refine lv_iconst (v := (nI 1)) hx hb dX4_same_179 (by decide) ?_
                    refine lv_goto (tgt := 184) hx hb dX4_same_180 (by decide) ?_
                    exact W.iret (v := (nI 1)) hx hb hr (fun t ht hW => ⟨(nI 1), rfl, Or.inr ⟨c_4, Or.inl ⟨⟨hv.1, hv.2.1, fun j hj => hv.2.2 j (by omega)⟩, rfl⟩⟩, ht⟩) (fun _ h9 => absurd h9 List.not_mem_nil) dX4_same_184
                · refine lv_iload_n hx hb dX4_same_175 rfl (lv_at hl 1 rfl) ?_
                  refine lv_if_eq (tgt := 183) hx hb dX4_same_176 (by decide) (fun c_176 => ?_) (fun c_176 => ?_)
                  · have c_176 : 0 = 0 := (nZ_eq (by omega)).mp c_176
                    refine lv_iconst (v := (nI 0)) hx hb dX4_same_183 (by decide) ?_
                    exact W.iret (v := (nI 0)) hx hb hr (fun t ht hW => ⟨(nI 0), rfl, Or.inr ⟨c_4, Or.inr ⟨hv, rfl⟩⟩, ht⟩) (fun _ h9 => absurd h9 List.not_mem_nil) dX4_same_184
                  · exact absurd c_176 (by decide)
              · have c_116 : ¬ us ≤ k := fun q => c_116 ((nI_leI (a := us) (b := k) (by omega) (by omega)).mpr q)
                rcases hv with ⟨rfl, hv⟩ | ⟨rfl, hv⟩
                · refine lv_iload_n hx hb dX4_same_119 rfl (lv_at hl 1 rfl) ?_
                  refine lv_if_eq (tgt := 175) hx hb dX4_same_120 (by decide) (fun c_120 => ?_) (fun c_120 => ?_)
                  · exact absurd c_120 (by decide)
                  · have c_120 : ¬ 1 = 0 := fun q => c_120 ((nZ_eq (by omega)).mpr q)
                    refine lv_aload_n hx hb dX4_same_123 rfl (lv_at hl 3 rfl) ?_
                    refine va_get (D := (dC, dI)) (ci := 4) (v := .ref (a 2)) (C := RX4) (T := TX4) (N := 18) hx hb hts in_X4 hown hK hP 0 rfl rfl 4 (by decide) lk_10 (fun _ h9 => h9) rfl dX4_same_124 ?_
                    refine lv_iload_n hx hb dX4_same_127 rfl (lv_at hl 0 rfl) ?_
                    refine va_iald hx hb hK hP 2 0 rfl rfl (vp_in_nI (by omega) (by omega)) dX4_same_128 ?_
                    refine tpi (nf_at (by omega)) ?_
                    have w_128 := bpl k
                    refine lv_aload_n hx hb dX4_same_129 rfl (lv_at hl 3 rfl) ?_
                    refine va_get (D := (dC, dI)) (ci := 4) (v := .ref (a 8)) (C := RX4) (T := TX4) (N := 18) hx hb hts in_X4 hown hK hP 0 rfl rfl 11 (by decide) lk_11 (fun _ h9 => h9) rfl dX4_same_130 ?_
                    refine lv_bipush (v := (nI 64)) hx hb dX4_same_133 (by decide) ?_
                    refine lv_iload_n hx hb dX4_same_135 rfl (lv_at hl 2 rfl) ?_
                    refine lv_imul hx hb dX4_same_136 ?_
                    refine tpi (pk_mul _ _) ?_
                    refine lv_iload_n hx hb dX4_same_137 rfl (lv_at hl 0 rfl) ?_
                    refine lv_iadd hx hb dX4_same_138 ?_
                    refine tpi (nI_add _ _) ?_
                    refine va_iald hx hb hK hP 8 0 rfl rfl (vp_in_nI (by omega) (by omega)) dX4_same_139 ?_
                    refine tpi (nf_at (by omega)) ?_
                    have w_139 := bkl (64 * (kp - 1) + k)
                    refine lv_icmp_ne (tgt := 167) hx hb dX4_same_140 (by decide) (fun c_140 => ?_) (fun c_140 => ?_)
                    · have c_140 : ¬ pl k = kl (64 * (kp - 1) + k) := fun q => c_140 ((nI_eq (a := pl k) (b := kl (64 * (kp - 1) + k)) (by omega) (by omega)).mpr q)
                      refine lv_iconst (v := (nI 0)) hx hb dX4_same_167 (by decide) ?_
                      refine lv_istore_n (lv' := [(2, .int (nI 0)), (3, .int (nI k)), (1, .int (nI (kp - 1))), (0, .ref (a 0))]) hx hb dX4_same_168 rfl hl (by decide) rfl (fun ls hl => ?_)
                      refine lv_iinc (v := (nI (k + 1))) (lv' := [(3, .int (nI (k + 1))), (2, .int (nI 0)), (1, .int (nI (kp - 1))), (0, .ref (a 0))]) hx hb dX4_same_169 hl (k := 1) rfl (nI_inc _) (by decide) rfl (fun ls hl => ?_)
                      refine lv_goto (tgt := 111) hx hb dX4_same_172 (by decide) ?_
                      exact ih_111 (k + 1, 0) (⟨by omega, Or.inr ⟨rfl, fun q => c_140 (q.2.2 k (by omega)).1⟩⟩) (show us - (k + 1) < us - k by omega) ls (lv_sub hl [0, 1, 2, 3] rfl)
                    · have c_140 : pl k = kl (64 * (kp - 1) + k) := (nI_eq (a := pl k) (b := kl (64 * (kp - 1) + k)) (by omega) (by omega)).mp c_140
                      refine lv_aload_n hx hb dX4_same_143 rfl (lv_at hl 3 rfl) ?_
                      refine va_get (D := (dC, dI)) (ci := 4) (v := .ref (a 3)) (C := RX4) (T := TX4) (N := 18) hx hb hts in_X4 hown hK hP 0 rfl rfl 5 (by decide) lk_12 (fun _ h9 => h9) rfl dX4_same_144 ?_
                      refine lv_iload_n hx hb dX4_same_147 rfl (lv_at hl 0 rfl) ?_
                      refine va_iald hx hb hK hP 3 0 rfl rfl (vp_in_nI (by omega) (by omega)) dX4_same_148 ?_
                      refine tpi (nf_at (by omega)) ?_
                      have w_148 := bln k
                      refine lv_aload_n hx hb dX4_same_149 rfl (lv_at hl 3 rfl) ?_
                      refine va_get (D := (dC, dI)) (ci := 4) (v := .ref (a 9)) (C := RX4) (T := TX4) (N := 18) hx hb hts in_X4 hown hK hP 0 rfl rfl 12 (by decide) lk_13 (fun _ h9 => h9) rfl dX4_same_150 ?_
                      refine lv_bipush (v := (nI 64)) hx hb dX4_same_153 (by decide) ?_
                      refine lv_iload_n hx hb dX4_same_155 rfl (lv_at hl 2 rfl) ?_
                      refine lv_imul hx hb dX4_same_156 ?_
                      refine tpi (pk_mul _ _) ?_
                      refine lv_iload_n hx hb dX4_same_157 rfl (lv_at hl 0 rfl) ?_
                      refine lv_iadd hx hb dX4_same_158 ?_
                      refine tpi (nI_add _ _) ?_
                      refine va_iald hx hb hK hP 9 0 rfl rfl (vp_in_nI (by omega) (by omega)) dX4_same_159 ?_
                      refine tpi (nf_at (by omega)) ?_
                      have w_159 := bkn (64 * (kp - 1) + k)
                      refine lv_icmp_ne (tgt := 167) hx hb dX4_same_160 (by decide) (fun c_160 => ?_) (fun c_160 => ?_)
                      · have c_160 : ¬ ln k = kn (64 * (kp - 1) + k) := fun q => c_160 ((nI_eq (a := ln k) (b := kn (64 * (kp - 1) + k)) (by omega) (by omega)).mpr q)
                        refine lv_iconst (v := (nI 0)) hx hb dX4_same_167 (by decide) ?_
                        refine lv_istore_n (lv' := [(2, .int (nI 0)), (3, .int (nI k)), (1, .int (nI (kp - 1))), (0, .ref (a 0))]) hx hb dX4_same_168 rfl hl (by decide) rfl (fun ls hl => ?_)
                        refine lv_iinc (v := (nI (k + 1))) (lv' := [(3, .int (nI (k + 1))), (2, .int (nI 0)), (1, .int (nI (kp - 1))), (0, .ref (a 0))]) hx hb dX4_same_169 hl (k := 1) rfl (nI_inc _) (by decide) rfl (fun ls hl => ?_)
                        refine lv_goto (tgt := 111) hx hb dX4_same_172 (by decide) ?_
                        exact ih_111 (k + 1, 0) (⟨by omega, Or.inr ⟨rfl, fun q => c_160 (q.2.2 k (by omega)).2⟩⟩) (show us - (k + 1) < us - k by omega) ls (lv_sub hl [0, 1, 2, 3] rfl)
                      · have c_160 : ln k = kn (64 * (kp - 1) + k) := (nI_eq (a := ln k) (b := kn (64 * (kp - 1) + k)) (by omega) (by omega)).mp c_160
                        refine lv_iconst (v := (nI 1)) hx hb dX4_same_163 (by decide) ?_
                        refine lv_goto (tgt := 168) hx hb dX4_same_164 (by decide) ?_
                        refine lv_istore_n (lv' := [(2, .int (nI 1)), (3, .int (nI k)), (1, .int (nI (kp - 1))), (0, .ref (a 0))]) hx hb dX4_same_168 rfl hl (by decide) rfl (fun ls hl => ?_)
                        refine lv_iinc (v := (nI (k + 1))) (lv' := [(3, .int (nI (k + 1))), (2, .int (nI 1)), (1, .int (nI (kp - 1))), (0, .ref (a 0))]) hx hb dX4_same_169 hl (k := 1) rfl (nI_inc _) (by decide) rfl (fun ls hl => ?_)
                        refine lv_goto (tgt := 111) hx hb dX4_same_172 (by decide) ?_
                        exact ih_111 (k + 1, 1) (⟨by omega, Or.inl ⟨rfl, hv.1, hv.2.1, lt_s hv.2.2 ⟨c_140, c_160⟩⟩⟩) (show us - (k + 1) < us - k by omega) ls (lv_sub hl [0, 1, 2, 3] rfl)
                · refine lv_iload_n hx hb dX4_same_119 rfl (lv_at hl 1 rfl) ?_
                  refine lv_if_eq (tgt := 175) hx hb dX4_same_120 (by decide) (fun c_120 => ?_) (fun c_120 => ?_)
                  · have c_120 : 0 = 0 := (nZ_eq (by omega)).mp c_120
                    refine lv_iload_n hx hb dX4_same_175 rfl (lv_at hl 1 rfl) ?_
                    refine lv_if_eq (tgt := 183) hx hb dX4_same_176 (by decide) (fun c_176 => ?_) (fun c_176 => ?_)
                    · have c_176 : 0 = 0 := (nZ_eq (by omega)).mp c_176
                      refine lv_iconst (v := (nI 0)) hx hb dX4_same_183 (by decide) ?_
                      exact W.iret (v := (nI 0)) hx hb hr (fun t ht hW => ⟨(nI 0), rfl, Or.inr ⟨c_4, Or.inr ⟨hv, rfl⟩⟩, ht⟩) (fun _ h9 => absurd h9 List.not_mem_nil) dX4_same_184
                    · exact absurd c_176 (by decide)
                  · exact absurd c_120 (by decide)
          · have c_69 : ¬ sz ≤ i := fun q => c_69 ((nI_leI (a := sz) (b := i) (by omega) (by omega)).mpr q)
            rcases hv with ⟨rfl, hv⟩ | ⟨rfl, hv⟩
            · refine lv_iload_n hx hb dX4_same_72 rfl (lv_at hl 1 rfl) ?_
              refine lv_if_eq (tgt := 109) hx hb dX4_same_73 (by decide) (fun c_73 => ?_) (fun c_73 => ?_)
              · exact absurd c_73 (by decide)
              · have c_73 : ¬ 1 = 0 := fun q => c_73 ((nZ_eq (by omega)).mpr q)
                refine lv_aload_n hx hb dX4_same_76 rfl (lv_at hl 3 rfl) ?_
                refine va_get (D := (dC, dI)) (ci := 4) (v := .ref (a 1)) (C := RX4) (T := TX4) (N := 18) hx hb hts in_X4 hown hK hP 0 rfl rfl 0 (by decide) lk_8 (fun _ h9 => h9) rfl dX4_same_77 ?_
                refine lv_iload_n hx hb dX4_same_80 rfl (lv_at hl 0 rfl) ?_
                refine va_iald hx hb hK hP 1 0 rfl rfl (vp_in_nI (by omega) (by omega)) dX4_same_81 ?_
                refine tpi (nf_at (by omega)) ?_
                have w_81 := bmem i
                refine lv_aload_n hx hb dX4_same_82 rfl (lv_at hl 3 rfl) ?_
                refine va_get (D := (dC, dI)) (ci := 4) (v := .ref (a 4)) (C := RX4) (T := TX4) (N := 18) hx hb hts in_X4 hown hK hP 0 rfl rfl 7 (by decide) lk_9 (fun _ h9 => h9) rfl dX4_same_83 ?_
                refine lv_sipush (v := (nI 8192)) hx hb dX4_same_86 (by decide) ?_
                refine lv_iload_n hx hb dX4_same_89 rfl (lv_at hl 2 rfl) ?_
                refine lv_imul hx hb dX4_same_90 ?_
                refine tpi (pk_mul _ _) ?_
                refine lv_iload_n hx hb dX4_same_91 rfl (lv_at hl 0 rfl) ?_
                refine lv_iadd hx hb dX4_same_92 ?_
                refine tpi (nI_add _ _) ?_
                refine va_iald hx hb hK hP 4 0 rfl rfl (vp_in_nI (by omega) (by omega)) dX4_same_93 ?_
                refine tpi (nf_at (by omega)) ?_
                have w_93 := bkm (8192 * (kp - 1) + i)
                refine lv_icmp_ne (tgt := 101) hx hb dX4_same_94 (by decide) (fun c_94 => ?_) (fun c_94 => ?_)
                · have c_94 : ¬ mem i = km (8192 * (kp - 1) + i) := fun q => c_94 ((nI_eq (a := mem i) (b := km (8192 * (kp - 1) + i)) (by omega) (by omega)).mpr q)
                  refine lv_iconst (v := (nI 0)) hx hb dX4_same_101 (by decide) ?_
                  refine lv_istore_n (lv' := [(2, .int (nI 0)), (3, .int (nI i)), (1, .int (nI (kp - 1))), (0, .ref (a 0))]) hx hb dX4_same_102 rfl hl (by decide) rfl (fun ls hl => ?_)
                  refine lv_iinc (v := (nI (i + 1))) (lv' := [(3, .int (nI (i + 1))), (2, .int (nI 0)), (1, .int (nI (kp - 1))), (0, .ref (a 0))]) hx hb dX4_same_103 hl (k := 1) rfl (nI_inc _) (by decide) rfl (fun ls hl => ?_)
                  refine lv_goto (tgt := 64) hx hb dX4_same_106 (by decide) ?_
                  exact ih_64 (i + 1, 0) (⟨by omega, Or.inr ⟨rfl, fun q => c_94 (q.2.1 i (by omega))⟩⟩) (show sz - (i + 1) < sz - i by omega) ls (lv_sub hl [0, 1, 2, 3] rfl)
                · have c_94 : mem i = km (8192 * (kp - 1) + i) := (nI_eq (a := mem i) (b := km (8192 * (kp - 1) + i)) (by omega) (by omega)).mp c_94
                  refine lv_iconst (v := (nI 1)) hx hb dX4_same_97 (by decide) ?_
                  refine lv_goto (tgt := 102) hx hb dX4_same_98 (by decide) ?_
                  refine lv_istore_n (lv' := [(2, .int (nI 1)), (3, .int (nI i)), (1, .int (nI (kp - 1))), (0, .ref (a 0))]) hx hb dX4_same_102 rfl hl (by decide) rfl (fun ls hl => ?_)
                  refine lv_iinc (v := (nI (i + 1))) (lv' := [(3, .int (nI (i + 1))), (2, .int (nI 1)), (1, .int (nI (kp - 1))), (0, .ref (a 0))]) hx hb dX4_same_103 hl (k := 1) rfl (nI_inc _) (by decide) rfl (fun ls hl => ?_)
                  refine lv_goto (tgt := 64) hx hb dX4_same_106 (by decide) ?_
                  exact ih_64 (i + 1, 1) (⟨by omega, Or.inl ⟨rfl, hv.1, lt_s hv.2 c_94⟩⟩) (show sz - (i + 1) < sz - i by omega) ls (lv_sub hl [0, 1, 2, 3] rfl)
            · refine lv_iload_n hx hb dX4_same_72 rfl (lv_at hl 1 rfl) ?_
              refine lv_if_eq (tgt := 109) hx hb dX4_same_73 (by decide) (fun c_73 => ?_) (fun c_73 => ?_)
              · have c_73 : 0 = 0 := (nZ_eq (by omega)).mp c_73
                refine lv_iconst (v := (nI 0)) hx hb dX4_same_109 (by decide) ?_
                refine lv_istore_n (lv' := [(3, .int (nI 0)), (2, .int (nI 0)), (1, .int (nI (kp - 1))), (0, .ref (a 0))]) hx hb dX4_same_110 rfl hl (by decide) rfl (fun ls hl => ?_)
                refine lp_still (σ := Nat × Nat) (fun ⟨k, b⟩ => k ≤ us ∧ ((b = 1 ∧ (sz = ks (kp - 1) ∧ st = kt (kp - 1) ∧ us = ku (kp - 1)) ∧ (∀ j, j < sz → mem j = km (8192 * (kp - 1) + j)) ∧ (∀ j, j < k → pl j = kl (64 * (kp - 1) + j) ∧ ln j = kn (64 * (kp - 1) + j))) ∨ (b = 0 ∧ ¬ smP sz st us mem pl ln km ks kt ku kl kn (kp - 1)))) (fun ⟨k, b⟩ => us - k) (fun ⟨k, b⟩ => [(3, .int (nI k)), (2, .int (nI b)), (1, .int (nI (kp - 1))), (0, .ref (a 0))]) ?_ ((0, 0)) (⟨by omega, Or.inr ⟨rfl, hv⟩⟩) (lv_sub hl [0, 1, 2, 3] rfl)
                intro ⟨k, b⟩ hI ih ls hl
                have hl : lv_has ls 4 [(3, .int (nI k)), (2, .int (nI b)), (1, .int (nI (kp - 1))), (0, .ref (a 0))] := hl
                have hI : k ≤ us ∧ ((b = 1 ∧ (sz = ks (kp - 1) ∧ st = kt (kp - 1) ∧ us = ku (kp - 1)) ∧ (∀ j, j < sz → mem j = km (8192 * (kp - 1) + j)) ∧ (∀ j, j < k → pl j = kl (64 * (kp - 1) + j) ∧ ln j = kn (64 * (kp - 1) + j))) ∨ (b = 0 ∧ ¬ smP sz st us mem pl ln km ks kt ku kl kn (kp - 1))) := hI
                obtain ⟨hk, hv⟩ := hI
                have ih_111 := ih
                refine lv_iload_n hx hb dX4_same_111 rfl (lv_at hl 0 rfl) ?_
                refine lv_aload_n hx hb dX4_same_112 rfl (lv_at hl 3 rfl) ?_
                refine va_get (D := (dC, dI)) (ci := 4) (v := .int (nI us)) (C := RX4) (T := TX4) (N := 18) hx hb hts in_X4 hown hK hP 0 rfl rfl 3 (by decide) lk_6 (fun _ h9 => h9) rfl dX4_same_113 ?_
                refine lv_icmp_ge (tgt := 175) hx hb dX4_same_116 (by decide) (fun c_116 => ?_) (fun c_116 => ?_)
                · have c_116 : us ≤ k := (nI_leI (a := us) (b := k) (by omega) (by omega)).mp c_116
                  rcases hv with ⟨rfl, hv⟩ | ⟨rfl, hv⟩
                  · refine lv_iload_n hx hb dX4_same_175 rfl (lv_at hl 1 rfl) ?_
                    refine lv_if_eq (tgt := 183) hx hb dX4_same_176 (by decide) (fun c_176 => ?_) (fun c_176 => ?_)
                    · exact absurd c_176 (by decide)
                    · have c_176 : ¬ 1 = 0 := fun q => c_176 ((nZ_eq (by omega)).mpr q)
                      refine lv_iconst (v := (nI 1)) hx hb dX4_same_179 (by decide) ?_
                      refine lv_goto (tgt := 184) hx hb dX4_same_180 (by decide) ?_
                      exact W.iret (v := (nI 1)) hx hb hr (fun t ht hW => ⟨(nI 1), rfl, Or.inr ⟨c_4, Or.inl ⟨⟨hv.1, hv.2.1, fun j hj => hv.2.2 j (by omega)⟩, rfl⟩⟩, ht⟩) (fun _ h9 => absurd h9 List.not_mem_nil) dX4_same_184
                  · refine lv_iload_n hx hb dX4_same_175 rfl (lv_at hl 1 rfl) ?_
                    refine lv_if_eq (tgt := 183) hx hb dX4_same_176 (by decide) (fun c_176 => ?_) (fun c_176 => ?_)
                    · have c_176 : 0 = 0 := (nZ_eq (by omega)).mp c_176
                      refine lv_iconst (v := (nI 0)) hx hb dX4_same_183 (by decide) ?_
                      exact W.iret (v := (nI 0)) hx hb hr (fun t ht hW => ⟨(nI 0), rfl, Or.inr ⟨c_4, Or.inr ⟨hv, rfl⟩⟩, ht⟩) (fun _ h9 => absurd h9 List.not_mem_nil) dX4_same_184
                    · exact absurd c_176 (by decide)
                · have c_116 : ¬ us ≤ k := fun q => c_116 ((nI_leI (a := us) (b := k) (by omega) (by omega)).mpr q)
                  rcases hv with ⟨rfl, hv⟩ | ⟨rfl, hv⟩
                  · refine lv_iload_n hx hb dX4_same_119 rfl (lv_at hl 1 rfl) ?_
                    refine lv_if_eq (tgt := 175) hx hb dX4_same_120 (by decide) (fun c_120 => ?_) (fun c_120 => ?_)
                    · exact absurd c_120 (by decide)
                    · have c_120 : ¬ 1 = 0 := fun q => c_120 ((nZ_eq (by omega)).mpr q)
                      refine lv_aload_n hx hb dX4_same_123 rfl (lv_at hl 3 rfl) ?_
                      refine va_get (D := (dC, dI)) (ci := 4) (v := .ref (a 2)) (C := RX4) (T := TX4) (N := 18) hx hb hts in_X4 hown hK hP 0 rfl rfl 4 (by decide) lk_10 (fun _ h9 => h9) rfl dX4_same_124 ?_
                      refine lv_iload_n hx hb dX4_same_127 rfl (lv_at hl 0 rfl) ?_
                      refine va_iald hx hb hK hP 2 0 rfl rfl (vp_in_nI (by omega) (by omega)) dX4_same_128 ?_
                      refine tpi (nf_at (by omega)) ?_
                      have w_128 := bpl k
                      refine lv_aload_n hx hb dX4_same_129 rfl (lv_at hl 3 rfl) ?_
                      refine va_get (D := (dC, dI)) (ci := 4) (v := .ref (a 8)) (C := RX4) (T := TX4) (N := 18) hx hb hts in_X4 hown hK hP 0 rfl rfl 11 (by decide) lk_11 (fun _ h9 => h9) rfl dX4_same_130 ?_
                      refine lv_bipush (v := (nI 64)) hx hb dX4_same_133 (by decide) ?_
                      refine lv_iload_n hx hb dX4_same_135 rfl (lv_at hl 2 rfl) ?_
                      refine lv_imul hx hb dX4_same_136 ?_
                      refine tpi (pk_mul _ _) ?_
                      refine lv_iload_n hx hb dX4_same_137 rfl (lv_at hl 0 rfl) ?_
                      refine lv_iadd hx hb dX4_same_138 ?_
                      refine tpi (nI_add _ _) ?_
                      refine va_iald hx hb hK hP 8 0 rfl rfl (vp_in_nI (by omega) (by omega)) dX4_same_139 ?_
                      refine tpi (nf_at (by omega)) ?_
                      have w_139 := bkl (64 * (kp - 1) + k)
                      refine lv_icmp_ne (tgt := 167) hx hb dX4_same_140 (by decide) (fun c_140 => ?_) (fun c_140 => ?_)
                      · have c_140 : ¬ pl k = kl (64 * (kp - 1) + k) := fun q => c_140 ((nI_eq (a := pl k) (b := kl (64 * (kp - 1) + k)) (by omega) (by omega)).mpr q)
                        refine lv_iconst (v := (nI 0)) hx hb dX4_same_167 (by decide) ?_
                        refine lv_istore_n (lv' := [(2, .int (nI 0)), (3, .int (nI k)), (1, .int (nI (kp - 1))), (0, .ref (a 0))]) hx hb dX4_same_168 rfl hl (by decide) rfl (fun ls hl => ?_)
                        refine lv_iinc (v := (nI (k + 1))) (lv' := [(3, .int (nI (k + 1))), (2, .int (nI 0)), (1, .int (nI (kp - 1))), (0, .ref (a 0))]) hx hb dX4_same_169 hl (k := 1) rfl (nI_inc _) (by decide) rfl (fun ls hl => ?_)
                        refine lv_goto (tgt := 111) hx hb dX4_same_172 (by decide) ?_
                        exact ih_111 (k + 1, 0) (⟨by omega, Or.inr ⟨rfl, fun q => c_140 (q.2.2 k (by omega)).1⟩⟩) (show us - (k + 1) < us - k by omega) ls (lv_sub hl [0, 1, 2, 3] rfl)
                      · have c_140 : pl k = kl (64 * (kp - 1) + k) := (nI_eq (a := pl k) (b := kl (64 * (kp - 1) + k)) (by omega) (by omega)).mp c_140
                        refine lv_aload_n hx hb dX4_same_143 rfl (lv_at hl 3 rfl) ?_
                        refine va_get (D := (dC, dI)) (ci := 4) (v := .ref (a 3)) (C := RX4) (T := TX4) (N := 18) hx hb hts in_X4 hown hK hP 0 rfl rfl 5 (by decide) lk_12 (fun _ h9 => h9) rfl dX4_same_144 ?_
                        refine lv_iload_n hx hb dX4_same_147 rfl (lv_at hl 0 rfl) ?_
                        refine va_iald hx hb hK hP 3 0 rfl rfl (vp_in_nI (by omega) (by omega)) dX4_same_148 ?_
                        refine tpi (nf_at (by omega)) ?_
                        have w_148 := bln k
                        refine lv_aload_n hx hb dX4_same_149 rfl (lv_at hl 3 rfl) ?_
                        refine va_get (D := (dC, dI)) (ci := 4) (v := .ref (a 9)) (C := RX4) (T := TX4) (N := 18) hx hb hts in_X4 hown hK hP 0 rfl rfl 12 (by decide) lk_13 (fun _ h9 => h9) rfl dX4_same_150 ?_
                        refine lv_bipush (v := (nI 64)) hx hb dX4_same_153 (by decide) ?_
                        refine lv_iload_n hx hb dX4_same_155 rfl (lv_at hl 2 rfl) ?_
                        refine lv_imul hx hb dX4_same_156 ?_
                        refine tpi (pk_mul _ _) ?_
                        refine lv_iload_n hx hb dX4_same_157 rfl (lv_at hl 0 rfl) ?_
                        refine lv_iadd hx hb dX4_same_158 ?_
                        refine tpi (nI_add _ _) ?_
                        refine va_iald hx hb hK hP 9 0 rfl rfl (vp_in_nI (by omega) (by omega)) dX4_same_159 ?_
                        refine tpi (nf_at (by omega)) ?_
                        have w_159 := bkn (64 * (kp - 1) + k)
                        refine lv_icmp_ne (tgt := 167) hx hb dX4_same_160 (by decide) (fun c_160 => ?_) (fun c_160 => ?_)
                        · have c_160 : ¬ ln k = kn (64 * (kp - 1) + k) := fun q => c_160 ((nI_eq (a := ln k) (b := kn (64 * (kp - 1) + k)) (by omega) (by omega)).mpr q)
                          refine lv_iconst (v := (nI 0)) hx hb dX4_same_167 (by decide) ?_
                          refine lv_istore_n (lv' := [(2, .int (nI 0)), (3, .int (nI k)), (1, .int (nI (kp - 1))), (0, .ref (a 0))]) hx hb dX4_same_168 rfl hl (by decide) rfl (fun ls hl => ?_)
                          refine lv_iinc (v := (nI (k + 1))) (lv' := [(3, .int (nI (k + 1))), (2, .int (nI 0)), (1, .int (nI (kp - 1))), (0, .ref (a 0))]) hx hb dX4_same_169 hl (k := 1) rfl (nI_inc _) (by decide) rfl (fun ls hl => ?_)
                          refine lv_goto (tgt := 111) hx hb dX4_same_172 (by decide) ?_
                          exact ih_111 (k + 1, 0) (⟨by omega, Or.inr ⟨rfl, fun q => c_160 (q.2.2 k (by omega)).2⟩⟩) (show us - (k + 1) < us - k by omega) ls (lv_sub hl [0, 1, 2, 3] rfl)
                        · have c_160 : ln k = kn (64 * (kp - 1) + k) := (nI_eq (a := ln k) (b := kn (64 * (kp - 1) + k)) (by omega) (by omega)).mp c_160
                          refine lv_iconst (v := (nI 1)) hx hb dX4_same_163 (by decide) ?_
                          refine lv_goto (tgt := 168) hx hb dX4_same_164 (by decide) ?_
                          refine lv_istore_n (lv' := [(2, .int (nI 1)), (3, .int (nI k)), (1, .int (nI (kp - 1))), (0, .ref (a 0))]) hx hb dX4_same_168 rfl hl (by decide) rfl (fun ls hl => ?_)
                          refine lv_iinc (v := (nI (k + 1))) (lv' := [(3, .int (nI (k + 1))), (2, .int (nI 1)), (1, .int (nI (kp - 1))), (0, .ref (a 0))]) hx hb dX4_same_169 hl (k := 1) rfl (nI_inc _) (by decide) rfl (fun ls hl => ?_)
                          refine lv_goto (tgt := 111) hx hb dX4_same_172 (by decide) ?_
                          exact ih_111 (k + 1, 1) (⟨by omega, Or.inl ⟨rfl, hv.1, hv.2.1, lt_s hv.2.2 ⟨c_140, c_160⟩⟩⟩) (show us - (k + 1) < us - k by omega) ls (lv_sub hl [0, 1, 2, 3] rfl)
                  · refine lv_iload_n hx hb dX4_same_119 rfl (lv_at hl 1 rfl) ?_
                    refine lv_if_eq (tgt := 175) hx hb dX4_same_120 (by decide) (fun c_120 => ?_) (fun c_120 => ?_)
                    · have c_120 : 0 = 0 := (nZ_eq (by omega)).mp c_120
                      refine lv_iload_n hx hb dX4_same_175 rfl (lv_at hl 1 rfl) ?_
                      refine lv_if_eq (tgt := 183) hx hb dX4_same_176 (by decide) (fun c_176 => ?_) (fun c_176 => ?_)
                      · have c_176 : 0 = 0 := (nZ_eq (by omega)).mp c_176
                        refine lv_iconst (v := (nI 0)) hx hb dX4_same_183 (by decide) ?_
                        exact W.iret (v := (nI 0)) hx hb hr (fun t ht hW => ⟨(nI 0), rfl, Or.inr ⟨c_4, Or.inr ⟨hv, rfl⟩⟩, ht⟩) (fun _ h9 => absurd h9 List.not_mem_nil) dX4_same_184
                      · exact absurd c_176 (by decide)
                    · exact absurd c_120 (by decide)
              · exact absurd c_73 (by decide)
  · have c_4 : kp = 0 := (nZ_eq (by omega)).mp c_4
    refine lv_bipush (v := ((-11))) hx hb dX4_same_7 (by decide) ?_
    exact W.iret (v := ((-11))) hx hb hr (fun t ht hW => ⟨((-11)), rfl, Or.inl ⟨c_4, rfl⟩, ht⟩) (fun _ h9 => absurd h9 List.not_mem_nil) dX4_same_9
