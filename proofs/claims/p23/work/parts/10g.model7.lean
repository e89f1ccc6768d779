set_option maxHeartbeats 4000000 in
set_option maxRecDepth 100000 in
theorem c_X4_linear (l : Launch) (dC : Nat → ClassId) (dI : Nat → Nat → Nat) (cI : ClassId) (a : Nat → Nat) (sz st us kp ga gl cs : Nat) (mem pl ln km ks kt ku kl kn cd wt : Nat → Nat) (zz : Nat) (p1 p2 p3 p4 p5 p6 p7 : Int32) (bmem : ∀ j, mem j < 256) (bwt : ∀ j, wt j < 256) (g3 : sz ≤ 8192) : Met l yX4_linear wsX4_linear ({ frames := 2, cells := 0, slots := 0, locals := 48 }) (va_Pc [.ref (a 0), .int p1, .int p2, .int p3, .int p4, .int p5, .int p6, .int p7] (fun U => U.heap.size = zz ∧ va_P (dC, dI) vwCl (mw cI a sz st us kp ga gl cs mem pl ln km ks kt ku kl kn cd wt) U.heap ∧ va_K (dC, dI) vwCl [(cI, .int)] U ∧ va_D (fun _ => True) (mw cI a sz st us kp ga gl cs mem pl ln km ks kt ku kl kn cd wt))) (va_Qi (fun r _ => r = lnR sz mem p1 p2 p3 p4 p5 p6 p7) (fun (_ : Unit) t => va_P (dC, dI) vwCl (mw cI a sz st us kp ga gl cs mem pl ln km ks kt ku kl kn cd (lnW sz mem wt p1 p2 p3 p4 p5 p6 p7)) t.heap ∧ va_K (dC, dI) vwCl [(cI, .int)] t ∧ va_D (va_A (mw cI a sz st us kp ga gl cs mem pl ln km ks kt ku kl kn cd wt) zz) (mw cI a sz st us kp ga gl cs mem pl ln km ks kt ku kl kn cd (lnW sz mem wt p1 p2 p3 p4 p5 p6 p7))) (va_A (mw cI a sz st us kp ga gl cs mem pl ln km ks kt ku kl kn cd wt) zz)) 0 0 (va_A (mw cI a sz st us kp ga gl cs mem pl ln km ks kt ku kl kn cd wt) zz) := by
  refine Met.ofW (cc := cX4_linear) (maxL := 13) (ret := (some .int)) (by decide) rfl ?_
  intro p e s m args below meth c s₁ B hml hv
  obtain ⟨rfl, hsz, hP, hK, hD0⟩ := hv
  have hx := B.exec
  have hb := B.bytes
  have hr := B.returns
  have hts := atoms_spec (ws := wsX4_linear) B.pre
  have hown : s.vm.findClass RX4 = some m.cls := findClass_of_methodNamed B.named
  have hlocks := B.notSynchronized
  subst hsz
  have hD := hD0.self (sz := s.heap.size)
  generalize hAe : va_A (mw cI a sz st us kp ga gl cs mem pl ln km ks kt ku kl kn cd wt) s.heap.size = A at hD ⊢
  have hA : ∀ q : Nat, s.heap.size ≤ q → A q := fun q h => by rw [← hAe]; exact Or.inr h
  have hS : va_S A s.heap s.heap [] := va_S.rf
  have hP : va_P (dC, dI) vwCl (mw cI a sz st us kp ga gl cs mem pl ln km ks kt ku kl kn cd wt) s.heap := hP
  have hl := lv_entry ([.ref (a 0), .int p1, .int p2, .int p3, .int p4, .int p5, .int p6, .int p7]) (n := 13) (Nat.le_of_ble_eq_true rfl)
  rw [lg_entry_eq]
  generalize (lg_sl ([.ref (a 0), .int p1, .int p2, .int p3, .int p4, .int p5, .int p6, .int p7]) ++ List.replicate (13 - (lg_sl ([.ref (a 0), .int p1, .int p2, .int p3, .int p4, .int p5, .int p6, .int p7])).length) Slot.unset).toArray = ls at hl ⊢
  have hl : lv_has ls 13 [(0, .ref (a 0)), (1, .int p1), (2, .int p2), (3, .int p3), (4, .int p4), (5, .int p5), (6, .int p6), (7, .int p7)] := hl
  refine lv_iload hx hb dX4_linear_0 (lv_at hl 4 rfl) ?_
  refine lv_if_lt (tgt := 41) hx hb dX4_linear_2 (by decide) (fun c_2 => ?_) (fun c_2 => ?_)
  · refine lv_bipush (v := ((-11))) hx hb dX4_linear_41 (by decide) ?_
    have e_wt : wt = lnW sz mem wt p1 p2 p3 p4 p5 p6 p7 := by unfold lnW; rw [if_pos (by first | exact Or.inl c_2 | exact Or.inr (Or.inl c_8) | exact Or.inr (Or.inr (Or.inl c_13)) | exact Or.inr (Or.inr (Or.inr (Or.inl c_17))) | exact Or.inr (Or.inr (Or.inr (Or.inr (Or.inl c_22)))) | exact Or.inr (Or.inr (Or.inr (Or.inr (Or.inr (Or.inl ((nI_ltI (by omega) (by omega)).mpr c_29)))))) | exact Or.inr (Or.inr (Or.inr (Or.inr (Or.inr (Or.inr (by rw [show cl (nI o) = o from nI_clamp (by omega)]; exact hkb)))))))]
    have hP : va_P (dC, dI) vwCl (mw cI a sz st us kp ga gl cs mem pl ln km ks kt ku kl kn cd (lnW sz mem wt p1 p2 p3 p4 p5 p6 p7)) s.heap := by rw [← e_wt]; exact hP
    have hD : va_D A (mw cI a sz st us kp ga gl cs mem pl ln km ks kt ku kl kn cd (lnW sz mem wt p1 p2 p3 p4 p5 p6 p7)) := by rw [← e_wt]; exact hD
    exact W.iret (v := ((-11))) hx hb hr (fun t ht hW => ⟨⟨((-11)), (), rfl, (show ((-11)) = lnR sz mem p1 p2 p3 p4 p5 p6 p7 from by unfold lnR; rw [if_pos (by first | exact Or.inl c_2 | exact Or.inr (Or.inl c_8) | exact Or.inr (Or.inr (Or.inl c_13)) | exact Or.inr (Or.inr (Or.inr (Or.inl c_17))) | exact Or.inr (Or.inr (Or.inr (Or.inr (Or.inl c_22)))) | exact Or.inr (Or.inr (Or.inr (Or.inr (Or.inr (Or.inl ((nI_ltI (by omega) (by omega)).mpr c_29)))))) | exact Or.inr (Or.inr (Or.inr (Or.inr (Or.inr (Or.inr (by rw [show cl (nI o) = o from nI_clamp (by omega)]; exact hkb)))))))]), by rw [ht]; exact hP, va_K.moved hW.alike hK, hD⟩, hS.F ht⟩) hS.2.2 dX4_linear_43
  · obtain ⟨w, n_w, rfl⟩ := nI_of c_2
    refine lv_iload hx hb dX4_linear_5 (lv_at hl 5 rfl) ?_
    refine lv_iconst (v := ((-1))) hx hb dX4_linear_7 (by decide) ?_
    refine lv_icmp_lt (tgt := 41) hx hb dX4_linear_8 (by decide) (fun c_8 => ?_) (fun c_8 => ?_)
    · refine lv_bipush (v := ((-11))) hx hb dX4_linear_41 (by decide) ?_
      have e_wt : wt = lnW sz mem wt p1 p2 p3 (nI w) p5 p6 p7 := by unfold lnW; rw [if_pos (by first | exact Or.inl c_2 | exact Or.inr (Or.inl c_8) | exact Or.inr (Or.inr (Or.inl c_13)) | exact Or.inr (Or.inr (Or.inr (Or.inl c_17))) | exact Or.inr (Or.inr (Or.inr (Or.inr (Or.inl c_22)))) | exact Or.inr (Or.inr (Or.inr (Or.inr (Or.inr (Or.inl ((nI_ltI (by omega) (by omega)).mpr c_29)))))) | exact Or.inr (Or.inr (Or.inr (Or.inr (Or.inr (Or.inr (by rw [show cl (nI o) = o from nI_clamp (by omega)]; exact hkb)))))))]
      have hP : va_P (dC, dI) vwCl (mw cI a sz st us kp ga gl cs mem pl ln km ks kt ku kl kn cd (lnW sz mem wt p1 p2 p3 (nI w) p5 p6 p7)) s.heap := by rw [← e_wt]; exact hP
      have hD : va_D A (mw cI a sz st us kp ga gl cs mem pl ln km ks kt ku kl kn cd (lnW sz mem wt p1 p2 p3 (nI w) p5 p6 p7)) := by rw [← e_wt]; exact hD
      exact W.iret (v := ((-11))) hx hb hr (fun t ht hW => ⟨⟨((-11)), (), rfl, (show ((-11)) = lnR sz mem p1 p2 p3 (nI w) p5 p6 p7 from by unfold lnR; rw [if_pos (by first | exact Or.inl c_2 | exact Or.inr (Or.inl c_8) | exact Or.inr (Or.inr (Or.inl c_13)) | exact Or.inr (Or.inr (Or.inr (Or.inl c_17))) | exact Or.inr (Or.inr (Or.inr (Or.inr (Or.inl c_22)))) | exact Or.inr (Or.inr (Or.inr (Or.inr (Or.inr (Or.inl ((nI_ltI (by omega) (by omega)).mpr c_29)))))) | exact Or.inr (Or.inr (Or.inr (Or.inr (Or.inr (Or.inr (by rw [show cl (nI o) = o from nI_clamp (by omega)]; exact hkb)))))))]), by rw [ht]; exact hP, va_K.moved hW.alike hK, hD⟩, hS.F ht⟩) hS.2.2 dX4_linear_43
    · refine lv_iload hx hb dX4_linear_11 (lv_at hl 6 rfl) ?_
      refine lv_if_lt (tgt := 41) hx hb dX4_linear_13 (by decide) (fun c_13 => ?_) (fun c_13 => ?_)
      · refine lv_bipush (v := ((-11))) hx hb dX4_linear_41 (by decide) ?_
        have e_wt : wt = lnW sz mem wt p1 p2 p3 (nI w) p5 p6 p7 := by unfold lnW; rw [if_pos (by first | exact Or.inl c_2 | exact Or.inr (Or.inl c_8) | exact Or.inr (Or.inr (Or.inl c_13)) | exact Or.inr (Or.inr (Or.inr (Or.inl c_17))) | exact Or.inr (Or.inr (Or.inr (Or.inr (Or.inl c_22)))) | exact Or.inr (Or.inr (Or.inr (Or.inr (Or.inr (Or.inl ((nI_ltI (by omega) (by omega)).mpr c_29)))))) | exact Or.inr (Or.inr (Or.inr (Or.inr (Or.inr (Or.inr (by rw [show cl (nI o) = o from nI_clamp (by omega)]; exact hkb)))))))]
        have hP : va_P (dC, dI) vwCl (mw cI a sz st us kp ga gl cs mem pl ln km ks kt ku kl kn cd (lnW sz mem wt p1 p2 p3 (nI w) p5 p6 p7)) s.heap := by rw [← e_wt]; exact hP
        have hD : va_D A (mw cI a sz st us kp ga gl cs mem pl ln km ks kt ku kl kn cd (lnW sz mem wt p1 p2 p3 (nI w) p5 p6 p7)) := by rw [← e_wt]; exact hD
        exact W.iret (v := ((-11))) hx hb hr (fun t ht hW => ⟨⟨((-11)), (), rfl, (show ((-11)) = lnR sz mem p1 p2 p3 (nI w) p5 p6 p7 from by unfold lnR; rw [if_pos (by first | exact Or.inl c_2 | exact Or.inr (Or.inl c_8) | exact Or.inr (Or.inr (Or.inl c_13)) | exact Or.inr (Or.inr (Or.inr (Or.inl c_17))) | exact Or.inr (Or.inr (Or.inr (Or.inr (Or.inl c_22)))) | exact Or.inr (Or.inr (Or.inr (Or.inr (Or.inr (Or.inl ((nI_ltI (by omega) (by omega)).mpr c_29)))))) | exact Or.inr (Or.inr (Or.inr (Or.inr (Or.inr (Or.inr (by rw [show cl (nI o) = o from nI_clamp (by omega)]; exact hkb)))))))]), by rw [ht]; exact hP, va_K.moved hW.alike hK, hD⟩, hS.F ht⟩) hS.2.2 dX4_linear_43
      · obtain ⟨off, n_off, rfl⟩ := nI_of c_13
        refine lv_iload_n hx hb dX4_linear_16 rfl (lv_at hl 3 rfl) ?_
        refine lv_if_lt (tgt := 41) hx hb dX4_linear_17 (by decide) (fun c_17 => ?_) (fun c_17 => ?_)
        · refine lv_bipush (v := ((-11))) hx hb dX4_linear_41 (by decide) ?_
          have e_wt : wt = lnW sz mem wt p1 p2 p3 (nI w) p5 (nI off) p7 := by unfold lnW; rw [if_pos (by first | exact Or.inl c_2 | exact Or.inr (Or.inl c_8) | exact Or.inr (Or.inr (Or.inl c_13)) | exact Or.inr (Or.inr (Or.inr (Or.inl c_17))) | exact Or.inr (Or.inr (Or.inr (Or.inr (Or.inl c_22)))) | exact Or.inr (Or.inr (Or.inr (Or.inr (Or.inr (Or.inl ((nI_ltI (by omega) (by omega)).mpr c_29)))))) | exact Or.inr (Or.inr (Or.inr (Or.inr (Or.inr (Or.inr (by rw [show cl (nI o) = o from nI_clamp (by omega)]; exact hkb)))))))]
          have hP : va_P (dC, dI) vwCl (mw cI a sz st us kp ga gl cs mem pl ln km ks kt ku kl kn cd (lnW sz mem wt p1 p2 p3 (nI w) p5 (nI off) p7)) s.heap := by rw [← e_wt]; exact hP
          have hD : va_D A (mw cI a sz st us kp ga gl cs mem pl ln km ks kt ku kl kn cd (lnW sz mem wt p1 p2 p3 (nI w) p5 (nI off) p7)) := by rw [← e_wt]; exact hD
          exact W.iret (v := ((-11))) hx hb hr (fun t ht hW => ⟨⟨((-11)), (), rfl, (show ((-11)) = lnR sz mem p1 p2 p3 (nI w) p5 (nI off) p7 from by unfold lnR; rw [if_pos (by first | exact Or.inl c_2 | exact Or.inr (Or.inl c_8) | exact Or.inr (Or.inr (Or.inl c_13)) | exact Or.inr (Or.inr (Or.inr (Or.inl c_17))) | exact Or.inr (Or.inr (Or.inr (Or.inr (Or.inl c_22)))) | exact Or.inr (Or.inr (Or.inr (Or.inr (Or.inr (Or.inl ((nI_ltI (by omega) (by omega)).mpr c_29)))))) | exact Or.inr (Or.inr (Or.inr (Or.inr (Or.inr (Or.inr (by rw [show cl (nI o) = o from nI_clamp (by omega)]; exact hkb)))))))]), by rw [ht]; exact hP, va_K.moved hW.alike hK, hD⟩, hS.F ht⟩) hS.2.2 dX4_linear_43
        · obtain ⟨x, n_x, rfl⟩ := nI_of c_17
          refine lv_iload hx hb dX4_linear_20 (lv_at hl 7 rfl) ?_
          refine lv_if_lt (tgt := 41) hx hb dX4_linear_22 (by decide) (fun c_22 => ?_) (fun c_22 => ?_)
          · refine lv_bipush (v := ((-11))) hx hb dX4_linear_41 (by decide) ?_
            have e_wt : wt = lnW sz mem wt p1 p2 (nI x) (nI w) p5 (nI off) p7 := by unfold lnW; rw [if_pos (by first | exact Or.inl c_2 | exact Or.inr (Or.inl c_8) | exact Or.inr (Or.inr (Or.inl c_13)) | exact Or.inr (Or.inr (Or.inr (Or.inl c_17))) | exact Or.inr (Or.inr (Or.inr (Or.inr (Or.inl c_22)))) | exact Or.inr (Or.inr (Or.inr (Or.inr (Or.inr (Or.inl ((nI_ltI (by omega) (by omega)).mpr c_29)))))) | exact Or.inr (Or.inr (Or.inr (Or.inr (Or.inr (Or.inr (by rw [show cl (nI o) = o from nI_clamp (by omega)]; exact hkb)))))))]
            have hP : va_P (dC, dI) vwCl (mw cI a sz st us kp ga gl cs mem pl ln km ks kt ku kl kn cd (lnW sz mem wt p1 p2 (nI x) (nI w) p5 (nI off) p7)) s.heap := by rw [← e_wt]; exact hP
            have hD : va_D A (mw cI a sz st us kp ga gl cs mem pl ln km ks kt ku kl kn cd (lnW sz mem wt p1 p2 (nI x) (nI w) p5 (nI off) p7)) := by rw [← e_wt]; exact hD
            exact W.iret (v := ((-11))) hx hb hr (fun t ht hW => ⟨⟨((-11)), (), rfl, (show ((-11)) = lnR sz mem p1 p2 (nI x) (nI w) p5 (nI off) p7 from by unfold lnR; rw [if_pos (by first | exact Or.inl c_2 | exact Or.inr (Or.inl c_8) | exact Or.inr (Or.inr (Or.inl c_13)) | exact Or.inr (Or.inr (Or.inr (Or.inl c_17))) | exact Or.inr (Or.inr (Or.inr (Or.inr (Or.inl c_22)))) | exact Or.inr (Or.inr (Or.inr (Or.inr (Or.inr (Or.inl ((nI_ltI (by omega) (by omega)).mpr c_29)))))) | exact Or.inr (Or.inr (Or.inr (Or.inr (Or.inr (Or.inr (by rw [show cl (nI o) = o from nI_clamp (by omega)]; exact hkb)))))))]), by rw [ht]; exact hP, va_K.moved hW.alike hK, hD⟩, hS.F ht⟩) hS.2.2 dX4_linear_43
          · obtain ⟨o, n_o, rfl⟩ := nI_of c_22
            refine lv_iload hx hb dX4_linear_25 (lv_at hl 7 rfl) ?_
            refine lv_bipush (v := (nI 7)) hx hb dX4_linear_27 (by decide) ?_
            refine lv_icmp_gt (tgt := 41) hx hb dX4_linear_29 (by decide) (fun c_29 => ?_) (fun c_29 => ?_)
            · have c_29 : 7 < o := (nI_ltI (a := 7) (b := o) (by omega) (by omega)).mp c_29
              refine lv_bipush (v := ((-11))) hx hb dX4_linear_41 (by decide) ?_
              have e_wt : wt = lnW sz mem wt p1 p2 (nI x) (nI w) p5 (nI off) (nI o) := by unfold lnW; rw [if_pos (by first | exact Or.inl c_2 | exact Or.inr (Or.inl c_8) | exact Or.inr (Or.inr (Or.inl c_13)) | exact Or.inr (Or.inr (Or.inr (Or.inl c_17))) | exact Or.inr (Or.inr (Or.inr (Or.inr (Or.inl c_22)))) | exact Or.inr (Or.inr (Or.inr (Or.inr (Or.inr (Or.inl ((nI_ltI (by omega) (by omega)).mpr c_29)))))) | exact Or.inr (Or.inr (Or.inr (Or.inr (Or.inr (Or.inr (by rw [show cl (nI o) = o from nI_clamp (by omega)]; exact hkb)))))))]
              have hP : va_P (dC, dI) vwCl (mw cI a sz st us kp ga gl cs mem pl ln km ks kt ku kl kn cd (lnW sz mem wt p1 p2 (nI x) (nI w) p5 (nI off) (nI o))) s.heap := by rw [← e_wt]; exact hP
              have hD : va_D A (mw cI a sz st us kp ga gl cs mem pl ln km ks kt ku kl kn cd (lnW sz mem wt p1 p2 (nI x) (nI w) p5 (nI off) (nI o))) := by rw [← e_wt]; exact hD
              exact W.iret (v := ((-11))) hx hb hr (fun t ht hW => ⟨⟨((-11)), (), rfl, (show ((-11)) = lnR sz mem p1 p2 (nI x) (nI w) p5 (nI off) (nI o) from by unfold lnR; rw [if_pos (by first | exact Or.inl c_2 | exact Or.inr (Or.inl c_8) | exact Or.inr (Or.inr (Or.inl c_13)) | exact Or.inr (Or.inr (Or.inr (Or.inl c_17))) | exact Or.inr (Or.inr (Or.inr (Or.inr (Or.inl c_22)))) | exact Or.inr (Or.inr (Or.inr (Or.inr (Or.inr (Or.inl ((nI_ltI (by omega) (by omega)).mpr c_29)))))) | exact Or.inr (Or.inr (Or.inr (Or.inr (Or.inr (Or.inr (by rw [show cl (nI o) = o from nI_clamp (by omega)]; exact hkb)))))))]), by rw [ht]; exact hP, va_K.moved hW.alike hK, hD⟩, hS.F ht⟩) hS.2.2 dX4_linear_43
            · have c_29 : ¬ 7 < o := fun q => c_29 ((nI_ltI (a := 7) (b := o) (by omega) (by omega)).mpr q)
              refine lv_iload_n hx hb dX4_linear_32 rfl (lv_at hl 2 rfl) ?_
              refine lv_iload hx hb dX4_linear_33 (lv_at hl 7 rfl) ?_
              refine vp_callSi (W.runS (As := [.int p2, .int (nI o)]) (rest := []) ⟨hx, hb, hml, hown, hts⟩ (c_X4_isKey l p2 o (by omega)) (va_cwS 2 hts gX4_linear_X4_isKey rfl rfl rfl (by decide +kernel) ⟨Nat.le_of_ble_eq_true rfl, Nat.le_of_ble_eq_true rfl⟩) ⟨fun a9 U g9 mk9 q9 => ⟨q9.1, trivial⟩, fun U hU hW => ⟨rfl, trivial⟩⟩ rfl rfl hl.1 rfl (lv_room (Nat.le_of_ble_eq_true rfl)) dX4_linear_35 ⟨Nat.zero_le _, Nat.zero_le _⟩) (fun r_35 hw => ?_)
              try dsimp only at hw
              rcases hw with ⟨hc_35, rfl⟩ | ⟨hc_35, rfl⟩
              · have hkb := isKb_t hc_35
                obtain ⟨k, hk1, hk2, rfl, hk4⟩ := isK_nat hc_35
                refine lv_if_ne (tgt := 44) hx hb dX4_linear_38 (by decide) (fun c_38 => ?_) (fun c_38 => ?_)
                · have c_38 : ¬ 1 = 0 := fun q => c_38 ((nZ_eq (by omega)).mpr q)
                  have hnb : ¬ badL (nI k) (nI x) (nI w) p5 (nI off) (nI o) := by
                    rintro (q | q | q | q | q | q | q)
                    · exact c_2 q
                    · exact c_8 q
                    · exact c_13 q
                    · exact c_17 q
                    · exact c_22 q
                    · exact absurd ((nI_ltI (by omega) (by omega)).mp q) (by omega)
                    · rw [show cl (nI o) = o from nI_clamp (by omega), hkb] at q; exact absurd q (by decide)
                  refine lv_aload_n hx hb dX4_linear_44 rfl (lv_at hl 0 rfl) ?_
                  refine lv_iload_n hx hb dX4_linear_45 rfl (lv_at hl 1 rfl) ?_
                  refine lv_iload_n hx hb dX4_linear_46 rfl (lv_at hl 2 rfl) ?_
                  refine lv_iload hx hb dX4_linear_47 (lv_at hl 7 rfl) ?_
                  have hFc := va_free (wc := mw cI a sz st us kp ga gl cs mem pl ln km ks kt ku kl kn cd wt) hD hS hA [0, 1, 2, 3, 4, 5, 6, 7, 8, 9, 10, 11] rfl
                  refine va_calli (va_runV (As := [.int p1, .int (nI k), .int (nI o)]) (rest := []) ⟨hx, hb, hml, hown, hts⟩ (c_X4_isTaken l dC dI cI a sz st us kp ga gl cs mem pl ln km ks kt ku kl kn cd wt s.heap.size p1 k o (by omega) bmem (by omega) (by omega) hk4 (by omega)) (cwV 3 hts gX4_linear_X4_isTaken rfl rfl rfl (by decide +kernel) ⟨Nat.le_of_ble_eq_true rfl, Nat.le_of_ble_eq_true rfl⟩) ⟨fun a9 U g9 mk9 q9 => by obtain ⟨q0, q1, qP, qK, qD⟩ := q9; exact ⟨q0, q1, qP, va_K.moved (u := U) (U := U.calling g9 mk9 a9) (Vm.Alike.refl U.vm) qK, qD⟩, va_recv hK hP (ci := 4) (q0 := 0) rfl rfl, fun U hU hW => ⟨rfl, by rw [hU], by rw [hU]; exact hP, va_K.moved hW.alike hK, hD.weaken (fun _ _ _ _ => trivial)⟩⟩ rfl rfl hl.1 rfl (lv_room (Nat.le_of_ble_eq_true rfl)) dX4_linear_49 ⟨Nat.zero_le _, Nat.zero_le _⟩) hS (fun q _ h => hFc q h) hFc (fun r_49 u t H1 locs ht hvm hw hB hz1 hk1 hS => ?_)
                  obtain ⟨hP1, hK1, hD1⟩ := hB
                  rw [ht] at hP1
                  obtain ⟨hP, hD⟩ := va_join (wr := []) (w1 := mw cI a sz st us kp ga gl cs mem pl ln km ks kt ku kl kn cd (tkW sz mem p1 k o wt)) hP hD [0, 1, 2, 3, 4, 5, 6, 7, 8, 9, 10, 11] [] rfl rfl (by decide) (by decide) hk1 hFc hP1 hD1
                  generalize H1 = H at hP hS ⊢
                  have hP : va_P (dC, dI) vwCl (mw cI a sz st us kp ga gl cs mem pl ln km ks kt ku kl kn cd (tkW sz mem p1 k o wt)) H := hP
                  have hD : va_D A (mw cI a sz st us kp ga gl cs mem pl ln km ks kt ku kl kn cd (tkW sz mem p1 k o wt)) := hD
                  have btk : ∀ j, (tkW sz mem p1 k o wt) j < 256 := fun j => tkW_lt bmem bwt _ _ _ j
                  rcases hw with ⟨htk, rfl⟩ | ⟨htk, rfl⟩
                  · have hcm := cmp_ky (wt := wt) (mem := mem) htk
                    refine lv_if_ne (tgt := 58) hx hb dX4_linear_52 (by decide) (fun c_52 => ?_) (fun c_52 => ?_)
                    · have c_52 : ¬ 1 = 0 := fun q => c_52 ((nZ_eq (by omega)).mpr q)
                      refine lv_iload hx hb dX4_linear_58 (lv_at hl 7 rfl) ?_
                      refine lv_iconst (v := (nI 4)) hx hb dX4_linear_60 (by decide) ?_
                      refine lv_icmp_lt (tgt := 68) hx hb dX4_linear_61 (by decide) (fun c_61 => ?_) (fun c_61 => ?_)
                      · have c_61 : o < 4 := (nI_ltI (a := o) (b := 4) (by omega) (by omega)).mp c_61
                        refine lv_iconst (v := (nI 0)) hx hb dX4_linear_68 (by decide) ?_
                        refine lv_istore (lv' := [(8, .int (nI 0)), (0, .ref (a 0)), (1, .int p1), (2, .int (nI k)), (3, .int (nI x)), (4, .int (nI w)), (5, .int p5), (6, .int (nI off)), (7, .int (nI o))]) hx hb dX4_linear_69 hl (by decide) rfl (fun ls hl => ?_)
                        refine lv_iconst (v := (nI 0)) hx hb dX4_linear_71 (by decide) ?_
                        refine lv_istore (lv' := [(9, .int (nI 0)), (8, .int (nI 0)), (0, .ref (a 0)), (1, .int p1), (2, .int (nI k)), (3, .int (nI x)), (4, .int (nI w)), (5, .int p5), (6, .int (nI off)), (7, .int (nI o))]) hx hb dX4_linear_72 hl (by decide) rfl (fun ls hl => ?_)
                        rcases gem1 c_8 with rfl | ⟨nn, n_nn, rfl⟩
                        · obtain ⟨nn, hnn⟩ : ∃ q : Nat, q = 3001 := ⟨_, rfl⟩
                          have hnl : nnl (-1) = nn := by unfold nnl; rw [if_pos rfl, hnn]
                          have hR : lnR sz mem p1 (nI k) (nI x) (nI w) (-1) (nI off) (nI o) = lnF sz mem (ky mem p1 k o) k x w nn off o 3001 0 := by unfold lnR; rw [if_neg hnb, show cl (nI k) = k from nI_clamp (by omega), show cl (nI x) = x from nI_clamp (by omega), show cl (nI w) = w from nI_clamp (by omega), show cl (nI off) = off from nI_clamp (by omega), show cl (nI o) = o from nI_clamp (by omega), if_neg (fun q => q htk), hnl]
                          refine lp_still (σ := Nat) (fun i => i ≤ 3000 ∧ lnF sz mem (ky mem p1 k o) k x w nn off o 3001 0 = lnF sz mem (ky mem p1 k o) k x w nn off o (3001 - i) i) (fun i => 3001 - i) (fun i => [(9, .int (nI i)), (8, .int (nI 0)), (0, .ref (a 0)), (1, .int p1), (2, .int (nI k)), (3, .int (nI x)), (4, .int (nI w)), (5, .int ((-1))), (6, .int (nI off)), (7, .int (nI o))]) ?_ 0 (⟨by omega, rfl⟩) (lv_sub hl [0, 1, 2, 3, 4, 5, 6, 7, 8, 9] rfl)
                          intro i hI ih ls hl
                          have hl : lv_has ls 13 [(9, .int (nI i)), (8, .int (nI 0)), (0, .ref (a 0)), (1, .int p1), (2, .int (nI k)), (3, .int (nI x)), (4, .int (nI w)), (5, .int ((-1))), (6, .int (nI off)), (7, .int (nI o))] := hl
                          have hI : i ≤ 3000 ∧ lnF sz mem (ky mem p1 k o) k x w nn off o 3001 0 = lnF sz mem (ky mem p1 k o) k x w nn off o (3001 - i) i := hI
                          obtain ⟨hi, hv⟩ := hI
                          have ih_74 := ih
                          refine lv_iload hx hb dX4_linear_74 (lv_at hl 7 rfl) ?_
                          refine lv_iconst (v := ((-1))) hx hb dX4_linear_76 (by decide) ?_
                          refine lv_icmp_eq (tgt := 87) hx hb dX4_linear_77 (by decide) (fun c_77 => ?_) (fun c_77 => ?_)
                          · refine lv_iload hx hb dX4_linear_87 (lv_at hl 0 rfl) ?_
                            refine lv_sipush (v := (nI 3000)) hx hb dX4_linear_89 (by decide) ?_
                            refine lv_icmp_ne (tgt := 98) hx hb dX4_linear_92 (by decide) (fun c_92 => ?_) (fun c_92 => ?_)
                            · have c_92 : ¬ i = 3000 := fun q => c_92 ((nI_eq (a := i) (b := 3000) (by omega) (by omega)).mpr q)
                              have hiw : i * w ≤ 3000 * 2147483647 := Nat.mul_le_mul (by omega) (by omega)
                              refine lv_iload_n hx hb dX4_linear_98 rfl (lv_at hl 5 rfl) ?_
                              refine lv_i2l (v := lN x) hx hb dX4_linear_99 (nI_l (by omega)) ?_
                              refine lv_iload hx hb dX4_linear_100 (lv_at hl 0 rfl) ?_
                              refine lv_i2l (v := lN i) hx hb dX4_linear_102 (nI_l (by omega)) ?_
                              refine lv_iload hx hb dX4_linear_103 (lv_at hl 6 rfl) ?_
                              refine lv_i2l (v := lN w) hx hb dX4_linear_105 (nI_l (by omega)) ?_
                              refine lv_lmul hx hb dX4_linear_106 ?_
                              refine tpl (lN_mul _ _) ?_
                              refine lv_ladd hx hb dX4_linear_107 ?_
                              refine tpl (lN_add _ _) ?_
                              refine lv_lstore (lv' := [(10, .long (lN (x + (i * w)))), (9, .int (nI i)), (8, .int (nI 0)), (0, .ref (a 0)), (1, .int p1), (2, .int (nI k)), (3, .int (nI x)), (4, .int (nI w)), (5, .int ((-1))), (6, .int (nI off)), (7, .int (nI o))]) hx hb dX4_linear_108 hl (by decide) rfl (fun ls hl => ?_)
                              refine lv_aload_n hx hb dX4_linear_110 rfl (lv_at hl 3 rfl) ?_
                              refine lv_lload hx hb dX4_linear_111 (lv_at hl 0 rfl) ?_
                              refine lv_iload hx hb dX4_linear_113 (lv_at hl 9 rfl) ?_
                              refine lv_i2l (v := lN off) hx hb dX4_linear_115 (nI_l (by omega)) ?_
                              refine lv_ladd hx hb dX4_linear_116 ?_
                              refine tpl (lN_add _ _) ?_
                              refine lv_iload_n hx hb dX4_linear_117 rfl (lv_at hl 5 rfl) ?_
                              refine lv_i2l (v := lN k) hx hb dX4_linear_118 (nI_l (by omega)) ?_
                              refine vp_callSi (W.runV (As := [.long (lN (x + (i * w) + off)), .long (lN k)]) (rest := []) ⟨hx, hb, hml, hown, hts⟩ (c_X4_isIn l dC dI cI a sz st us kp ga gl cs mem pl ln km ks kt ku kl kn cd (tkW sz mem p1 k o wt) (x + (i * w) + off) k (by omega) (by omega) (by omega)) (cwV 2 hts gX4_linear_X4_isIn rfl rfl rfl (by decide +kernel) ⟨Nat.le_of_ble_eq_true rfl, Nat.le_of_ble_eq_true rfl⟩) ⟨fun a9 U g9 mk9 q9 => by obtain ⟨q0, qP, qK⟩ := q9; exact ⟨q0, qP, va_K.moved (u := U) (U := U.calling g9 mk9 a9) (Vm.Alike.refl U.vm) qK⟩, va_recv hK hP (ci := 4) (q0 := 0) rfl rfl, fun U hU hW => ⟨rfl, by rw [hU]; exact hP, va_K.moved hW.alike hK⟩⟩ rfl rfl hl.1 rfl (lv_room (Nat.le_of_ble_eq_true rfl)) dX4_linear_119 ⟨Nat.zero_le _, Nat.zero_le _⟩) (fun r_119 hw => ?_)
                              try dsimp only at hw
                              rcases hw with ⟨hc_119, rfl⟩ | ⟨hc_119, rfl⟩
                              · skip
                                refine lv_if_ne (tgt := 128) hx hb dX4_linear_122 (by decide) (fun c_122 => ?_) (fun c_122 => ?_)
                                · have c_122 : ¬ 1 = 0 := fun q => c_122 ((nZ_eq (by omega)).mpr q)
                                  refine lv_iload_n hx hb dX4_linear_128 rfl (lv_at hl 5 rfl) ?_
                                  refine lv_if_ne (tgt := 136) hx hb dX4_linear_129 (by decide) (fun c_129 => ?_) (fun c_129 => ?_)
                                  · have c_129 : ¬ k = 0 := fun q => c_129 ((nZ_eq (by omega)).mpr q)
                                    refine lv_lload hx hb dX4_linear_136 (lv_at hl 0 rfl) ?_
                                    refine lv_iload hx hb dX4_linear_138 (lv_at hl 9 rfl) ?_
                                    refine lv_i2l (v := lN off) hx hb dX4_linear_140 (nI_l (by omega)) ?_
                                    refine lv_ladd hx hb dX4_linear_141 ?_
                                    refine tpl (lN_add _ _) ?_
                                    refine lv_l2i (v := nI (x + (i * w) + off)) hx hb dX4_linear_142 (lN_i _) ?_
                                    refine lv_istore (lv' := [(12, .int (nI (x + (i * w) + off))), (10, .long (lN (x + (i * w)))), (9, .int (nI i)), (8, .int (nI 0)), (0, .ref (a 0)), (1, .int p1), (2, .int (nI k)), (3, .int (nI x)), (4, .int (nI w)), (5, .int ((-1))), (6, .int (nI off)), (7, .int (nI o))]) hx hb dX4_linear_143 hl (by decide) rfl (fun ls hl => ?_)
                                    refine lv_aload_n hx hb dX4_linear_145 rfl (lv_at hl 4 rfl) ?_
                                    refine lv_iload hx hb dX4_linear_146 (lv_at hl 0 rfl) ?_
                                    refine lv_iload_n hx hb dX4_linear_148 rfl (lv_at hl 6 rfl) ?_
                                    refine vp_callSi (W.runV (As := [.int (nI (x + (i * w) + off)), .int (nI k)]) (rest := []) ⟨hx, hb, hml, hown, hts⟩ (c_X4_compare l dC dI cI a sz st us kp ga gl cs mem pl ln km ks kt ku kl kn cd (tkW sz mem p1 k o wt) (x + (i * w) + off) k (by omega) (by omega) bmem btk) (cwV 2 hts gX4_linear_X4_compare rfl rfl rfl (by decide +kernel) ⟨Nat.le_of_ble_eq_true rfl, Nat.le_of_ble_eq_true rfl⟩) ⟨fun a9 U g9 mk9 q9 => by obtain ⟨q0, qP, qK⟩ := q9; exact ⟨q0, qP, va_K.moved (u := U) (U := U.calling g9 mk9 a9) (Vm.Alike.refl U.vm) qK⟩, va_recv hK hP (ci := 4) (q0 := 0) rfl rfl, fun U hU hW => ⟨rfl, by rw [hU]; exact hP, va_K.moved hW.alike hK⟩⟩ rfl rfl hl.1 rfl (lv_room (Nat.le_of_ble_eq_true rfl)) dX4_linear_149 ⟨Nat.zero_le _, Nat.zero_le _⟩) (fun r_149 hw => ?_)
                                    try dsimp only at hw
                                    rcases hw with ⟨hc_149, rfl⟩ | ⟨hc_149, rfl⟩ | ⟨hc_149, rfl⟩
                                    · rw [hcm] at hc_149
                                      refine lv_if_ne (tgt := 169) hx hb dX4_linear_152 (by decide) (fun c_152 => ?_) (fun c_152 => ?_)
                                      · exact absurd c_152 (by decide)
                                      · have c_152 : 0 = 0 := (nZ_eq (by omega)).mp c_152
                                        refine lv_iload hx hb dX4_linear_155 (lv_at hl 3 rfl) ?_
                                        refine lv_if_eq (tgt := 165) hx hb dX4_linear_157 (by decide) (fun c_157 => ?_) (fun c_157 => ?_)
                                        · have c_157 : 0 = 0 := (nZ_eq (by omega)).mp c_157
                                          refine lv_lload hx hb dX4_linear_165 (lv_at hl 1 rfl) ?_
                                          refine lv_l2i (v := nI (x + (i * w))) hx hb dX4_linear_167 (lN_i _) ?_
                                          have e_wt : tkW sz mem p1 k o wt = lnW sz mem wt p1 (nI k) (nI x) (nI w) (-1) (nI off) (nI o) := by unfold lnW; rw [if_neg hnb, show cl (nI k) = k from nI_clamp (by omega), show cl (nI o) = o from nI_clamp (by omega)]
                                          have hP : va_P (dC, dI) vwCl (mw cI a sz st us kp ga gl cs mem pl ln km ks kt ku kl kn cd (lnW sz mem wt p1 (nI k) (nI x) (nI w) (-1) (nI off) (nI o))) H := by rw [← e_wt]; exact hP
                                          have hD : va_D A (mw cI a sz st us kp ga gl cs mem pl ln km ks kt ku kl kn cd (lnW sz mem wt p1 (nI k) (nI x) (nI w) (-1) (nI off) (nI o))) := by rw [← e_wt]; exact hD
                                          exact W.iret (v := (nI (x + (i * w)))) hx hb hr (fun t ht hW => ⟨⟨(nI (x + (i * w))), (), rfl, (show (nI (x + (i * w))) = lnR sz mem p1 (nI k) (nI x) (nI w) (-1) (nI off) (nI o) from by rw [hR, hv, lnF_s (by omega), if_neg (by omega), if_neg (by omega), if_neg (by omega), if_pos hc_149, if_neg (by omega)]), by rw [ht]; exact hP, va_K.moved hW.alike hK, hD⟩, hS.F ht⟩) hS.2.2 dX4_linear_168
                                        · exact absurd c_157 (by decide)
                                    · rw [hcm] at hc_149
                                      refine lv_if_ne (tgt := 169) hx hb dX4_linear_152 (by decide) (fun c_152 => ?_) (fun c_152 => ?_)
                                      · refine lv_iload hx hb dX4_linear_169 (lv_at hl 11 rfl) ?_
                                        refine lv_iconst (v := (nI 2)) hx hb dX4_linear_171 (by decide) ?_
                                        refine lv_iand hx hb dX4_linear_172 ?_
                                        refine tpi (and2 (by omega)) ?_
                                        refine lv_iconst (v := (nI 2)) hx hb dX4_linear_173 (by decide) ?_
                                        refine lv_icmp_ne (tgt := 198) hx hb dX4_linear_174 (by decide) (fun c_174 => ?_) (fun c_174 => ?_)
                                        · have c_174 : ¬ o / 2 % 2 * 2 = 2 := fun q => c_174 ((nI_eq (a := o / 2 % 2 * 2) (b := 2) (by omega) (by omega)).mpr q)
                                          refine lv_iinc (v := (nI (i + 1))) (lv' := [(9, .int (nI (i + 1))), (12, .int (nI (x + (i * w) + off))), (10, .long (lN (x + (i * w)))), (8, .int (nI 0)), (0, .ref (a 0)), (1, .int p1), (2, .int (nI k)), (3, .int (nI x)), (4, .int (nI w)), (5, .int ((-1))), (6, .int (nI off)), (7, .int (nI o))]) hx hb dX4_linear_198 hl (k := 2) rfl (nI_inc _) (by decide) rfl (fun ls hl => ?_)
                                          refine lv_goto (tgt := 74) hx hb dX4_linear_201 (by decide) ?_
                                          exact ih_74 (i + 1) (⟨by omega, by rw [hv, lnF_s (by omega), if_neg (by omega), if_neg (by omega), if_neg (by omega), if_neg (by rw [hc_149]; decide), if_neg (fun q => absurd q.1 (by omega))]⟩) (show 3001 - (i + 1) < 3001 - i by omega) ls (lv_sub hl [0, 3, 4, 5, 6, 7, 8, 9, 10, 11] rfl)
                                        · have c_174 : o / 2 % 2 * 2 = 2 := (nI_eq (a := o / 2 % 2 * 2) (b := 2) (by omega) (by omega)).mp c_174
                                          refine lv_aload_n hx hb dX4_linear_177 rfl (lv_at hl 4 rfl) ?_
                                          refine lv_iload hx hb dX4_linear_178 (lv_at hl 0 rfl) ?_
                                          refine lv_iload_n hx hb dX4_linear_180 rfl (lv_at hl 6 rfl) ?_
                                          refine vp_callSi (W.runV (As := [.int (nI (x + (i * w) + off)), .int (nI k)]) (rest := []) ⟨hx, hb, hml, hown, hts⟩ (c_X4_isZero l dC dI cI a sz st us kp ga gl cs mem pl ln km ks kt ku kl kn cd (tkW sz mem p1 k o wt) (x + (i * w) + off) k (by omega) (by omega) bmem) (cwV 2 hts gX4_linear_X4_isZero rfl rfl rfl (by decide +kernel) ⟨Nat.le_of_ble_eq_true rfl, Nat.le_of_ble_eq_true rfl⟩) ⟨fun a9 U g9 mk9 q9 => by obtain ⟨q0, qP, qK⟩ := q9; exact ⟨q0, qP, va_K.moved (u := U) (U := U.calling g9 mk9 a9) (Vm.Alike.refl U.vm) qK⟩, va_recv hK hP (ci := 4) (q0 := 0) rfl rfl, fun U hU hW => ⟨rfl, by rw [hU]; exact hP, va_K.moved hW.alike hK⟩⟩ rfl rfl hl.1 rfl (lv_room (Nat.le_of_ble_eq_true rfl)) dX4_linear_181 ⟨Nat.zero_le _, Nat.zero_le _⟩) (fun r_181 hw => ?_)
                                          try dsimp only at hw
                                          rcases hw with ⟨hc_181, rfl⟩ | ⟨hc_181, rfl⟩
                                          · skip
                                            refine lv_if_eq (tgt := 198) hx hb dX4_linear_184 (by decide) (fun c_184 => ?_) (fun c_184 => ?_)
                                            · exact absurd c_184 (by decide)
                                            · have c_184 : ¬ 1 = 0 := fun q => c_184 ((nZ_eq (by omega)).mpr q)
                                              refine lv_iload hx hb dX4_linear_187 (lv_at hl 3 rfl) ?_
                                              refine lv_if_eq (tgt := 196) hx hb dX4_linear_189 (by decide) (fun c_189 => ?_) (fun c_189 => ?_)
                                              · have c_189 : 0 = 0 := (nZ_eq (by omega)).mp c_189
                                                refine lv_iconst (v := (nI 0)) hx hb dX4_linear_196 (by decide) ?_
                                                have e_wt : tkW sz mem p1 k o wt = lnW sz mem wt p1 (nI k) (nI x) (nI w) (-1) (nI off) (nI o) := by unfold lnW; rw [if_neg hnb, show cl (nI k) = k from nI_clamp (by omega), show cl (nI o) = o from nI_clamp (by omega)]
                                                have hP : va_P (dC, dI) vwCl (mw cI a sz st us kp ga gl cs mem pl ln km ks kt ku kl kn cd (lnW sz mem wt p1 (nI k) (nI x) (nI w) (-1) (nI off) (nI o))) H := by rw [← e_wt]; exact hP
                                                have hD : va_D A (mw cI a sz st us kp ga gl cs mem pl ln km ks kt ku kl kn cd (lnW sz mem wt p1 (nI k) (nI x) (nI w) (-1) (nI off) (nI o))) := by rw [← e_wt]; exact hD
                                                exact W.iret (v := (nI 0)) hx hb hr (fun t ht hW => ⟨⟨(nI 0), (), rfl, (show (nI 0) = lnR sz mem p1 (nI k) (nI x) (nI w) (-1) (nI off) (nI o) from by rw [hR, hv, lnF_s (by omega), if_neg (by omega), if_neg (by omega), if_neg (by omega), if_neg (by rw [hc_149]; decide), if_pos ⟨by omega, allZb_t hc_181⟩]; unfold noA; rw [if_neg (by omega)]), by rw [ht]; exact hP, va_K.moved hW.alike hK, hD⟩, hS.F ht⟩) hS.2.2 dX4_linear_197
                                              · exact absurd c_189 (by decide)
                                          · skip
                                            refine lv_if_eq (tgt := 198) hx hb dX4_linear_184 (by decide) (fun c_184 => ?_) (fun c_184 => ?_)
                                            · have c_184 : 0 = 0 := (nZ_eq (by omega)).mp c_184
                                              refine lv_iinc (v := (nI (i + 1))) (lv' := [(9, .int (nI (i + 1))), (12, .int (nI (x + (i * w) + off))), (10, .long (lN (x + (i * w)))), (8, .int (nI 0)), (0, .ref (a 0)), (1, .int p1), (2, .int (nI k)), (3, .int (nI x)), (4, .int (nI w)), (5, .int ((-1))), (6, .int (nI off)), (7, .int (nI o))]) hx hb dX4_linear_198 hl (k := 2) rfl (nI_inc _) (by decide) rfl (fun ls hl => ?_)
                                              refine lv_goto (tgt := 74) hx hb dX4_linear_201 (by decide) ?_
                                              exact ih_74 (i + 1) (⟨by omega, by rw [hv, lnF_s (by omega), if_neg (by omega), if_neg (by omega), if_neg (by omega), if_neg (by rw [hc_149]; decide), if_neg (fun q => by rw [allZb_f hc_181] at q; exact absurd q.2 (by decide))]⟩) (show 3001 - (i + 1) < 3001 - i by omega) ls (lv_sub hl [0, 3, 4, 5, 6, 7, 8, 9, 10, 11] rfl)
                                            · exact absurd c_184 (by decide)
                                      · exact absurd c_152 (by decide)
                                    · rw [hcm] at hc_149
                                      refine lv_if_ne (tgt := 169) hx hb dX4_linear_152 (by decide) (fun c_152 => ?_) (fun c_152 => ?_)
                                      · have c_152 : ¬ 1 = 0 := fun q => c_152 ((nZ_eq (by omega)).mpr q)
                                        refine lv_iload hx hb dX4_linear_169 (lv_at hl 11 rfl) ?_
                                        refine lv_iconst (v := (nI 2)) hx hb dX4_linear_171 (by decide) ?_
                                        refine lv_iand hx hb dX4_linear_172 ?_
                                        refine tpi (and2 (by omega)) ?_
                                        refine lv_iconst (v := (nI 2)) hx hb dX4_linear_173 (by decide) ?_
                                        refine lv_icmp_ne (tgt := 198) hx hb dX4_linear_174 (by decide) (fun c_174 => ?_) (fun c_174 => ?_)
                                        · have c_174 : ¬ o / 2 % 2 * 2 = 2 := fun q => c_174 ((nI_eq (a := o / 2 % 2 * 2) (b := 2) (by omega) (by omega)).mpr q)
                                          refine lv_iinc (v := (nI (i + 1))) (lv' := [(9, .int (nI (i + 1))), (12, .int (nI (x + (i * w) + off))), (10, .long (lN (x + (i * w)))), (8, .int (nI 0)), (0, .ref (a 0)), (1, .int p1), (2, .int (nI k)), (3, .int (nI x)), (4, .int (nI w)), (5, .int ((-1))), (6, .int (nI off)), (7, .int (nI o))]) hx hb dX4_linear_198 hl (k := 2) rfl (nI_inc _) (by decide) rfl (fun ls hl => ?_)
                                          refine lv_goto (tgt := 74) hx hb dX4_linear_201 (by decide) ?_
                                          exact ih_74 (i + 1) (⟨by omega, by rw [hv, lnF_s (by omega), if_neg (by omega), if_neg (by omega), if_neg (by omega), if_neg (by rw [hc_149]; decide), if_neg (fun q => absurd q.1 (by omega))]⟩) (show 3001 - (i + 1) < 3001 - i by omega) ls (lv_sub hl [0, 3, 4, 5, 6, 7, 8, 9, 10, 11] rfl)
                                        · have c_174 : o / 2 % 2 * 2 = 2 := (nI_eq (a := o / 2 % 2 * 2) (b := 2) (by omega) (by omega)).mp c_174
                                          refine lv_aload_n hx hb dX4_linear_177 rfl (lv_at hl 4 rfl) ?_
                                          refine lv_iload hx hb dX4_linear_178 (lv_at hl 0 rfl) ?_
                                          refine lv_iload_n hx hb dX4_linear_180 rfl (lv_at hl 6 rfl) ?_
                                          refine vp_callSi (W.runV (As := [.int (nI (x + (i * w) + off)), .int (nI k)]) (rest := []) ⟨hx, hb, hml, hown, hts⟩ (c_X4_isZero l dC dI cI a sz st us kp ga gl cs mem pl ln km ks kt ku kl kn cd (tkW sz mem p1 k o wt) (x + (i * w) + off) k (by omega) (by omega) bmem) (cwV 2 hts gX4_linear_X4_isZero rfl rfl rfl (by decide +kernel) ⟨Nat.le_of_ble_eq_true rfl, Nat.le_of_ble_eq_true rfl⟩) ⟨fun a9 U g9 mk9 q9 => by obtain ⟨q0, qP, qK⟩ := q9; exact ⟨q0, qP, va_K.moved (u := U) (U := U.calling g9 mk9 a9) (Vm.Alike.refl U.vm) qK⟩, va_recv hK hP (ci := 4) (q0 := 0) rfl rfl, fun U hU hW => ⟨rfl, by rw [hU]; exact hP, va_K.moved hW.alike hK⟩⟩ rfl rfl hl.1 rfl (lv_room (Nat.le_of_ble_eq_true rfl)) dX4_linear_181 ⟨Nat.zero_le _, Nat.zero_le _⟩) (fun r_181 hw => ?_)
                                          try dsimp only at hw
                                          rcases hw with ⟨hc_181, rfl⟩ | ⟨hc_181, rfl⟩
                                          · skip
                                            refine lv_if_eq (tgt := 198) hx hb dX4_linear_184 (by decide) (fun c_184 => ?_) (fun c_184 => ?_)
                                            · exact absurd c_184 (by decide)
                                            · have c_184 : ¬ 1 = 0 := fun q => c_184 ((nZ_eq (by omega)).mpr q)
                                              refine lv_iload hx hb dX4_linear_187 (lv_at hl 3 rfl) ?_
                                              refine lv_if_eq (tgt := 196) hx hb dX4_linear_189 (by decide) (fun c_189 => ?_) (fun c_189 => ?_)
                                              · have c_189 : 0 = 0 := (nZ_eq (by omega)).mp c_189
                                                refine lv_iconst (v := (nI 0)) hx hb dX4_linear_196 (by decide) ?_
                                                have e_wt : tkW sz mem p1 k o wt = lnW sz mem wt p1 (nI k) (nI x) (nI w) (-1) (nI off) (nI o) := by unfold lnW; rw [if_neg hnb, show cl (nI k) = k from nI_clamp (by omega), show cl (nI o) = o from nI_clamp (by omega)]
                                                have hP : va_P (dC, dI) vwCl (mw cI a sz st us kp ga gl cs mem pl ln km ks kt ku kl kn cd (lnW sz mem wt p1 (nI k) (nI x) (nI w) (-1) (nI off) (nI o))) H := by rw [← e_wt]; exact hP
                                                have hD : va_D A (mw cI a sz st us kp ga gl cs mem pl ln km ks kt ku kl kn cd (lnW sz mem wt p1 (nI k) (nI x) (nI w) (-1) (nI off) (nI o))) := by rw [← e_wt]; exact hD
                                                exact W.iret (v := (nI 0)) hx hb hr (fun t ht hW => ⟨⟨(nI 0), (), rfl, (show (nI 0) = lnR sz mem p1 (nI k) (nI x) (nI w) (-1) (nI off) (nI o) from by rw [hR, hv, lnF_s (by omega), if_neg (by omega), if_neg (by omega), if_neg (by omega), if_neg (by rw [hc_149]; decide), if_pos ⟨by omega, allZb_t hc_181⟩]; unfold noA; rw [if_neg (by omega)]), by rw [ht]; exact hP, va_K.moved hW.alike hK, hD⟩, hS.F ht⟩) hS.2.2 dX4_linear_197
                                              · exact absurd c_189 (by decide)
                                          · skip
                                            refine lv_if_eq (tgt := 198) hx hb dX4_linear_184 (by decide) (fun c_184 => ?_) (fun c_184 => ?_)
                                            · have c_184 : 0 = 0 := (nZ_eq (by omega)).mp c_184
                                              refine lv_iinc (v := (nI (i + 1))) (lv' := [(9, .int (nI (i + 1))), (12, .int (nI (x + (i * w) + off))), (10, .long (lN (x + (i * w)))), (8, .int (nI 0)), (0, .ref (a 0)), (1, .int p1), (2, .int (nI k)), (3, .int (nI x)), (4, .int (nI w)), (5, .int ((-1))), (6, .int (nI off)), (7, .int (nI o))]) hx hb dX4_linear_198 hl (k := 2) rfl (nI_inc _) (by decide) rfl (fun ls hl => ?_)
                                              refine lv_goto (tgt := 74) hx hb dX4_linear_201 (by decide) ?_
                                              exact ih_74 (i + 1) (⟨by omega, by rw [hv, lnF_s (by omega), if_neg (by omega), if_neg (by omega), if_neg (by omega), if_neg (by rw [hc_149]; decide), if_neg (fun q => by rw [allZb_f hc_181] at q; exact absurd q.2 (by decide))]⟩) (show 3001 - (i + 1) < 3001 - i by omega) ls (lv_sub hl [0, 3, 4, 5, 6, 7, 8, 9, 10, 11] rfl)
                                            · exact absurd c_184 (by decide)
                                      · exact absurd c_152 (by decide)
                                  · have c_129 : k = 0 := (nZ_eq (by omega)).mp c_129
                                    omega
                                · exact absurd c_122 (by decide)
                              · skip
                                refine lv_if_ne (tgt := 128) hx hb dX4_linear_122 (by decide) (fun c_122 => ?_) (fun c_122 => ?_)
                                · exact absurd c_122 (by decide)
                                · have c_122 : 0 = 0 := (nZ_eq (by omega)).mp c_122
                                  refine lv_bipush (v := ((-12))) hx hb dX4_linear_125 (by decide) ?_
                                  have e_wt : tkW sz mem p1 k o wt = lnW sz mem wt p1 (nI k) (nI x) (nI w) (-1) (nI off) (nI o) := by unfold lnW; rw [if_neg hnb, show cl (nI k) = k from nI_clamp (by omega), show cl (nI o) = o from nI_clamp (by omega)]
                                  have hP : va_P (dC, dI) vwCl (mw cI a sz st us kp ga gl cs mem pl ln km ks kt ku kl kn cd (lnW sz mem wt p1 (nI k) (nI x) (nI w) (-1) (nI off) (nI o))) H := by rw [← e_wt]; exact hP
                                  have hD : va_D A (mw cI a sz st us kp ga gl cs mem pl ln km ks kt ku kl kn cd (lnW sz mem wt p1 (nI k) (nI x) (nI w) (-1) (nI off) (nI o))) := by rw [← e_wt]; exact hD
                                  exact W.iret (v := ((-12))) hx hb hr (fun t ht hW => ⟨⟨((-12)), (), rfl, (show ((-12)) = lnR sz mem p1 (nI k) (nI x) (nI w) (-1) (nI off) (nI o) from by rw [hR, hv, lnF_s (by omega), if_neg (by omega), if_neg (by omega), if_pos (by omega)]), by rw [ht]; exact hP, va_K.moved hW.alike hK, hD⟩, hS.F ht⟩) hS.2.2 dX4_linear_127
                            · have c_92 : i = 3000 := (nI_eq (a := i) (b := 3000) (by omega) (by omega)).mp c_92
                              refine lv_bipush (v := ((-16))) hx hb dX4_linear_95 (by decide) ?_
                              have e_wt : tkW sz mem p1 k o wt = lnW sz mem wt p1 (nI k) (nI x) (nI w) (-1) (nI off) (nI o) := by unfold lnW; rw [if_neg hnb, show cl (nI k) = k from nI_clamp (by omega), show cl (nI o) = o from nI_clamp (by omega)]
                              have hP : va_P (dC, dI) vwCl (mw cI a sz st us kp ga gl cs mem pl ln km ks kt ku kl kn cd (lnW sz mem wt p1 (nI k) (nI x) (nI w) (-1) (nI off) (nI o))) H := by rw [← e_wt]; exact hP
                              have hD : va_D A (mw cI a sz st us kp ga gl cs mem pl ln km ks kt ku kl kn cd (lnW sz mem wt p1 (nI k) (nI x) (nI w) (-1) (nI off) (nI o))) := by rw [← e_wt]; exact hD
                              exact W.iret (v := ((-16))) hx hb hr (fun t ht hW => ⟨⟨((-16)), (), rfl, (show ((-16)) = lnR sz mem p1 (nI k) (nI x) (nI w) (-1) (nI off) (nI o) from by rw [hR, hv, lnF_s (by omega), if_neg (by omega), if_pos (by omega)]), by rw [ht]; exact hP, va_K.moved hW.alike hK, hD⟩, hS.F ht⟩) hS.2.2 dX4_linear_97
                          · exact absurd c_77 (by decide)
                        · have hnl : nnl (nI nn) = nn := by unfold nnl; rw [if_neg (nI_m1 n_nn)]; exact nI_clamp n_nn
                          have hR : lnR sz mem p1 (nI k) (nI x) (nI w) (nI nn) (nI off) (nI o) = lnF sz mem (ky mem p1 k o) k x w nn off o 3001 0 := by unfold lnR; rw [if_neg hnb, show cl (nI k) = k from nI_clamp (by omega), show cl (nI x) = x from nI_clamp (by omega), show cl (nI w) = w from nI_clamp (by omega), show cl (nI off) = off from nI_clamp (by omega), show cl (nI o) = o from nI_clamp (by omega), if_neg (fun q => q htk), hnl]
                          refine lp_still (σ := Nat) (fun i => i ≤ 3000 ∧ lnF sz mem (ky mem p1 k o) k x w nn off o 3001 0 = lnF sz mem (ky mem p1 k o) k x w nn off o (3001 - i) i) (fun i => 3001 - i) (fun i => [(9, .int (nI i)), (8, .int (nI 0)), (0, .ref (a 0)), (1, .int p1), (2, .int (nI k)), (3, .int (nI x)), (4, .int (nI w)), (5, .int (nI nn)), (6, .int (nI off)), (7, .int (nI o))]) ?_ 0 (⟨by omega, rfl⟩) (lv_sub hl [0, 1, 2, 3, 4, 5, 6, 7, 8, 9] rfl)
                          intro i hI ih ls hl
                          have hl : lv_has ls 13 [(9, .int (nI i)), (8, .int (nI 0)), (0, .ref (a 0)), (1, .int p1), (2, .int (nI k)), (3, .int (nI x)), (4, .int (nI w)), (5, .int (nI nn)), (6, .int (nI off)), (7, .int (nI o))] := hl
                          have hI : i ≤ 3000 ∧ lnF sz mem (ky mem p1 k o) k x w nn off o 3001 0 = lnF sz mem (ky mem p1 k o) k x w nn off o (3001 - i) i := hI
                          obtain ⟨hi, hv⟩ := hI
                          have ih_74 := ih
                          refine lv_iload hx hb dX4_linear_74 (lv_at hl 7 rfl) ?_
                          refine lv_iconst (v := ((-1))) hx hb dX4_linear_76 (by decide) ?_
                          refine lv_icmp_eq (tgt := 87) hx hb dX4_linear_77 (by decide) (fun c_77 => ?_) (fun c_77 => ?_)
                          · skip
                            exact absurd c_77 (nI_m1 n_nn)
                          · refine lv_iload hx hb dX4_linear_80 (lv_at hl 0 rfl) ?_
                            refine lv_iload hx hb dX4_linear_82 (lv_at hl 7 rfl) ?_
                            refine lv_icmp_ge (tgt := 204) hx hb dX4_linear_84 (by decide) (fun c_84 => ?_) (fun c_84 => ?_)
                            · have c_84 : nn ≤ i := (nI_leI (a := nn) (b := i) (by omega) (by omega)).mp c_84
                              refine lv_iload hx hb dX4_linear_204 (lv_at hl 1 rfl) ?_
                              refine lv_if_eq (tgt := 213) hx hb dX4_linear_206 (by decide) (fun c_206 => ?_) (fun c_206 => ?_)
                              · have c_206 : 0 = 0 := (nZ_eq (by omega)).mp c_206
                                refine lv_iconst (v := (nI 0)) hx hb dX4_linear_213 (by decide) ?_
                                have e_wt : tkW sz mem p1 k o wt = lnW sz mem wt p1 (nI k) (nI x) (nI w) (nI nn) (nI off) (nI o) := by unfold lnW; rw [if_neg hnb, show cl (nI k) = k from nI_clamp (by omega), show cl (nI o) = o from nI_clamp (by omega)]
                                have hP : va_P (dC, dI) vwCl (mw cI a sz st us kp ga gl cs mem pl ln km ks kt ku kl kn cd (lnW sz mem wt p1 (nI k) (nI x) (nI w) (nI nn) (nI off) (nI o))) H := by rw [← e_wt]; exact hP
                                have hD : va_D A (mw cI a sz st us kp ga gl cs mem pl ln km ks kt ku kl kn cd (lnW sz mem wt p1 (nI k) (nI x) (nI w) (nI nn) (nI off) (nI o))) := by rw [← e_wt]; exact hD
                                exact W.iret (v := (nI 0)) hx hb hr (fun t ht hW => ⟨⟨(nI 0), (), rfl, (show (nI 0) = lnR sz mem p1 (nI k) (nI x) (nI w) (nI nn) (nI off) (nI o) from by rw [hR, hv, lnF_s (by omega), if_pos (by omega)]; unfold noA; rw [if_neg (by omega)]), by rw [ht]; exact hP, va_K.moved hW.alike hK, hD⟩, hS.F ht⟩) hS.2.2 dX4_linear_214
                              · exact absurd c_206 (by decide)
                            · have c_84 : ¬ nn ≤ i := fun q => c_84 ((nI_leI (a := nn) (b := i) (by omega) (by omega)).mpr q)
                              refine lv_iload hx hb dX4_linear_87 (lv_at hl 0 rfl) ?_
                              refine lv_sipush (v := (nI 3000)) hx hb dX4_linear_89 (by decide) ?_
                              refine lv_icmp_ne (tgt := 98) hx hb dX4_linear_92 (by decide) (fun c_92 => ?_) (fun c_92 => ?_)
                              · have c_92 : ¬ i = 3000 := fun q => c_92 ((nI_eq (a := i) (b := 3000) (by omega) (by omega)).mpr q)
                                have hiw : i * w ≤ 3000 * 2147483647 := Nat.mul_le_mul (by omega) (by omega)
                                refine lv_iload_n hx hb dX4_linear_98 rfl (lv_at hl 5 rfl) ?_
                                refine lv_i2l (v := lN x) hx hb dX4_linear_99 (nI_l (by omega)) ?_
                                refine lv_iload hx hb dX4_linear_100 (lv_at hl 0 rfl) ?_
                                refine lv_i2l (v := lN i) hx hb dX4_linear_102 (nI_l (by omega)) ?_
                                refine lv_iload hx hb dX4_linear_103 (lv_at hl 6 rfl) ?_
                                refine lv_i2l (v := lN w) hx hb dX4_linear_105 (nI_l (by omega)) ?_
                                refine lv_lmul hx hb dX4_linear_106 ?_
                                refine tpl (lN_mul _ _) ?_
                                refine lv_ladd hx hb dX4_linear_107 ?_
                                refine tpl (lN_add _ _) ?_
                                refine lv_lstore (lv' := [(10, .long (lN (x + (i * w)))), (9, .int (nI i)), (8, .int (nI 0)), (0, .ref (a 0)), (1, .int p1), (2, .int (nI k)), (3, .int (nI x)), (4, .int (nI w)), (5, .int (nI nn)), (6, .int (nI off)), (7, .int (nI o))]) hx hb dX4_linear_108 hl (by decide) rfl (fun ls hl => ?_)
                                refine lv_aload_n hx hb dX4_linear_110 rfl (lv_at hl 3 rfl) ?_
                                refine lv_lload hx hb dX4_linear_111 (lv_at hl 0 rfl) ?_
                                refine lv_iload hx hb dX4_linear_113 (lv_at hl 9 rfl) ?_
                                refine lv_i2l (v := lN off) hx hb dX4_linear_115 (nI_l (by omega)) ?_
                                refine lv_ladd hx hb dX4_linear_116 ?_
                                refine tpl (lN_add _ _) ?_
                                refine lv_iload_n hx hb dX4_linear_117 rfl (lv_at hl 5 rfl) ?_
                                refine lv_i2l (v := lN k) hx hb dX4_linear_118 (nI_l (by omega)) ?_
                                refine vp_callSi (W.runV (As := [.long (lN (x + (i * w) + off)), .long (lN k)]) (rest := []) ⟨hx, hb, hml, hown, hts⟩ (c_X4_isIn l dC dI cI a sz st us kp ga gl cs mem pl ln km ks kt ku kl kn cd (tkW sz mem p1 k o wt) (x + (i * w) + off) k (by omega) (by omega) (by omega)) (cwV 2 hts gX4_linear_X4_isIn rfl rfl rfl (by decide +kernel) ⟨Nat.le_of_ble_eq_true rfl, Nat.le_of_ble_eq_true rfl⟩) ⟨fun a9 U g9 mk9 q9 => by obtain ⟨q0, qP, qK⟩ := q9; exact ⟨q0, qP, va_K.moved (u := U) (U := U.calling g9 mk9 a9) (Vm.Alike.refl U.vm) qK⟩, va_recv hK hP (ci := 4) (q0 := 0) rfl rfl, fun U hU hW => ⟨rfl, by rw [hU]; exact hP, va_K.moved hW.alike hK⟩⟩ rfl rfl hl.1 rfl (lv_room (Nat.le_of_ble_eq_true rfl)) dX4_linear_119 ⟨Nat.zero_le _, Nat.zero_le _⟩) (fun r_119 hw => ?_)
                                try dsimp only at hw
                                rcases hw with ⟨hc_119, rfl⟩ | ⟨hc_119, rfl⟩
                                · skip
                                  refine lv_if_ne (tgt := 128) hx hb dX4_linear_122 (by decide) (fun c_122 => ?_) (fun c_122 => ?_)
                                  · have c_122 : ¬ 1 = 0 := fun q => c_122 ((nZ_eq (by omega)).mpr q)
                                    refine lv_iload_n hx hb dX4_linear_128 rfl (lv_at hl 5 rfl) ?_
                                    refine lv_if_ne (tgt := 136) hx hb dX4_linear_129 (by decide) (fun c_129 => ?_) (fun c_129 => ?_)
                                    · have c_129 : ¬ k = 0 := fun q => c_129 ((nZ_eq (by omega)).mpr q)
                                      refine lv_lload hx hb dX4_linear_136 (lv_at hl 0 rfl) ?_
                                      refine lv_iload hx hb dX4_linear_138 (lv_at hl 9 rfl) ?_
                                      refine lv_i2l (v := lN off) hx hb dX4_linear_140 (nI_l (by omega)) ?_
                                      refine lv_ladd hx hb dX4_linear_141 ?_
                                      refine tpl (lN_add _ _) ?_
                                      refine lv_l2i (v := nI (x + (i * w) + off)) hx hb dX4_linear_142 (lN_i _) ?_
                                      refine lv_istore (lv' := [(12, .int (nI (x + (i * w) + off))), (10, .long (lN (x + (i * w)))), (9, .int (nI i)), (8, .int (nI 0)), (0, .ref (a 0)), (1, .int p1), (2, .int (nI k)), (3, .int (nI x)), (4, .int (nI w)), (5, .int (nI nn)), (6, .int (nI off)), (7, .int (nI o))]) hx hb dX4_linear_143 hl (by decide) rfl (fun ls hl => ?_)
                                      refine lv_aload_n hx hb dX4_linear_145 rfl (lv_at hl 4 rfl) ?_
                                      refine lv_iload hx hb dX4_linear_146 (lv_at hl 0 rfl) ?_
                                      refine lv_iload_n hx hb dX4_linear_148 rfl (lv_at hl 6 rfl) ?_
                                      refine vp_callSi (W.runV (As := [.int (nI (x + (i * w) + off)), .int (nI k)]) (rest := []) ⟨hx, hb, hml, hown, hts⟩ (c_X4_compare l dC dI cI a sz st us kp ga gl cs mem pl ln km ks kt ku kl kn cd (tkW sz mem p1 k o wt) (x + (i * w) + off) k (by omega) (by omega) bmem btk) (cwV 2 hts gX4_linear_X4_compare rfl rfl rfl (by decide +kernel) ⟨Nat.le_of_ble_eq_true rfl, Nat.le_of_ble_eq_true rfl⟩) ⟨fun a9 U g9 mk9 q9 => by obtain ⟨q0, qP, qK⟩ := q9; exact ⟨q0, qP, va_K.moved (u := U) (U := U.calling g9 mk9 a9) (Vm.Alike.refl U.vm) qK⟩, va_recv hK hP (ci := 4) (q0 := 0) rfl rfl, fun U hU hW => ⟨rfl, by rw [hU]; exact hP, va_K.moved hW.alike hK⟩⟩ rfl rfl hl.1 rfl (lv_room (Nat.le_of_ble_eq_true rfl)) dX4_linear_149 ⟨Nat.zero_le _, Nat.zero_le _⟩) (fun r_149 hw => ?_)
                                      try dsimp only at hw
                                      rcases hw with ⟨hc_149, rfl⟩ | ⟨hc_149, rfl⟩ | ⟨hc_149, rfl⟩
                                      · rw [hcm] at hc_149
                                        refine lv_if_ne (tgt := 169) hx hb dX4_linear_152 (by decide) (fun c_152 => ?_) (fun c_152 => ?_)
                                        · exact absurd c_152 (by decide)
                                        · have c_152 : 0 = 0 := (nZ_eq (by omega)).mp c_152
                                          refine lv_iload hx hb dX4_linear_155 (lv_at hl 3 rfl) ?_
                                          refine lv_if_eq (tgt := 165) hx hb dX4_linear_157 (by decide) (fun c_157 => ?_) (fun c_157 => ?_)
                                          · have c_157 : 0 = 0 := (nZ_eq (by omega)).mp c_157
                                            refine lv_lload hx hb dX4_linear_165 (lv_at hl 1 rfl) ?_
                                            refine lv_l2i (v := nI (x + (i * w))) hx hb dX4_linear_167 (lN_i _) ?_
                                            have e_wt : tkW sz mem p1 k o wt = lnW sz mem wt p1 (nI k) (nI x) (nI w) (nI nn) (nI off) (nI o) := by unfold lnW; rw [if_neg hnb, show cl (nI k) = k from nI_clamp (by omega), show cl (nI o) = o from nI_clamp (by omega)]
                                            have hP : va_P (dC, dI) vwCl (mw cI a sz st us kp ga gl cs mem pl ln km ks kt ku kl kn cd (lnW sz mem wt p1 (nI k) (nI x) (nI w) (nI nn) (nI off) (nI o))) H := by rw [← e_wt]; exact hP
                                            have hD : va_D A (mw cI a sz st us kp ga gl cs mem pl ln km ks kt ku kl kn cd (lnW sz mem wt p1 (nI k) (nI x) (nI w) (nI nn) (nI off) (nI o))) := by rw [← e_wt]; exact hD
                                            exact W.iret (v := (nI (x + (i * w)))) hx hb hr (fun t ht hW => ⟨⟨(nI (x + (i * w))), (), rfl, (show (nI (x + (i * w))) = lnR sz mem p1 (nI k) (nI x) (nI w) (nI nn) (nI off) (nI o) from by rw [hR, hv, lnF_s (by omega), if_neg (by omega), if_neg (by omega), if_neg (by omega), if_pos hc_149, if_neg (by omega)]), by rw [ht]; exact hP, va_K.moved hW.alike hK, hD⟩, hS.F ht⟩) hS.2.2 dX4_linear_168
                                          · exact absurd c_157 (by decide)
                                      · rw [hcm] at hc_149
                                        refine lv_if_ne (tgt := 169) hx hb dX4_linear_152 (by decide) (fun c_152 => ?_) (fun c_152 => ?_)
                                        · refine lv_iload hx hb dX4_linear_169 (lv_at hl 11 rfl) ?_
                                          refine lv_iconst (v := (nI 2)) hx hb dX4_linear_171 (by decide) ?_
                                          refine lv_iand hx hb dX4_linear_172 ?_
                                          refine tpi (and2 (by omega)) ?_
                                          refine lv_iconst (v := (nI 2)) hx hb dX4_linear_173 (by decide) ?_
                                          refine lv_icmp_ne (tgt := 198) hx hb dX4_linear_174 (by decide) (fun c_174 => ?_) (fun c_174 => ?_)
                                          · have c_174 : ¬ o / 2 % 2 * 2 = 2 := fun q => c_174 ((nI_eq (a := o / 2 % 2 * 2) (b := 2) (by omega) (by omega)).mpr q)
                                            refine lv_iinc (v := (nI (i + 1))) (lv' := [(9, .int (nI (i + 1))), (12, .int (nI (x + (i * w) + off))), (10, .long (lN (x + (i * w)))), (8, .int (nI 0)), (0, .ref (a 0)), (1, .int p1), (2, .int (nI k)), (3, .int (nI x)), (4, .int (nI w)), (5, .int (nI nn)), (6, .int (nI off)), (7, .int (nI o))]) hx hb dX4_linear_198 hl (k := 2) rfl (nI_inc _) (by decide) rfl (fun ls hl => ?_)
                                            refine lv_goto (tgt := 74) hx hb dX4_linear_201 (by decide) ?_
                                            exact ih_74 (i + 1) (⟨by omega, by rw [hv, lnF_s (by omega), if_neg (by omega), if_neg (by omega), if_neg (by omega), if_neg (by rw [hc_149]; decide), if_neg (fun q => absurd q.1 (by omega))]⟩) (show 3001 - (i + 1) < 3001 - i by omega) ls (lv_sub hl [0, 3, 4, 5, 6, 7, 8, 9, 10, 11] rfl)
                                          · have c_174 : o / 2 % 2 * 2 = 2 := (nI_eq (a := o / 2 % 2 * 2) (b := 2) (by omega) (by omega)).mp c_174
                                            refine lv_aload_n hx hb dX4_linear_177 rfl (lv_at hl 4 rfl) ?_
                                            refine lv_iload hx hb dX4_linear_178 (lv_at hl 0 rfl) ?_
                                            refine lv_iload_n hx hb dX4_linear_180 rfl (lv_at hl 6 rfl) ?_
                                            refine vp_callSi (W.runV (As := [.int (nI (x + (i * w) + off)), .int (nI k)]) (rest := []) ⟨hx, hb, hml, hown, hts⟩ (c_X4_isZero l dC dI cI a sz st us kp ga gl cs mem pl ln km ks kt ku kl kn cd (tkW sz mem p1 k o wt) (x + (i * w) + off) k (by omega) (by omega) bmem) (cwV 2 hts gX4_linear_X4_isZero rfl rfl rfl (by decide +kernel) ⟨Nat.le_of_ble_eq_true rfl, Nat.le_of_ble_eq_true rfl⟩) ⟨fun a9 U g9 mk9 q9 => by obtain ⟨q0, qP, qK⟩ := q9; exact ⟨q0, qP, va_K.moved (u := U) (U := U.calling g9 mk9 a9) (Vm.Alike.refl U.vm) qK⟩, va_recv hK hP (ci := 4) (q0 := 0) rfl rfl, fun U hU hW => ⟨rfl, by rw [hU]; exact hP, va_K.moved hW.alike hK⟩⟩ rfl rfl hl.1 rfl (lv_room (Nat.le_of_ble_eq_true rfl)) dX4_linear_181 ⟨Nat.zero_le _, Nat.zero_le _⟩) (fun r_181 hw => ?_)
                                            try dsimp only at hw
                                            rcases hw with ⟨hc_181, rfl⟩ | ⟨hc_181, rfl⟩
                                            · skip
                                              refine lv_if_eq (tgt := 198) hx hb dX4_linear_184 (by decide) (fun c_184 => ?_) (fun c_184 => ?_)
                                              · exact absurd c_184 (by decide)
                                              · have c_184 : ¬ 1 = 0 := fun q => c_184 ((nZ_eq (by omega)).mpr q)
                                                refine lv_iload hx hb dX4_linear_187 (lv_at hl 3 rfl) ?_
                                                refine lv_if_eq (tgt := 196) hx hb dX4_linear_189 (by decide) (fun c_189 => ?_) (fun c_189 => ?_)
                                                · have c_189 : 0 = 0 := (nZ_eq (by omega)).mp c_189
                                                  refine lv_iconst (v := (nI 0)) hx hb dX4_linear_196 (by decide) ?_
                                                  have e_wt : tkW sz mem p1 k o wt = lnW sz mem wt p1 (nI k) (nI x) (nI w) (nI nn) (nI off) (nI o) := by unfold lnW; rw [if_neg hnb, show cl (nI k) = k from nI_clamp (by omega), show cl (nI o) = o from nI_clamp (by omega)]
                                                  have hP : va_P (dC, dI) vwCl (mw cI a sz st us kp ga gl cs mem pl ln km ks kt ku kl kn cd (lnW sz mem wt p1 (nI k) (nI x) (nI w) (nI nn) (nI off) (nI o))) H := by rw [← e_wt]; exact hP
                                                  have hD : va_D A (mw cI a sz st us kp ga gl cs mem pl ln km ks kt ku kl kn cd (lnW sz mem wt p1 (nI k) (nI x) (nI w) (nI nn) (nI off) (nI o))) := by rw [← e_wt]; exact hD
                                                  exact W.iret (v := (nI 0)) hx hb hr (fun t ht hW => ⟨⟨(nI 0), (), rfl, (show (nI 0) = lnR sz mem p1 (nI k) (nI x) (nI w) (nI nn) (nI off) (nI o) from by rw [hR, hv, lnF_s (by omega), if_neg (by omega), if_neg (by omega), if_neg (by omega), if_neg (by rw [hc_149]; decide), if_pos ⟨by omega, allZb_t hc_181⟩]; unfold noA; rw [if_neg (by omega)]), by rw [ht]; exact hP, va_K.moved hW.alike hK, hD⟩, hS.F ht⟩) hS.2.2 dX4_linear_197
                                                · exact absurd c_189 (by decide)
                                            · skip
                                              refine lv_if_eq (tgt := 198) hx hb dX4_linear_184 (by decide) (fun c_184 => ?_) (fun c_184 => ?_)
                                              · have c_184 : 0 = 0 := (nZ_eq (by omega)).mp c_184
                                                refine lv_iinc (v := (nI (i + 1))) (lv' := [(9, .int (nI (i + 1))), (12, .int (nI (x + (i * w) + off))), (10, .long (lN (x + (i * w)))), (8, .int (nI 0)), (0, .ref (a 0)), (1, .int p1), (2, .int (nI k)), (3, .int (nI x)), (4, .int (nI w)), (5, .int (nI nn)), (6, .int (nI off)), (7, .int (nI o))]) hx hb dX4_linear_198 hl (k := 2) rfl (nI_inc _) (by decide) rfl (fun ls hl => ?_)
                                                refine lv_goto (tgt := 74) hx hb dX4_linear_201 (by decide) ?_
                                                exact ih_74 (i + 1) (⟨by omega, by rw [hv, lnF_s (by omega), if_neg (by omega), if_neg (by omega), if_neg (by omega), if_neg (by rw [hc_149]; decide), if_neg (fun q => by rw [allZb_f hc_181] at q; exact absurd q.2 (by decide))]⟩) (show 3001 - (i + 1) < 3001 - i by omega) ls (lv_sub hl [0, 3, 4, 5, 6, 7, 8, 9, 10, 11] rfl)
                                              · exact absurd c_184 (by decide)
                                        · exact absurd c_152 (by decide)
                                      · rw [hcm] at hc_149
                                        refine lv_if_ne (tgt := 169) hx hb dX4_linear_152 (by decide) (fun c_152 => ?_) (fun c_152 => ?_)
                                        · have c_152 : ¬ 1 = 0 := fun q => c_152 ((nZ_eq (by omega)).mpr q)
                                          refine lv_iload hx hb dX4_linear_169 (lv_at hl 11 rfl) ?_
                                          refine lv_iconst (v := (nI 2)) hx hb dX4_linear_171 (by decide) ?_
                                          refine lv_iand hx hb dX4_linear_172 ?_
                                          refine tpi (and2 (by omega)) ?_
                                          refine lv_iconst (v := (nI 2)) hx hb dX4_linear_173 (by decide) ?_
                                          refine lv_icmp_ne (tgt := 198) hx hb dX4_linear_174 (by decide) (fun c_174 => ?_) (fun c_174 => ?_)
                                          · have c_174 : ¬ o / 2 % 2 * 2 = 2 := fun q => c_174 ((nI_eq (a := o / 2 % 2 * 2) (b := 2) (by omega) (by omega)).mpr q)
                                            refine lv_iinc (v := (nI (i + 1))) (lv' := [(9, .int (nI (i + 1))), (12, .int (nI (x + (i * w) + off))), (10, .long (lN (x + (i * w)))), (8, .int (nI 0)), (0, .ref (a 0)), (1, .int p1), (2, .int (nI k)), (3, .int (nI x)), (4, .int (nI w)), (5, .int (nI nn)), (6, .int (nI off)), (7, .int (nI o))]) hx hb dX4_linear_198 hl (k := 2) rfl (nI_inc _) (by decide) rfl (fun ls hl => ?_)
                                            refine lv_goto (tgt := 74) hx hb dX4_linear_201 (by decide) ?_
                                            exact ih_74 (i + 1) (⟨by omega, by rw [hv, lnF_s (by omega), if_neg (by omega), if_neg (by omega), if_neg (by omega), if_neg (by rw [hc_149]; decide), if_neg (fun q => absurd q.1 (by omega))]⟩) (show 3001 - (i + 1) < 3001 - i by omega) ls (lv_sub hl [0, 3, 4, 5, 6, 7, 8, 9, 10, 11] rfl)
                                          · have c_174 : o / 2 % 2 * 2 = 2 := (nI_eq (a := o / 2 % 2 * 2) (b := 2) (by omega) (by omega)).mp c_174
                                            refine lv_aload_n hx hb dX4_linear_177 rfl (lv_at hl 4 rfl) ?_
                                            refine lv_iload hx hb dX4_linear_178 (lv_at hl 0 rfl) ?_
                                            refine lv_iload_n hx hb dX4_linear_180 rfl (lv_at hl 6 rfl) ?_
                                            refine vp_callSi (W.runV (As := [.int (nI (x + (i * w) + off)), .int (nI k)]) (rest := []) ⟨hx, hb, hml, hown, hts⟩ (c_X4_isZero l dC dI cI a sz st us kp ga gl cs mem pl ln km ks kt ku kl kn cd (tkW sz mem p1 k o wt) (x + (i * w) + off) k (by omega) (by omega) bmem) (cwV 2 hts gX4_linear_X4_isZero rfl rfl rfl (by decide +kernel) ⟨Nat.le_of_ble_eq_true rfl, Nat.le_of_ble_eq_true rfl⟩) ⟨fun a9 U g9 mk9 q9 => by obtain ⟨q0, qP, qK⟩ := q9; exact ⟨q0, qP, va_K.moved (u := U) (U := U.calling g9 mk9 a9) (Vm.Alike.refl U.vm) qK⟩, va_recv hK hP (ci := 4) (q0 := 0) rfl rfl, fun U hU hW => ⟨rfl, by rw [hU]; exact hP, va_K.moved hW.alike hK⟩⟩ rfl rfl hl.1 rfl (lv_room (Nat.le_of_ble_eq_true rfl)) dX4_linear_181 ⟨Nat.zero_le _, Nat.zero_le _⟩) (fun r_181 hw => ?_)
                                            try dsimp only at hw
                                            rcases hw with ⟨hc_181, rfl⟩ | ⟨hc_181, rfl⟩
                                            · skip
                                              refine lv_if_eq (tgt := 198) hx hb dX4_linear_184 (by decide) (fun c_184 => ?_) (fun c_184 => ?_)
                                              · exact absurd c_184 (by decide)
                                              · have c_184 : ¬ 1 = 0 := fun q => c_184 ((nZ_eq (by omega)).mpr q)
                                                refine lv_iload hx hb dX4_linear_187 (lv_at hl 3 rfl) ?_
                                                refine lv_if_eq (tgt := 196) hx hb dX4_linear_189 (by decide) (fun c_189 => ?_) (fun c_189 => ?_)
                                                · have c_189 : 0 = 0 := (nZ_eq (by omega)).mp c_189
                                                  refine lv_iconst (v := (nI 0)) hx hb dX4_linear_196 (by decide) ?_
                                                  have e_wt : tkW sz mem p1 k o wt = lnW sz mem wt p1 (nI k) (nI x) (nI w) (nI nn) (nI off) (nI o) := by unfold lnW; rw [if_neg hnb, show cl (nI k) = k from nI_clamp (by omega), show cl (nI o) = o from nI_clamp (by omega)]
                                                  have hP : va_P (dC, dI) vwCl (mw cI a sz st us kp ga gl cs mem pl ln km ks kt ku kl kn cd (lnW sz mem wt p1 (nI k) (nI x) (nI w) (nI nn) (nI off) (nI o))) H := by rw [← e_wt]; exact hP
                                                  have hD : va_D A (mw cI a sz st us kp ga gl cs mem pl ln km ks kt ku kl kn cd (lnW sz mem wt p1 (nI k) (nI x) (nI w) (nI nn) (nI off) (nI o))) := by rw [← e_wt]; exact hD
                                                  exact W.iret (v := (nI 0)) hx hb hr (fun t ht hW => ⟨⟨(nI 0), (), rfl, (show (nI 0) = lnR sz mem p1 (nI k) (nI x) (nI w) (nI nn) (nI off) (nI o) from by rw [hR, hv, lnF_s (by omega), if_neg (by omega), if_neg (by omega), if_neg (by omega), if_neg (by rw [hc_149]; decide), if_pos ⟨by omega, allZb_t hc_181⟩]; unfold noA; rw [if_neg (by omega)]), by rw [ht]; exact hP, va_K.moved hW.alike hK, hD⟩, hS.F ht⟩) hS.2.2 dX4_linear_197
                                                · exact absurd c_189 (by decide)
                                            · skip
                                              refine lv_if_eq (tgt := 198) hx hb dX4_linear_184 (by decide) (fun c_184 => ?_) (fun c_184 => ?_)
                                              · have c_184 : 0 = 0 := (nZ_eq (by omega)).mp c_184
                                                refine lv_iinc (v := (nI (i + 1))) (lv' := [(9, .int (nI (i + 1))), (12, .int (nI (x + (i * w) + off))), (10, .long (lN (x + (i * w)))), (8, .int (nI 0)), (0, .ref (a 0)), (1, .int p1), (2, .int (nI k)), (3, .int (nI x)), (4, .int (nI w)), (5, .int (nI nn)), (6, .int (nI off)), (7, .int (nI o))]) hx hb dX4_linear_198 hl (k := 2) rfl (nI_inc _) (by decide) rfl (fun ls hl => ?_)
                                                refine lv_goto (tgt := 74) hx hb dX4_linear_201 (by decide) ?_
                                                exact ih_74 (i + 1) (⟨by omega, by rw [hv, lnF_s (by omega), if_neg (by omega), if_neg (by omega), if_neg (by omega), if_neg (by rw [hc_149]; decide), if_neg (fun q => by rw [allZb_f hc_181] at q; exact absurd q.2 (by decide))]⟩) (show 3001 - (i + 1) < 3001 - i by omega) ls (lv_sub hl [0, 3, 4, 5, 6, 7, 8, 9, 10, 11] rfl)
                                              · exact absurd c_184 (by decide)
                                        · exact absurd c_152 (by decide)
                                    · have c_129 : k = 0 := (nZ_eq (by omega)).mp c_129
                                      omega
                                  · exact absurd c_122 (by decide)
                                · skip
                                  refine lv_if_ne (tgt := 128) hx hb dX4_linear_122 (by decide) (fun c_122 => ?_) (fun c_122 => ?_)
                                  · exact absurd c_122 (by decide)
                                  · have c_122 : 0 = 0 := (nZ_eq (by omega)).mp c_122
                                    refine lv_bipush (v := ((-12))) hx hb dX4_linear_125 (by decide) ?_
                                    have e_wt : tkW sz mem p1 k o wt = lnW sz mem wt p1 (nI k) (nI x) (nI w) (nI nn) (nI off) (nI o) := by unfold lnW; rw [if_neg hnb, show cl (nI k) = k from nI_clamp (by omega), show cl (nI o) = o from nI_clamp (by omega)]
                                    have hP : va_P (dC, dI) vwCl (mw cI a sz st us kp ga gl cs mem pl ln km ks kt ku kl kn cd (lnW sz mem wt p1 (nI k) (nI x) (nI w) (nI nn) (nI off) (nI o))) H := by rw [← e_wt]; exact hP
                                    have hD : va_D A (mw cI a sz st us kp ga gl cs mem pl ln km ks kt ku kl kn cd (lnW sz mem wt p1 (nI k) (nI x) (nI w) (nI nn) (nI off) (nI o))) := by rw [← e_wt]; exact hD
                                    exact W.iret (v := ((-12))) hx hb hr (fun t ht hW => ⟨⟨((-12)), (), rfl, (show ((-12)) = lnR sz mem p1 (nI k) (nI x) (nI w) (nI nn) (nI off) (nI o) from by rw [hR, hv, lnF_s (by omega), if_neg (by omega), if_neg (by omega), if_pos (by omega)]), by rw [ht]; exact hP, va_K.moved hW.alike hK, hD⟩, hS.F ht⟩) hS.2.2 dX4_linear_127
                              · have c_92 : i = 3000 := (nI_eq (a := i) (b := 3000) (by omega) (by omega)).mp c_92
                                refine lv_bipush (v := ((-16))) hx hb dX4_linear_95 (by decide) ?_
                                have e_wt : tkW sz mem p1 k o wt = lnW sz mem wt p1 (nI k) (nI x) (nI w) (nI nn) (nI off) (nI o) := by unfold lnW; rw [if_neg hnb, show cl (nI k) = k from nI_clamp (by omega), show cl (nI o) = o from nI_clamp (by omega)]
                                have hP : va_P (dC, dI) vwCl (mw cI a sz st us kp ga gl cs mem pl ln km ks kt ku kl kn cd (lnW sz mem wt p1 (nI k) (nI x) (nI w) (nI nn) (nI off) (nI o))) H := by rw [← e_wt]; exact hP
                                have hD : va_D A (mw cI a sz st us kp ga gl cs mem pl ln km ks kt ku kl kn cd (lnW sz mem wt p1 (nI k) (nI x) (nI w) (nI nn) (nI off) (nI o))) := by rw [← e_wt]; exact hD
                                exact W.iret (v := ((-16))) hx hb hr (fun t ht hW => ⟨⟨((-16)), (), rfl, (show ((-16)) = lnR sz mem p1 (nI k) (nI x) (nI w) (nI nn) (nI off) (nI o) from by rw [hR, hv, lnF_s (by omega), if_neg (by omega), if_pos (by omega)]), by rw [ht]; exact hP, va_K.moved hW.alike hK, hD⟩, hS.F ht⟩) hS.2.2 dX4_linear_97
                      · have c_61 : ¬ o < 4 := fun q => c_61 ((nI_ltI (a := o) (b := 4) (by omega) (by omega)).mpr q)
                        refine lv_iconst (v := (nI 1)) hx hb dX4_linear_64 (by decide) ?_
                        refine lv_goto (tgt := 69) hx hb dX4_linear_65 (by decide) ?_
                        refine lv_istore (lv' := [(8, .int (nI 1)), (0, .ref (a 0)), (1, .int p1), (2, .int (nI k)), (3, .int (nI x)), (4, .int (nI w)), (5, .int p5), (6, .int (nI off)), (7, .int (nI o))]) hx hb dX4_linear_69 hl (by decide) rfl (fun ls hl => ?_)
                        refine lv_iconst (v := (nI 0)) hx hb dX4_linear_71 (by decide) ?_
                        refine lv_istore (lv' := [(9, .int (nI 0)), (8, .int (nI 1)), (0, .ref (a 0)), (1, .int p1), (2, .int (nI k)), (3, .int (nI x)), (4, .int (nI w)), (5, .int p5), (6, .int (nI off)), (7, .int (nI o))]) hx hb dX4_linear_72 hl (by decide) rfl (fun ls hl => ?_)
                        rcases gem1 c_8 with rfl | ⟨nn, n_nn, rfl⟩
                        · obtain ⟨nn, hnn⟩ : ∃ q : Nat, q = 3001 := ⟨_, rfl⟩
                          have hnl : nnl (-1) = nn := by unfold nnl; rw [if_pos rfl, hnn]
                          have hR : lnR sz mem p1 (nI k) (nI x) (nI w) (-1) (nI off) (nI o) = lnF sz mem (ky mem p1 k o) k x w nn off o 3001 0 := by unfold lnR; rw [if_neg hnb, show cl (nI k) = k from nI_clamp (by omega), show cl (nI x) = x from nI_clamp (by omega), show cl (nI w) = w from nI_clamp (by omega), show cl (nI off) = off from nI_clamp (by omega), show cl (nI o) = o from nI_clamp (by omega), if_neg (fun q => q htk), hnl]
                          refine lp_still (σ := Nat) (fun i => i ≤ 3000 ∧ lnF sz mem (ky mem p1 k o) k x w nn off o 3001 0 = lnF sz mem (ky mem p1 k o) k x w nn off o (3001 - i) i) (fun i => 3001 - i) (fun i => [(9, .int (nI i)), (8, .int (nI 1)), (0, .ref (a 0)), (1, .int p1), (2, .int (nI k)), (3, .int (nI x)), (4, .int (nI w)), (5, .int ((-1))), (6, .int (nI off)), (7, .int (nI o))]) ?_ 0 (⟨by omega, rfl⟩) (lv_sub hl [0, 1, 2, 3, 4, 5, 6, 7, 8, 9] rfl)
                          intro i hI ih ls hl
                          have hl : lv_has ls 13 [(9, .int (nI i)), (8, .int (nI 1)), (0, .ref (a 0)), (1, .int p1), (2, .int (nI k)), (3, .int (nI x)), (4, .int (nI w)), (5, .int ((-1))), (6, .int (nI off)), (7, .int (nI o))] := hl
                          have hI : i ≤ 3000 ∧ lnF sz mem (ky mem p1 k o) k x w nn off o 3001 0 = lnF sz mem (ky mem p1 k o) k x w nn off o (3001 - i) i := hI
                          obtain ⟨hi, hv⟩ := hI
                          have ih_74 := ih
                          refine lv_iload hx hb dX4_linear_74 (lv_at hl 7 rfl) ?_
                          refine lv_iconst (v := ((-1))) hx hb dX4_linear_76 (by decide) ?_
                          refine lv_icmp_eq (tgt := 87) hx hb dX4_linear_77 (by decide) (fun c_77 => ?_) (fun c_77 => ?_)
                          · refine lv_iload hx hb dX4_linear_87 (lv_at hl 0 rfl) ?_
                            refine lv_sipush (v := (nI 3000)) hx hb dX4_linear_89 (by decide) ?_
                            refine lv_icmp_ne (tgt := 98) hx hb dX4_linear_92 (by decide) (fun c_92 => ?_) (fun c_92 => ?_)
                            · have c_92 : ¬ i = 3000 := fun q => c_92 ((nI_eq (a := i) (b := 3000) (by omega) (by omega)).mpr q)
                              have hiw : i * w ≤ 3000 * 2147483647 := Nat.mul_le_mul (by omega) (by omega)
                              refine lv_iload_n hx hb dX4_linear_98 rfl (lv_at hl 5 rfl) ?_
                              refine lv_i2l (v := lN x) hx hb dX4_linear_99 (nI_l (by omega)) ?_
                              refine lv_iload hx hb dX4_linear_100 (lv_at hl 0 rfl) ?_
                              refine lv_i2l (v := lN i) hx hb dX4_linear_102 (nI_l (by omega)) ?_
                              refine lv_iload hx hb dX4_linear_103 (lv_at hl 6 rfl) ?_
                              refine lv_i2l (v := lN w) hx hb dX4_linear_105 (nI_l (by omega)) ?_
                              refine lv_lmul hx hb dX4_linear_106 ?_
                              refine tpl (lN_mul _ _) ?_
                              refine lv_ladd hx hb dX4_linear_107 ?_
                              refine tpl (lN_add _ _) ?_
                              refine lv_lstore (lv' := [(10, .long (lN (x + (i * w)))), (9, .int (nI i)), (8, .int (nI 1)), (0, .ref (a 0)), (1, .int p1), (2, .int (nI k)), (3, .int (nI x)), (4, .int (nI w)), (5, .int ((-1))), (6, .int (nI off)), (7, .int (nI o))]) hx hb dX4_linear_108 hl (by decide) rfl (fun ls hl => ?_)
                              refine lv_aload_n hx hb dX4_linear_110 rfl (lv_at hl 3 rfl) ?_
                              refine lv_lload hx hb dX4_linear_111 (lv_at hl 0 rfl) ?_
                              refine lv_iload hx hb dX4_linear_113 (lv_at hl 9 rfl) ?_
                              refine lv_i2l (v := lN off) hx hb dX4_linear_115 (nI_l (by omega)) ?_
                              refine lv_ladd hx hb dX4_linear_116 ?_
                              refine tpl (lN_add _ _) ?_
                              refine lv_iload_n hx hb dX4_linear_117 rfl (lv_at hl 5 rfl) ?_
                              refine lv_i2l (v := lN k) hx hb dX4_linear_118 (nI_l (by omega)) ?_
                              refine vp_callSi (W.runV (As := [.long (lN (x + (i * w) + off)), .long (lN k)]) (rest := []) ⟨hx, hb, hml, hown, hts⟩ (c_X4_isIn l dC dI cI a sz st us kp ga gl cs mem pl ln km ks kt ku kl kn cd (tkW sz mem p1 k o wt) (x + (i * w) + off) k (by omega) (by omega) (by omega)) (cwV 2 hts gX4_linear_X4_isIn rfl rfl rfl (by decide +kernel) ⟨Nat.le_of_ble_eq_true rfl, Nat.le_of_ble_eq_true rfl⟩) ⟨fun a9 U g9 mk9 q9 => by obtain ⟨q0, qP, qK⟩ := q9; exact ⟨q0, qP, va_K.moved (u := U) (U := U.calling g9 mk9 a9) (Vm.Alike.refl U.vm) qK⟩, va_recv hK hP (ci := 4) (q0 := 0) rfl rfl, fun U hU hW => ⟨rfl, by rw [hU]; exact hP, va_K.moved hW.alike hK⟩⟩ rfl rfl hl.1 rfl (lv_room (Nat.le_of_ble_eq_true rfl)) dX4_linear_119 ⟨Nat.zero_le _, Nat.zero_le _⟩) (fun r_119 hw => ?_)
                              try dsimp only at hw
                              rcases hw with ⟨hc_119, rfl⟩ | ⟨hc_119, rfl⟩
                              · skip
                                refine lv_if_ne (tgt := 128) hx hb dX4_linear_122 (by decide) (fun c_122 => ?_) (fun c_122 => ?_)
                                · have c_122 : ¬ 1 = 0 := fun q => c_122 ((nZ_eq (by omega)).mpr q)
                                  refine lv_iload_n hx hb dX4_linear_128 rfl (lv_at hl 5 rfl) ?_
                                  refine lv_if_ne (tgt := 136) hx hb dX4_linear_129 (by decide) (fun c_129 => ?_) (fun c_129 => ?_)
                                  · have c_129 : ¬ k = 0 := fun q => c_129 ((nZ_eq (by omega)).mpr q)
                                    refine lv_lload hx hb dX4_linear_136 (lv_at hl 0 rfl) ?_
                                    refine lv_iload hx hb dX4_linear_138 (lv_at hl 9 rfl) ?_
                                    refine lv_i2l (v := lN off) hx hb dX4_linear_140 (nI_l (by omega)) ?_
                                    refine lv_ladd hx hb dX4_linear_141 ?_
                                    refine tpl (lN_add _ _) ?_
                                    refine lv_l2i (v := nI (x + (i * w) + off)) hx hb dX4_linear_142 (lN_i _) ?_
                                    refine lv_istore (lv' := [(12, .int (nI (x + (i * w) + off))), (10, .long (lN (x + (i * w)))), (9, .int (nI i)), (8, .int (nI 1)), (0, .ref (a 0)), (1, .int p1), (2, .int (nI k)), (3, .int (nI x)), (4, .int (nI w)), (5, .int ((-1))), (6, .int (nI off)), (7, .int (nI o))]) hx hb dX4_linear_143 hl (by decide) rfl (fun ls hl => ?_)
                                    refine lv_aload_n hx hb dX4_linear_145 rfl (lv_at hl 4 rfl) ?_
                                    refine lv_iload hx hb dX4_linear_146 (lv_at hl 0 rfl) ?_
                                    refine lv_iload_n hx hb dX4_linear_148 rfl (lv_at hl 6 rfl) ?_
                                    refine vp_callSi (W.runV (As := [.int (nI (x + (i * w) + off)), .int (nI k)]) (rest := []) ⟨hx, hb, hml, hown, hts⟩ (c_X4_compare l dC dI cI a sz st us kp ga gl cs mem pl ln km ks kt ku kl kn cd (tkW sz mem p1 k o wt) (x + (i * w) + off) k (by omega) (by omega) bmem btk) (cwV 2 hts gX4_linear_X4_compare rfl rfl rfl (by decide +kernel) ⟨Nat.le_of_ble_eq_true rfl, Nat.le_of_ble_eq_true rfl⟩) ⟨fun a9 U g9 mk9 q9 => by obtain ⟨q0, qP, qK⟩ := q9; exact ⟨q0, qP, va_K.moved (u := U) (U := U.calling g9 mk9 a9) (Vm.Alike.refl U.vm) qK⟩, va_recv hK hP (ci := 4) (q0 := 0) rfl rfl, fun U hU hW => ⟨rfl, by rw [hU]; exact hP, va_K.moved hW.alike hK⟩⟩ rfl rfl hl.1 rfl (lv_room (Nat.le_of_ble_eq_true rfl)) dX4_linear_149 ⟨Nat.zero_le _, Nat.zero_le _⟩) (fun r_149 hw => ?_)
                                    try dsimp only at hw
                                    rcases hw with ⟨hc_149, rfl⟩ | ⟨hc_149, rfl⟩ | ⟨hc_149, rfl⟩
                                    · rw [hcm] at hc_149
                                      refine lv_if_ne (tgt := 169) hx hb dX4_linear_152 (by decide) (fun c_152 => ?_) (fun c_152 => ?_)
                                      · exact absurd c_152 (by decide)
                                      · have c_152 : 0 = 0 := (nZ_eq (by omega)).mp c_152
                                        refine lv_iload hx hb dX4_linear_155 (lv_at hl 3 rfl) ?_
                                        refine lv_if_eq (tgt := 165) hx hb dX4_linear_157 (by decide) (fun c_157 => ?_) (fun c_157 => ?_)
                                        · exact absurd c_157 (by decide)
                                        · have c_157 : ¬ 1 = 0 := fun q => c_157 ((nZ_eq (by omega)).mpr q)
                                          refine lv_iload hx hb dX4_linear_160 (lv_at hl 2 rfl) ?_
                                          refine lv_goto (tgt := 168) hx hb dX4_linear_162 (by decide) ?_
                                          have e_wt : tkW sz mem p1 k o wt = lnW sz mem wt p1 (nI k) (nI x) (nI w) (-1) (nI off) (nI o) := by unfold lnW; rw [if_neg hnb, show cl (nI k) = k from nI_clamp (by omega), show cl (nI o) = o from nI_clamp (by omega)]
                                          have hP : va_P (dC, dI) vwCl (mw cI a sz st us kp ga gl cs mem pl ln km ks kt ku kl kn cd (lnW sz mem wt p1 (nI k) (nI x) (nI w) (-1) (nI off) (nI o))) H := by rw [← e_wt]; exact hP
                                          have hD : va_D A (mw cI a sz st us kp ga gl cs mem pl ln km ks kt ku kl kn cd (lnW sz mem wt p1 (nI k) (nI x) (nI w) (-1) (nI off) (nI o))) := by rw [← e_wt]; exact hD
                                          exact W.iret (v := (nI i)) hx hb hr (fun t ht hW => ⟨⟨(nI i), (), rfl, (show (nI i) = lnR sz mem p1 (nI k) (nI x) (nI w) (-1) (nI off) (nI o) from by rw [hR, hv, lnF_s (by omega), if_neg (by omega), if_neg (by omega), if_neg (by omega), if_pos hc_149, if_pos (by omega)]), by rw [ht]; exact hP, va_K.moved hW.alike hK, hD⟩, hS.F ht⟩) hS.2.2 dX4_linear_168
                                    · rw [hcm] at hc_149
                                      refine lv_if_ne (tgt := 169) hx hb dX4_linear_152 (by decide) (fun c_152 => ?_) (fun c_152 => ?_)
                                      · refine lv_iload hx hb dX4_linear_169 (lv_at hl 11 rfl) ?_
                                        refine lv_iconst (v := (nI 2)) hx hb dX4_linear_171 (by decide) ?_
                                        refine lv_iand hx hb dX4_linear_172 ?_
                                        refine tpi (and2 (by omega)) ?_
                                        refine lv_iconst (v := (nI 2)) hx hb dX4_linear_173 (by decide) ?_
                                        refine lv_icmp_ne (tgt := 198) hx hb dX4_linear_174 (by decide) (fun c_174 => ?_) (fun c_174 => ?_)
                                        · have c_174 : ¬ o / 2 % 2 * 2 = 2 := fun q => c_174 ((nI_eq (a := o / 2 % 2 * 2) (b := 2) (by omega) (by omega)).mpr q)
                                          refine lv_iinc (v := (nI (i + 1))) (lv' := [(9, .int (nI (i + 1))), (12, .int (nI (x + (i * w) + off))), (10, .long (lN (x + (i * w)))), (8, .int (nI 1)), (0, .ref (a 0)), (1, .int p1), (2, .int (nI k)), (3, .int (nI x)), (4, .int (nI w)), (5, .int ((-1))), (6, .int (nI off)), (7, .int (nI o))]) hx hb dX4_linear_198 hl (k := 2) rfl (nI_inc _) (by decide) rfl (fun ls hl => ?_)
                                          refine lv_goto (tgt := 74) hx hb dX4_linear_201 (by decide) ?_
                                          exact ih_74 (i + 1) (⟨by omega, by rw [hv, lnF_s (by omega), if_neg (by omega), if_neg (by omega), if_neg (by omega), if_neg (by rw [hc_149]; decide), if_neg (fun q => absurd q.1 (by omega))]⟩) (show 3001 - (i + 1) < 3001 - i by omega) ls (lv_sub hl [0, 3, 4, 5, 6, 7, 8, 9, 10, 11] rfl)
                                        · have c_174 : o / 2 % 2 * 2 = 2 := (nI_eq (a := o / 2 % 2 * 2) (b := 2) (by omega) (by omega)).mp c_174
                                          refine lv_aload_n hx hb dX4_linear_177 rfl (lv_at hl 4 rfl) ?_
                                          refine lv_iload hx hb dX4_linear_178 (lv_at hl 0 rfl) ?_
                                          refine lv_iload_n hx hb dX4_linear_180 rfl (lv_at hl 6 rfl) ?_
                                          refine vp_callSi (W.runV (As := [.int (nI (x + (i * w) + off)), .int (nI k)]) (rest := []) ⟨hx, hb, hml, hown, hts⟩ (c_X4_isZero l dC dI cI a sz st us kp ga gl cs mem pl ln km ks kt ku kl kn cd (tkW sz mem p1 k o wt) (x + (i * w) + off) k (by omega) (by omega) bmem) (cwV 2 hts gX4_linear_X4_isZero rfl rfl rfl (by decide +kernel) ⟨Nat.le_of_ble_eq_true rfl, Nat.le_of_ble_eq_true rfl⟩) ⟨fun a9 U g9 mk9 q9 => by obtain ⟨q0, qP, qK⟩ := q9; exact ⟨q0, qP, va_K.moved (u := U) (U := U.calling g9 mk9 a9) (Vm.Alike.refl U.vm) qK⟩, va_recv hK hP (ci := 4) (q0 := 0) rfl rfl, fun U hU hW => ⟨rfl, by rw [hU]; exact hP, va_K.moved hW.alike hK⟩⟩ rfl rfl hl.1 rfl (lv_room (Nat.le_of_ble_eq_true rfl)) dX4_linear_181 ⟨Nat.zero_le _, Nat.zero_le _⟩) (fun r_181 hw => ?_)
                                          try dsimp only at hw
                                          rcases hw with ⟨hc_181, rfl⟩ | ⟨hc_181, rfl⟩
                                          · skip
                                            refine lv_if_eq (tgt := 198) hx hb dX4_linear_184 (by decide) (fun c_184 => ?_) (fun c_184 => ?_)
                                            · exact absurd c_184 (by decide)
                                            · have c_184 : ¬ 1 = 0 := fun q => c_184 ((nZ_eq (by omega)).mpr q)
                                              refine lv_iload hx hb dX4_linear_187 (lv_at hl 3 rfl) ?_
                                              refine lv_if_eq (tgt := 196) hx hb dX4_linear_189 (by decide) (fun c_189 => ?_) (fun c_189 => ?_)
                                              · exact absurd c_189 (by decide)
                                              · have c_189 : ¬ 1 = 0 := fun q => c_189 ((nZ_eq (by omega)).mpr q)
                                                refine lv_iconst (v := ((-1))) hx hb dX4_linear_192 (by decide) ?_
                                                refine lv_goto (tgt := 197) hx hb dX4_linear_193 (by decide) ?_
                                                have e_wt : tkW sz mem p1 k o wt = lnW sz mem wt p1 (nI k) (nI x) (nI w) (-1) (nI off) (nI o) := by unfold lnW; rw [if_neg hnb, show cl (nI k) = k from nI_clamp (by omega), show cl (nI o) = o from nI_clamp (by omega)]
                                                have hP : va_P (dC, dI) vwCl (mw cI a sz st us kp ga gl cs mem pl ln km ks kt ku kl kn cd (lnW sz mem wt p1 (nI k) (nI x) (nI w) (-1) (nI off) (nI o))) H := by rw [← e_wt]; exact hP
                                                have hD : va_D A (mw cI a sz st us kp ga gl cs mem pl ln km ks kt ku kl kn cd (lnW sz mem wt p1 (nI k) (nI x) (nI w) (-1) (nI off) (nI o))) := by rw [← e_wt]; exact hD
                                                exact W.iret (v := ((-1))) hx hb hr (fun t ht hW => ⟨⟨((-1)), (), rfl, (show ((-1)) = lnR sz mem p1 (nI k) (nI x) (nI w) (-1) (nI off) (nI o) from by rw [hR, hv, lnF_s (by omega), if_neg (by omega), if_neg (by omega), if_neg (by omega), if_neg (by rw [hc_149]; decide), if_pos ⟨by omega, allZb_t hc_181⟩]; unfold noA; rw [if_pos (by omega)]), by rw [ht]; exact hP, va_K.moved hW.alike hK, hD⟩, hS.F ht⟩) hS.2.2 dX4_linear_197
                                          · skip
                                            refine lv_if_eq (tgt := 198) hx hb dX4_linear_184 (by decide) (fun c_184 => ?_) (fun c_184 => ?_)
                                            · have c_184 : 0 = 0 := (nZ_eq (by omega)).mp c_184
                                              refine lv_iinc (v := (nI (i + 1))) (lv' := [(9, .int (nI (i + 1))), (12, .int (nI (x + (i * w) + off))), (10, .long (lN (x + (i * w)))), (8, .int (nI 1)), (0, .ref (a 0)), (1, .int p1), (2, .int (nI k)), (3, .int (nI x)), (4, .int (nI w)), (5, .int ((-1))), (6, .int (nI off)), (7, .int (nI o))]) hx hb dX4_linear_198 hl (k := 2) rfl (nI_inc _) (by decide) rfl (fun ls hl => ?_)
                                              refine lv_goto (tgt := 74) hx hb dX4_linear_201 (by decide) ?_
                                              exact ih_74 (i + 1) (⟨by omega, by rw [hv, lnF_s (by omega), if_neg (by omega), if_neg (by omega), if_neg (by omega), if_neg (by rw [hc_149]; decide), if_neg (fun q => by rw [allZb_f hc_181] at q; exact absurd q.2 (by decide))]⟩) (show 3001 - (i + 1) < 3001 - i by omega) ls (lv_sub hl [0, 3, 4, 5, 6, 7, 8, 9, 10, 11] rfl)
                                            · exact absurd c_184 (by decide)
                                      · exact absurd c_152 (by decide)
                                    · rw [hcm] at hc_149
                                      refine lv_if_ne (tgt := 169) hx hb dX4_linear_152 (by decide) (fun c_152 => ?_) (fun c_152 => ?_)
                                      · have c_152 : ¬ 1 = 0 := fun q => c_152 ((nZ_eq (by omega)).mpr q)
                                        refine lv_iload hx hb dX4_linear_169 (lv_at hl 11 rfl) ?_
                                        refine lv_iconst (v := (nI 2)) hx hb dX4_linear_171 (by decide) ?_
                                        refine lv_iand hx hb dX4_linear_172 ?_
                                        refine tpi (and2 (by omega)) ?_
                                        refine lv_iconst (v := (nI 2)) hx hb dX4_linear_173 (by decide) ?_
                                        refine lv_icmp_ne (tgt := 198) hx hb dX4_linear_174 (by decide) (fun c_174 => ?_) (fun c_174 => ?_)
                                        · have c_174 : ¬ o / 2 % 2 * 2 = 2 := fun q => c_174 ((nI_eq (a := o / 2 % 2 * 2) (b := 2) (by omega) (by omega)).mpr q)
                                          refine lv_iinc (v := (nI (i + 1))) (lv' := [(9, .int (nI (i + 1))), (12, .int (nI (x + (i * w) + off))), (10, .long (lN (x + (i * w)))), (8, .int (nI 1)), (0, .ref (a 0)), (1, .int p1), (2, .int (nI k)), (3, .int (nI x)), (4, .int (nI w)), (5, .int ((-1))), (6, .int (nI off)), (7, .int (nI o))]) hx hb dX4_linear_198 hl (k := 2) rfl (nI_inc _) (by decide) rfl (fun ls hl => ?_)
                                          refine lv_goto (tgt := 74) hx hb dX4_linear_201 (by decide) ?_
                                          exact ih_74 (i + 1) (⟨by omega, by rw [hv, lnF_s (by omega), if_neg (by omega), if_neg (by omega), if_neg (by omega), if_neg (by rw [hc_149]; decide), if_neg (fun q => absurd q.1 (by omega))]⟩) (show 3001 - (i + 1) < 3001 - i by omega) ls (lv_sub hl [0, 3, 4, 5, 6, 7, 8, 9, 10, 11] rfl)
                                        · have c_174 : o / 2 % 2 * 2 = 2 := (nI_eq (a := o / 2 % 2 * 2) (b := 2) (by omega) (by omega)).mp c_174
                                          refine lv_aload_n hx hb dX4_linear_177 rfl (lv_at hl 4 rfl) ?_
                                          refine lv_iload hx hb dX4_linear_178 (lv_at hl 0 rfl) ?_
                                          refine lv_iload_n hx hb dX4_linear_180 rfl (lv_at hl 6 rfl) ?_
                                          refine vp_callSi (W.runV (As := [.int (nI (x + (i * w) + off)), .int (nI k)]) (rest := []) ⟨hx, hb, hml, hown, hts⟩ (c_X4_isZero l dC dI cI a sz st us kp ga gl cs mem pl ln km ks kt ku kl kn cd (tkW sz mem p1 k o wt) (x + (i * w) + off) k (by omega) (by omega) bmem) (cwV 2 hts gX4_linear_X4_isZero rfl rfl rfl (by decide +kernel) ⟨Nat.le_of_ble_eq_true rfl, Nat.le_of_ble_eq_true rfl⟩) ⟨fun a9 U g9 mk9 q9 => by obtain ⟨q0, qP, qK⟩ := q9; exact ⟨q0, qP, va_K.moved (u := U) (U := U.calling g9 mk9 a9) (Vm.Alike.refl U.vm) qK⟩, va_recv hK hP (ci := 4) (q0 := 0) rfl rfl, fun U hU hW => ⟨rfl, by rw [hU]; exact hP, va_K.moved hW.alike hK⟩⟩ rfl rfl hl.1 rfl (lv_room (Nat.le_of_ble_eq_true rfl)) dX4_linear_181 ⟨Nat.zero_le _, Nat.zero_le _⟩) (fun r_181 hw => ?_)
                                          try dsimp only at hw
                                          rcases hw with ⟨hc_181, rfl⟩ | ⟨hc_181, rfl⟩
                                          · skip
                                            refine lv_if_eq (tgt := 198) hx hb dX4_linear_184 (by decide) (fun c_184 => ?_) (fun c_184 => ?_)
                                            · exact absurd c_184 (by decide)
                                            · have c_184 : ¬ 1 = 0 := fun q => c_184 ((nZ_eq (by omega)).mpr q)
                                              refine lv_iload hx hb dX4_linear_187 (lv_at hl 3 rfl) ?_
                                              refine lv_if_eq (tgt := 196) hx hb dX4_linear_189 (by decide) (fun c_189 => ?_) (fun c_189 => ?_)
                                              · exact absurd c_189 (by decide)
                                              · have c_189 : ¬ 1 = 0 := fun q => c_189 ((nZ_eq (by omega)).mpr q)
                                                refine lv_iconst (v := ((-1))) hx hb dX4_linear_192 (by decide) ?_
                                                refine lv_goto (tgt := 197) hx hb dX4_linear_193 (by decide) ?_
                                                have e_wt : tkW sz mem p1 k o wt = lnW sz mem wt p1 (nI k) (nI x) (nI w) (-1) (nI off) (nI o) := by unfold lnW; rw [if_neg hnb, show cl (nI k) = k from nI_clamp (by omega), show cl (nI o) = o from nI_clamp (by omega)]
                                                have hP : va_P (dC, dI) vwCl (mw cI a sz st us kp ga gl cs mem pl ln km ks kt ku kl kn cd (lnW sz mem wt p1 (nI k) (nI x) (nI w) (-1) (nI off) (nI o))) H := by rw [← e_wt]; exact hP
                                                have hD : va_D A (mw cI a sz st us kp ga gl cs mem pl ln km ks kt ku kl kn cd (lnW sz mem wt p1 (nI k) (nI x) (nI w) (-1) (nI off) (nI o))) := by rw [← e_wt]; exact hD
                                                exact W.iret (v := ((-1))) hx hb hr (fun t ht hW => ⟨⟨((-1)), (), rfl, (show ((-1)) = lnR sz mem p1 (nI k) (nI x) (nI w) (-1) (nI off) (nI o) from by rw [hR, hv, lnF_s (by omega), if_neg (by omega), if_neg (by omega), if_neg (by omega), if_neg (by rw [hc_149]; decide), if_pos ⟨by omega, allZb_t hc_181⟩]; unfold noA; rw [if_pos (by omega)]), by rw [ht]; exact hP, va_K.moved hW.alike hK, hD⟩, hS.F ht⟩) hS.2.2 dX4_linear_197
                                          · skip
                                            refine lv_if_eq (tgt := 198) hx hb dX4_linear_184 (by decide) (fun c_184 => ?_) (fun c_184 => ?_)
                                            · have c_184 : 0 = 0 := (nZ_eq (by omega)).mp c_184
                                              refine lv_iinc (v := (nI (i + 1))) (lv' := [(9, .int (nI (i + 1))), (12, .int (nI (x + (i * w) + off))), (10, .long (lN (x + (i * w)))), (8, .int (nI 1)), (0, .ref (a 0)), (1, .int p1), (2, .int (nI k)), (3, .int (nI x)), (4, .int (nI w)), (5, .int ((-1))), (6, .int (nI off)), (7, .int (nI o))]) hx hb dX4_linear_198 hl (k := 2) rfl (nI_inc _) (by decide) rfl (fun ls hl => ?_)
                                              refine lv_goto (tgt := 74) hx hb dX4_linear_201 (by decide) ?_
                                              exact ih_74 (i + 1) (⟨by omega, by rw [hv, lnF_s (by omega), if_neg (by omega), if_neg (by omega), if_neg (by omega), if_neg (by rw [hc_149]; decide), if_neg (fun q => by rw [allZb_f hc_181] at q; exact absurd q.2 (by decide))]⟩) (show 3001 - (i + 1) < 3001 - i by omega) ls (lv_sub hl [0, 3, 4, 5, 6, 7, 8, 9, 10, 11] rfl)
                                            · exact absurd c_184 (by decide)
                                      · exact absurd c_152 (by decide)
                                  · have c_129 : k = 0 := (nZ_eq (by omega)).mp c_129
                                    omega
                                · exact absurd c_122 (by decide)
                              · skip
                                refine lv_if_ne (tgt := 128) hx hb dX4_linear_122 (by decide) (fun c_122 => ?_) (fun c_122 => ?_)
                                · exact absurd c_122 (by decide)
                                · have c_122 : 0 = 0 := (nZ_eq (by omega)).mp c_122
                                  refine lv_bipush (v := ((-12))) hx hb dX4_linear_125 (by decide) ?_
                                  have e_wt : tkW sz mem p1 k o wt = lnW sz mem wt p1 (nI k) (nI x) (nI w) (-1) (nI off) (nI o) := by unfold lnW; rw [if_neg hnb, show cl (nI k) = k from nI_clamp (by omega), show cl (nI o) = o from nI_clamp (by omega)]
                                  have hP : va_P (dC, dI) vwCl (mw cI a sz st us kp ga gl cs mem pl ln km ks kt ku kl kn cd (lnW sz mem wt p1 (nI k) (nI x) (nI w) (-1) (nI off) (nI o))) H := by rw [← e_wt]; exact hP
                                  have hD : va_D A (mw cI a sz st us kp ga gl cs mem pl ln km ks kt ku kl kn cd (lnW sz mem wt p1 (nI k) (nI x) (nI w) (-1) (nI off) (nI o))) := by rw [← e_wt]; exact hD
                                  exact W.iret (v := ((-12))) hx hb hr (fun t ht hW => ⟨⟨((-12)), (), rfl, (show ((-12)) = lnR sz mem p1 (nI k) (nI x) (nI w) (-1) (nI off) (nI o) from by rw [hR, hv, lnF_s (by omega), if_neg (by omega), if_neg (by omega), if_pos (by omega)]), by rw [ht]; exact hP, va_K.moved hW.alike hK, hD⟩, hS.F ht⟩) hS.2.2 dX4_linear_127
                            · have c_92 : i = 3000 := (nI_eq (a := i) (b := 3000) (by omega) (by omega)).mp c_92
                              refine lv_bipush (v := ((-16))) hx hb dX4_linear_95 (by decide) ?_
                              have e_wt : tkW sz mem p1 k o wt = lnW sz mem wt p1 (nI k) (nI x) (nI w) (-1) (nI off) (nI o) := by unfold lnW; rw [if_neg hnb, show cl (nI k) = k from nI_clamp (by omega), show cl (nI o) = o from nI_clamp (by omega)]
                              have hP : va_P (dC, dI) vwCl (mw cI a sz st us kp ga gl cs mem pl ln km ks kt ku kl kn cd (lnW sz mem wt p1 (nI k) (nI x) (nI w) (-1) (nI off) (nI o))) H := by rw [← e_wt]; exact hP
                              have hD : va_D A (mw cI a sz st us kp ga gl cs mem pl ln km ks kt ku kl kn cd (lnW sz mem wt p1 (nI k) (nI x) (nI w) (-1) (nI off) (nI o))) := by rw [← e_wt]; exact hD
                              exact W.iret (v := ((-16))) hx hb hr (fun t ht hW => ⟨⟨((-16)), (), rfl, (show ((-16)) = lnR sz mem p1 (nI k) (nI x) (nI w) (-1) (nI off) (nI o) from by rw [hR, hv, lnF_s (by omega), if_neg (by omega), if_pos (by omega)]), by rw [ht]; exact hP, va_K.moved hW.alike hK, hD⟩, hS.F ht⟩) hS.2.2 dX4_linear_97
                          · exact absurd c_77 (by decide)
                        · have hnl : nnl (nI nn) = nn := by unfold nnl; rw [if_neg (nI_m1 n_nn)]; exact nI_clamp n_nn
                          have hR : lnR sz mem p1 (nI k) (nI x) (nI w) (nI nn) (nI off) (nI o) = lnF sz mem (ky mem p1 k o) k x w nn off o 3001 0 := by unfold lnR; rw [if_neg hnb, show cl (nI k) = k from nI_clamp (by omega), show cl (nI x) = x from nI_clamp (by omega), show cl (nI w) = w from nI_clamp (by omega), show cl (nI off) = off from nI_clamp (by omega), show cl (nI o) = o from nI_clamp (by omega), if_neg (fun q => q htk), hnl]
                          refine lp_still (σ := Nat) (fun i => i ≤ 3000 ∧ lnF sz mem (ky mem p1 k o) k x w nn off o 3001 0 = lnF sz mem (ky mem p1 k o) k x w nn off o (3001 - i) i) (fun i => 3001 - i) (fun i => [(9, .int (nI i)), (8, .int (nI 1)), (0, .ref (a 0)), (1, .int p1), (2, .int (nI k)), (3, .int (nI x)), (4, .int (nI w)), (5, .int (nI nn)), (6, .int (nI off)), (7, .int (nI o))]) ?_ 0 (⟨by omega, rfl⟩) (lv_sub hl [0, 1, 2, 3, 4, 5, 6, 7, 8, 9] rfl)
                          intro i hI ih ls hl
                          have hl : lv_has ls 13 [(9, .int (nI i)), (8, .int (nI 1)), (0, .ref (a 0)), (1, .int p1), (2, .int (nI k)), (3, .int (nI x)), (4, .int (nI w)), (5, .int (nI nn)), (6, .int (nI off)), (7, .int (nI o))] := hl
                          have hI : i ≤ 3000 ∧ lnF sz mem (ky mem p1 k o) k x w nn off o 3001 0 = lnF sz mem (ky mem p1 k o) k x w nn off o (3001 - i) i := hI
                          obtain ⟨hi, hv⟩ := hI
                          have ih_74 := ih
                          refine lv_iload hx hb dX4_linear_74 (lv_at hl 7 rfl) ?_
                          refine lv_iconst (v := ((-1))) hx hb dX4_linear_76 (by decide) ?_
                          refine lv_icmp_eq (tgt := 87) hx hb dX4_linear_77 (by decide) (fun c_77 => ?_) (fun c_77 => ?_)
                          · skip
                            exact absurd c_77 (nI_m1 n_nn)
                          · refine lv_iload hx hb dX4_linear_80 (lv_at hl 0 rfl) ?_
                            refine lv_iload hx hb dX4_linear_82 (lv_at hl 7 rfl) ?_
                            refine lv_icmp_ge (tgt := 204) hx hb dX4_linear_84 (by decide) (fun c_84 => ?_) (fun c_84 => ?_)
                            · have c_84 : nn ≤ i := (nI_leI (a := nn) (b := i) (by omega) (by omega)).mp c_84
                              refine lv_iload hx hb dX4_linear_204 (lv_at hl 1 rfl) ?_
                              refine lv_if_eq (tgt := 213) hx hb dX4_linear_206 (by decide) (fun c_206 => ?_) (fun c_206 => ?_)
                              · exact absurd c_206 (by decide)
                              · have c_206 : ¬ 1 = 0 := fun q => c_206 ((nZ_eq (by omega)).mpr q)
                                refine lv_iconst (v := ((-1))) hx hb dX4_linear_209 (by decide) ?_
                                refine lv_goto (tgt := 214) hx hb dX4_linear_210 (by decide) ?_
                                have e_wt : tkW sz mem p1 k o wt = lnW sz mem wt p1 (nI k) (nI x) (nI w) (nI nn) (nI off) (nI o) := by unfold lnW; rw [if_neg hnb, show cl (nI k) = k from nI_clamp (by omega), show cl (nI o) = o from nI_clamp (by omega)]
                                have hP : va_P (dC, dI) vwCl (mw cI a sz st us kp ga gl cs mem pl ln km ks kt ku kl kn cd (lnW sz mem wt p1 (nI k) (nI x) (nI w) (nI nn) (nI off) (nI o))) H := by rw [← e_wt]; exact hP
                                have hD : va_D A (mw cI a sz st us kp ga gl cs mem pl ln km ks kt ku kl kn cd (lnW sz mem wt p1 (nI k) (nI x) (nI w) (nI nn) (nI off) (nI o))) := by rw [← e_wt]; exact hD
                                exact W.iret (v := ((-1))) hx hb hr (fun t ht hW => ⟨⟨((-1)), (), rfl, (show ((-1)) = lnR sz mem p1 (nI k) (nI x) (nI w) (nI nn) (nI off) (nI o) from by rw [hR, hv, lnF_s (by omega), if_pos (by omega)]; unfold noA; rw [if_pos (by omega)]), by rw [ht]; exact hP, va_K.moved hW.alike hK, hD⟩, hS.F ht⟩) hS.2.2 dX4_linear_214
                            · have c_84 : ¬ nn ≤ i := fun q => c_84 ((nI_leI (a := nn) (b := i) (by omega) (by omega)).mpr q)
                              refine lv_iload hx hb dX4_linear_87 (lv_at hl 0 rfl) ?_
                              refine lv_sipush (v := (nI 3000)) hx hb dX4_linear_89 (by decide) ?_
                              refine lv_icmp_ne (tgt := 98) hx hb dX4_linear_92 (by decide) (fun c_92 => ?_) (fun c_92 => ?_)
                              · have c_92 : ¬ i = 3000 := fun q => c_92 ((nI_eq (a := i) (b := 3000) (by omega) (by omega)).mpr q)
                                have hiw : i * w ≤ 3000 * 2147483647 := Nat.mul_le_mul (by omega) (by omega)
                                refine lv_iload_n hx hb dX4_linear_98 rfl (lv_at hl 5 rfl) ?_
                                refine lv_i2l (v := lN x) hx hb dX4_linear_99 (nI_l (by omega)) ?_
                                refine lv_iload hx hb dX4_linear_100 (lv_at hl 0 rfl) ?_
                                refine lv_i2l (v := lN i) hx hb dX4_linear_102 (nI_l (by omega)) ?_
                                refine lv_iload hx hb dX4_linear_103 (lv_at hl 6 rfl) ?_
                                refine lv_i2l (v := lN w) hx hb dX4_linear_105 (nI_l (by omega)) ?_
                                refine lv_lmul hx hb dX4_linear_106 ?_
                                refine tpl (lN_mul _ _) ?_
                                refine lv_ladd hx hb dX4_linear_107 ?_
                                refine tpl (lN_add _ _) ?_
                                refine lv_lstore (lv' := [(10, .long (lN (x + (i * w)))), (9, .int (nI i)), (8, .int (nI 1)), (0, .ref (a 0)), (1, .int p1), (2, .int (nI k)), (3, .int (nI x)), (4, .int (nI w)), (5, .int (nI nn)), (6, .int (nI off)), (7, .int (nI o))]) hx hb dX4_linear_108 hl (by decide) rfl (fun ls hl => ?_)
                                refine lv_aload_n hx hb dX4_linear_110 rfl (lv_at hl 3 rfl) ?_
                                refine lv_lload hx hb dX4_linear_111 (lv_at hl 0 rfl) ?_
                                refine lv_iload hx hb dX4_linear_113 (lv_at hl 9 rfl) ?_
                                refine lv_i2l (v := lN off) hx hb dX4_linear_115 (nI_l (by omega)) ?_
                                refine lv_ladd hx hb dX4_linear_116 ?_
                                refine tpl (lN_add _ _) ?_
                                refine lv_iload_n hx hb dX4_linear_117 rfl (lv_at hl 5 rfl) ?_
                                refine lv_i2l (v := lN k) hx hb dX4_linear_118 (nI_l (by omega)) ?_
                                refine vp_callSi (W.runV (As := [.long (lN (x + (i * w) + off)), .long (lN k)]) (rest := []) ⟨hx, hb, hml, hown, hts⟩ (c_X4_isIn l dC dI cI a sz st us kp ga gl cs mem pl ln km ks kt ku kl kn cd (tkW sz mem p1 k o wt) (x + (i * w) + off) k (by omega) (by omega) (by omega)) (cwV 2 hts gX4_linear_X4_isIn rfl rfl rfl (by decide +kernel) ⟨Nat.le_of_ble_eq_true rfl, Nat.le_of_ble_eq_true rfl⟩) ⟨fun a9 U g9 mk9 q9 => by obtain ⟨q0, qP, qK⟩ := q9; exact ⟨q0, qP, va_K.moved (u := U) (U := U.calling g9 mk9 a9) (Vm.Alike.refl U.vm) qK⟩, va_recv hK hP (ci := 4) (q0 := 0) rfl rfl, fun U hU hW => ⟨rfl, by rw [hU]; exact hP, va_K.moved hW.alike hK⟩⟩ rfl rfl hl.1 rfl (lv_room (Nat.le_of_ble_eq_true rfl)) dX4_linear_119 ⟨Nat.zero_le _, Nat.zero_le _⟩) (fun r_119 hw => ?_)
                                try dsimp only at hw
                                rcases hw with ⟨hc_119, rfl⟩ | ⟨hc_119, rfl⟩
                                · skip
                                  refine lv_if_ne (tgt := 128) hx hb dX4_linear_122 (by decide) (fun c_122 => ?_) (fun c_122 => ?_)
                                  · have c_122 : ¬ 1 = 0 := fun q => c_122 ((nZ_eq (by omega)).mpr q)
                                    refine lv_iload_n hx hb dX4_linear_128 rfl (lv_at hl 5 rfl) ?_
                                    refine lv_if_ne (tgt := 136) hx hb dX4_linear_129 (by decide) (fun c_129 => ?_) (fun c_129 => ?_)
                                    · have c_129 : ¬ k = 0 := fun q => c_129 ((nZ_eq (by omega)).mpr q)
                                      refine lv_lload hx hb dX4_linear_136 (lv_at hl 0 rfl) ?_
                                      refine lv_iload hx hb dX4_linear_138 (lv_at hl 9 rfl) ?_
                                      refine lv_i2l (v := lN off) hx hb dX4_linear_140 (nI_l (by omega)) ?_
                                      refine lv_ladd hx hb dX4_linear_141 ?_
                                      refine tpl (lN_add _ _) ?_
                                      refine lv_l2i (v := nI (x + (i * w) + off)) hx hb dX4_linear_142 (lN_i _) ?_
                                      refine lv_istore (lv' := [(12, .int (nI (x + (i * w) + off))), (10, .long (lN (x + (i * w)))), (9, .int (nI i)), (8, .int (nI 1)), (0, .ref (a 0)), (1, .int p1), (2, .int (nI k)), (3, .int (nI x)), (4, .int (nI w)), (5, .int (nI nn)), (6, .int (nI off)), (7, .int (nI o))]) hx hb dX4_linear_143 hl (by decide) rfl (fun ls hl => ?_)
                                      refine lv_aload_n hx hb dX4_linear_145 rfl (lv_at hl 4 rfl) ?_
                                      refine lv_iload hx hb dX4_linear_146 (lv_at hl 0 rfl) ?_
                                      refine lv_iload_n hx hb dX4_linear_148 rfl (lv_at hl 6 rfl) ?_
                                      refine vp_callSi (W.runV (As := [.int (nI (x + (i * w) + off)), .int (nI k)]) (rest := []) ⟨hx, hb, hml, hown, hts⟩ (c_X4_compare l dC dI cI a sz st us kp ga gl cs mem pl ln km ks kt ku kl kn cd (tkW sz mem p1 k o wt) (x + (i * w) + off) k (by omega) (by omega) bmem btk) (cwV 2 hts gX4_linear_X4_compare rfl rfl rfl (by decide +kernel) ⟨Nat.le_of_ble_eq_true rfl, Nat.le_of_ble_eq_true rfl⟩) ⟨fun a9 U g9 mk9 q9 => by obtain ⟨q0, qP, qK⟩ := q9; exact ⟨q0, qP, va_K.moved (u := U) (U := U.calling g9 mk9 a9) (Vm.Alike.refl U.vm) qK⟩, va_recv hK hP (ci := 4) (q0 := 0) rfl rfl, fun U hU hW => ⟨rfl, by rw [hU]; exact hP, va_K.moved hW.alike hK⟩⟩ rfl rfl hl.1 rfl (lv_room (Nat.le_of_ble_eq_true rfl)) dX4_linear_149 ⟨Nat.zero_le _, Nat.zero_le _⟩) (fun r_149 hw => ?_)
                                      try dsimp only at hw
                                      rcases hw with ⟨hc_149, rfl⟩ | ⟨hc_149, rfl⟩ | ⟨hc_149, rfl⟩
                                      · rw [hcm] at hc_149
                                        refine lv_if_ne (tgt := 169) hx hb dX4_linear_152 (by decide) (fun c_152 => ?_) (fun c_152 => ?_)
                                        · exact absurd c_152 (by decide)
                                        · have c_152 : 0 = 0 := (nZ_eq (by omega)).mp c_152
                                          refine lv_iload hx hb dX4_linear_155 (lv_at hl 3 rfl) ?_
                                          refine lv_if_eq (tgt := 165) hx hb dX4_linear_157 (by decide) (fun c_157 => ?_) (fun c_157 => ?_)
                                          · exact absurd c_157 (by decide)
                                          · have c_157 : ¬ 1 = 0 := fun q => c_157 ((nZ_eq (by omega)).mpr q)
                                            refine lv_iload hx hb dX4_linear_160 (lv_at hl 2 rfl) ?_
                                            refine lv_goto (tgt := 168) hx hb dX4_linear_162 (by decide) ?_
                                            have e_wt : tkW sz mem p1 k o wt = lnW sz mem wt p1 (nI k) (nI x) (nI w) (nI nn) (nI off) (nI o) := by unfold lnW; rw [if_neg hnb, show cl (nI k) = k from nI_clamp (by omega), show cl (nI o) = o from nI_clamp (by omega)]
                                            have hP : va_P (dC, dI) vwCl (mw cI a sz st us kp ga gl cs mem pl ln km ks kt ku kl kn cd (lnW sz mem wt p1 (nI k) (nI x) (nI w) (nI nn) (nI off) (nI o))) H := by rw [← e_wt]; exact hP
                                            have hD : va_D A (mw cI a sz st us kp ga gl cs mem pl ln km ks kt ku kl kn cd (lnW sz mem wt p1 (nI k) (nI x) (nI w) (nI nn) (nI off) (nI o))) := by rw [← e_wt]; exact hD
                                            exact W.iret (v := (nI i)) hx hb hr (fun t ht hW => ⟨⟨(nI i), (), rfl, (show (nI i) = lnR sz mem p1 (nI k) (nI x) (nI w) (nI nn) (nI off) (nI o) from by rw [hR, hv, lnF_s (by omega), if_neg (by omega), if_neg (by omega), if_neg (by omega), if_pos hc_149, if_pos (by omega)]), by rw [ht]; exact hP, va_K.moved hW.alike hK, hD⟩, hS.F ht⟩) hS.2.2 dX4_linear_168
                                      · rw [hcm] at hc_149
                                        refine lv_if_ne (tgt := 169) hx hb dX4_linear_152 (by decide) (fun c_152 => ?_) (fun c_152 => ?_)
                                        · refine lv_iload hx hb dX4_linear_169 (lv_at hl 11 rfl) ?_
                                          refine lv_iconst (v := (nI 2)) hx hb dX4_linear_171 (by decide) ?_
                                          refine lv_iand hx hb dX4_linear_172 ?_
                                          refine tpi (and2 (by omega)) ?_
                                          refine lv_iconst (v := (nI 2)) hx hb dX4_linear_173 (by decide) ?_
                                          refine lv_icmp_ne (tgt := 198) hx hb dX4_linear_174 (by decide) (fun c_174 => ?_) (fun c_174 => ?_)
                                          · have c_174 : ¬ o / 2 % 2 * 2 = 2 := fun q => c_174 ((nI_eq (a := o / 2 % 2 * 2) (b := 2) (by omega) (by omega)).mpr q)
                                            refine lv_iinc (v := (nI (i + 1))) (lv' := [(9, .int (nI (i + 1))), (12, .int (nI (x + (i * w) + off))), (10, .long (lN (x + (i * w)))), (8, .int (nI 1)), (0, .ref (a 0)), (1, .int p1), (2, .int (nI k)), (3, .int (nI x)), (4, .int (nI w)), (5, .int (nI nn)), (6, .int (nI off)), (7, .int (nI o))]) hx hb dX4_linear_198 hl (k := 2) rfl (nI_inc _) (by decide) rfl (fun ls hl => ?_)
                                            refine lv_goto (tgt := 74) hx hb dX4_linear_201 (by decide) ?_
                                            exact ih_74 (i + 1) (⟨by omega, by rw [hv, lnF_s (by omega), if_neg (by omega), if_neg (by omega), if_neg (by omega), if_neg (by rw [hc_149]; decide), if_neg (fun q => absurd q.1 (by omega))]⟩) (show 3001 - (i + 1) < 3001 - i by omega) ls (lv_sub hl [0, 3, 4, 5, 6, 7, 8, 9, 10, 11] rfl)
                                          · have c_174 : o / 2 % 2 * 2 = 2 := (nI_eq (a := o / 2 % 2 * 2) (b := 2) (by omega) (by omega)).mp c_174
                                            refine lv_aload_n hx hb dX4_linear_177 rfl (lv_at hl 4 rfl) ?_
                                            refine lv_iload hx hb dX4_linear_178 (lv_at hl 0 rfl) ?_
                                            refine lv_iload_n hx hb dX4_linear_180 rfl (lv_at hl 6 rfl) ?_
                                            refine vp_callSi (W.runV (As := [.int (nI (x + (i * w) + off)), .int (nI k)]) (rest := []) ⟨hx, hb, hml, hown, hts⟩ (c_X4_isZero l dC dI cI a sz st us kp ga gl cs mem pl ln km ks kt ku kl kn cd (tkW sz mem p1 k o wt) (x + (i * w) + off) k (by omega) (by omega) bmem) (cwV 2 hts gX4_linear_X4_isZero rfl rfl rfl (by decide +kernel) ⟨Nat.le_of_ble_eq_true rfl, Nat.le_of_ble_eq_true rfl⟩) ⟨fun a9 U g9 mk9 q9 => by obtain ⟨q0, qP, qK⟩ := q9; exact ⟨q0, qP, va_K.moved (u := U) (U := U.calling g9 mk9 a9) (Vm.Alike.refl U.vm) qK⟩, va_recv hK hP (ci := 4) (q0 := 0) rfl rfl, fun U hU hW => ⟨rfl, by rw [hU]; exact hP, va_K.moved hW.alike hK⟩⟩ rfl rfl hl.1 rfl (lv_room (Nat.le_of_ble_eq_true rfl)) dX4_linear_181 ⟨Nat.zero_le _, Nat.zero_le _⟩) (fun r_181 hw => ?_)
                                            try dsimp only at hw
                                            rcases hw with ⟨hc_181, rfl⟩ | ⟨hc_181, rfl⟩
                                            · skip
                                              refine lv_if_eq (tgt := 198) hx hb dX4_linear_184 (by decide) (fun c_184 => ?_) (fun c_184 => ?_)
                                              · exact absurd c_184 (by decide)
                                              · have c_184 : ¬ 1 = 0 := fun q => c_184 ((nZ_eq (by omega)).mpr q)
                                                refine lv_iload hx hb dX4_linear_187 (lv_at hl 3 rfl) ?_
                                                refine lv_if_eq (tgt := 196) hx hb dX4_linear_189 (by decide) (fun c_189 => ?_) (fun c_189 => ?_)
                                                · exact absurd c_189 (by decide)
                                                · have c_189 : ¬ 1 = 0 := fun q => c_189 ((nZ_eq (by omega)).mpr q)
                                                  refine lv_iconst (v := ((-1))) hx hb dX4_linear_192 (by decide) ?_
                                                  refine lv_goto (tgt := 197) hx hb dX4_linear_193 (by decide) ?_
                                                  have e_wt : tkW sz mem p1 k o wt = lnW sz mem wt p1 (nI k) (nI x) (nI w) (nI nn) (nI off) (nI o) := by unfold lnW; rw [if_neg hnb, show cl (nI k) = k from nI_clamp (by omega), show cl (nI o) = o from nI_clamp (by omega)]
                                                  have hP : va_P (dC, dI) vwCl (mw cI a sz st us kp ga gl cs mem pl ln km ks kt ku kl kn cd (lnW sz mem wt p1 (nI k) (nI x) (nI w) (nI nn) (nI off) (nI o))) H := by rw [← e_wt]; exact hP
                                                  have hD : va_D A (mw cI a sz st us kp ga gl cs mem pl ln km ks kt ku kl kn cd (lnW sz mem wt p1 (nI k) (nI x) (nI w) (nI nn) (nI off) (nI o))) := by rw [← e_wt]; exact hD
                                                  exact W.iret (v := ((-1))) hx hb hr (fun t ht hW => ⟨⟨((-1)), (), rfl, (show ((-1)) = lnR sz mem p1 (nI k) (nI x) (nI w) (nI nn) (nI off) (nI o) from by rw [hR, hv, lnF_s (by omega), if_neg (by omega), if_neg (by omega), if_neg (by omega), if_neg (by rw [hc_149]; decide), if_pos ⟨by omega, allZb_t hc_181⟩]; unfold noA; rw [if_pos (by omega)]), by rw [ht]; exact hP, va_K.moved hW.alike hK, hD⟩, hS.F ht⟩) hS.2.2 dX4_linear_197
                                            · skip
                                              refine lv_if_eq (tgt := 198) hx hb dX4_linear_184 (by decide) (fun c_184 => ?_) (fun c_184 => ?_)
                                              · have c_184 : 0 = 0 := (nZ_eq (by omega)).mp c_184
                                                refine lv_iinc (v := (nI (i + 1))) (lv' := [(9, .int (nI (i + 1))), (12, .int (nI (x + (i * w) + off))), (10, .long (lN (x + (i * w)))), (8, .int (nI 1)), (0, .ref (a 0)), (1, .int p1), (2, .int (nI k)), (3, .int (nI x)), (4, .int (nI w)), (5, .int (nI nn)), (6, .int (nI off)), (7, .int (nI o))]) hx hb dX4_linear_198 hl (k := 2) rfl (nI_inc _) (by decide) rfl (fun ls hl => ?_)
                                                refine lv_goto (tgt := 74) hx hb dX4_linear_201 (by decide) ?_
                                                exact ih_74 (i + 1) (⟨by omega, by rw [hv, lnF_s (by omega), if_neg (by omega), if_neg (by omega), if_neg (by omega), if_neg (by rw [hc_149]; decide), if_neg (fun q => by rw [allZb_f hc_181] at q; exact absurd q.2 (by decide))]⟩) (show 3001 - (i + 1) < 3001 - i by omega) ls (lv_sub hl [0, 3, 4, 5, 6, 7, 8, 9, 10, 11] rfl)
                                              · exact absurd c_184 (by decide)
                                        · exact absurd c_152 (by decide)
                                      · rw [hcm] at hc_149
                                        refine lv_if_ne (tgt := 169) hx hb dX4_linear_152 (by decide) (fun c_152 => ?_) (fun c_152 => ?_)
                                        · have c_152 : ¬ 1 = 0 := fun q => c_152 ((nZ_eq (by omega)).mpr q)
                                          refine lv_iload hx hb dX4_linear_169 (lv_at hl 11 rfl) ?_
                                          refine lv_iconst (v := (nI 2)) hx hb dX4_linear_171 (by decide) ?_
                                          refine lv_iand hx hb dX4_linear_172 ?_
                                          refine tpi (and2 (by omega)) ?_
                                          refine lv_iconst (v := (nI 2)) hx hb dX4_linear_173 (by decide) ?_
                                          refine lv_icmp_ne (tgt := 198) hx hb dX4_linear_174 (by decide) (fun c_174 => ?_) (fun c_174 => ?_)
                                          · have c_174 : ¬ o / 2 % 2 * 2 = 2 := fun q => c_174 ((nI_eq (a := o / 2 % 2 * 2) (b := 2) (by omega) (by omega)).mpr q)
                                            refine lv_iinc (v := (nI (i + 1))) (lv' := [(9, .int (nI (i + 1))), (12, .int (nI (x + (i * w) + off))), (10, .long (lN (x + (i * w)))), (8, .int (nI 1)), (0, .ref (a 0)), (1, .int p1), (2, .int (nI k)), (3, .int (nI x)), (4, .int (nI w)), (5, .int (nI nn)), (6, .int (nI off)), (7, .int (nI o))]) hx hb dX4_linear_198 hl (k := 2) rfl (nI_inc _) (by decide) rfl (fun ls hl => ?_)
                                            refine lv_goto (tgt := 74) hx hb dX4_linear_201 (by decide) ?_
                                            exact ih_74 (i + 1) (⟨by omega, by rw [hv, lnF_s (by omega), if_neg (by omega), if_neg (by omega), if_neg (by omega), if_neg (by rw [hc_149]; decide), if_neg (fun q => absurd q.1 (by omega))]⟩) (show 3001 - (i + 1) < 3001 - i by omega) ls (lv_sub hl [0, 3, 4, 5, 6, 7, 8, 9, 10, 11] rfl)
                                          · have c_174 : o / 2 % 2 * 2 = 2 := (nI_eq (a := o / 2 % 2 * 2) (b := 2) (by omega) (by omega)).mp c_174
                                            refine lv_aload_n hx hb dX4_linear_177 rfl (lv_at hl 4 rfl) ?_
                                            refine lv_iload hx hb dX4_linear_178 (lv_at hl 0 rfl) ?_
                                            refine lv_iload_n hx hb dX4_linear_180 rfl (lv_at hl 6 rfl) ?_
                                            refine vp_callSi (W.runV (As := [.int (nI (x + (i * w) + off)), .int (nI k)]) (rest := []) ⟨hx, hb, hml, hown, hts⟩ (c_X4_isZero l dC dI cI a sz st us kp ga gl cs mem pl ln km ks kt ku kl kn cd (tkW sz mem p1 k o wt) (x + (i * w) + off) k (by omega) (by omega) bmem) (cwV 2 hts gX4_linear_X4_isZero rfl rfl rfl (by decide +kernel) ⟨Nat.le_of_ble_eq_true rfl, Nat.le_of_ble_eq_true rfl⟩) ⟨fun a9 U g9 mk9 q9 => by obtain ⟨q0, qP, qK⟩ := q9; exact ⟨q0, qP, va_K.moved (u := U) (U := U.calling g9 mk9 a9) (Vm.Alike.refl U.vm) qK⟩, va_recv hK hP (ci := 4) (q0 := 0) rfl rfl, fun U hU hW => ⟨rfl, by rw [hU]; exact hP, va_K.moved hW.alike hK⟩⟩ rfl rfl hl.1 rfl (lv_room (Nat.le_of_ble_eq_true rfl)) dX4_linear_181 ⟨Nat.zero_le _, Nat.zero_le _⟩) (fun r_181 hw => ?_)
                                            try dsimp only at hw
                                            rcases hw with ⟨hc_181, rfl⟩ | ⟨hc_181, rfl⟩
                                            · skip
                                              refine lv_if_eq (tgt := 198) hx hb dX4_linear_184 (by decide) (fun c_184 => ?_) (fun c_184 => ?_)
                                              · exact absurd c_184 (by decide)
                                              · have c_184 : ¬ 1 = 0 := fun q => c_184 ((nZ_eq (by omega)).mpr q)
                                                refine lv_iload hx hb dX4_linear_187 (lv_at hl 3 rfl) ?_
                                                refine lv_if_eq (tgt := 196) hx hb dX4_linear_189 (by decide) (fun c_189 => ?_) (fun c_189 => ?_)
                                                · exact absurd c_189 (by decide)
                                                · have c_189 : ¬ 1 = 0 := fun q => c_189 ((nZ_eq (by omega)).mpr q)
                                                  refine lv_iconst (v := ((-1))) hx hb dX4_linear_192 (by decide) ?_
                                                  refine lv_goto (tgt := 197) hx hb dX4_linear_193 (by decide) ?_
                                                  have e_wt : tkW sz mem p1 k o wt = lnW sz mem wt p1 (nI k) (nI x) (nI w) (nI nn) (nI off) (nI o) := by unfold lnW; rw [if_neg hnb, show cl (nI k) = k from nI_clamp (by omega), show cl (nI o) = o from nI_clamp (by omega)]
                                                  have hP : va_P (dC, dI) vwCl (mw cI a sz st us kp ga gl cs mem pl ln km ks kt ku kl kn cd (lnW sz mem wt p1 (nI k) (nI x) (nI w) (nI nn) (nI off) (nI o))) H := by rw [← e_wt]; exact hP
                                                  have hD : va_D A (mw cI a sz st us kp ga gl cs mem pl ln km ks kt ku kl kn cd (lnW sz mem wt p1 (nI k) (nI x) (nI w) (nI nn) (nI off) (nI o))) := by rw [← e_wt]; exact hD
                                                  exact W.iret (v := ((-1))) hx hb hr (fun t ht hW => ⟨⟨((-1)), (), rfl, (show ((-1)) = lnR sz mem p1 (nI k) (nI x) (nI w) (nI nn) (nI off) (nI o) from by rw [hR, hv, lnF_s (by omega), if_neg (by omega), if_neg (by omega), if_neg (by omega), if_neg (by rw [hc_149]; decide), if_pos ⟨by omega, allZb_t hc_181⟩]; unfold noA; rw [if_pos (by omega)]), by rw [ht]; exact hP, va_K.moved hW.alike hK, hD⟩, hS.F ht⟩) hS.2.2 dX4_linear_197
                                            · skip
                                              refine lv_if_eq (tgt := 198) hx hb dX4_linear_184 (by decide) (fun c_184 => ?_) (fun c_184 => ?_)
                                              · have c_184 : 0 = 0 := (nZ_eq (by omega)).mp c_184
                                                refine lv_iinc (v := (nI (i + 1))) (lv' := [(9, .int (nI (i + 1))), (12, .int (nI (x + (i * w) + off))), (10, .long (lN (x + (i * w)))), (8, .int (nI 1)), (0, .ref (a 0)), (1, .int p1), (2, .int (nI k)), (3, .int (nI x)), (4, .int (nI w)), (5, .int (nI nn)), (6, .int (nI off)), (7, .int (nI o))]) hx hb dX4_linear_198 hl (k := 2) rfl (nI_inc _) (by decide) rfl (fun ls hl => ?_)
                                                refine lv_goto (tgt := 74) hx hb dX4_linear_201 (by decide) ?_
                                                exact ih_74 (i + 1) (⟨by omega, by rw [hv, lnF_s (by omega), if_neg (by omega), if_neg (by omega), if_neg (by omega), if_neg (by rw [hc_149]; decide), if_neg (fun q => by rw [allZb_f hc_181] at q; exact absurd q.2 (by decide))]⟩) (show 3001 - (i + 1) < 3001 - i by omega) ls (lv_sub hl [0, 3, 4, 5, 6, 7, 8, 9, 10, 11] rfl)
                                              · exact absurd c_184 (by decide)
                                        · exact absurd c_152 (by decide)
                                    · have c_129 : k = 0 := (nZ_eq (by omega)).mp c_129
                                      omega
                                  · exact absurd c_122 (by decide)
                                · skip
                                  refine lv_if_ne (tgt := 128) hx hb dX4_linear_122 (by decide) (fun c_122 => ?_) (fun c_122 => ?_)
                                  · exact absurd c_122 (by decide)
                                  · have c_122 : 0 = 0 := (nZ_eq (by omega)).mp c_122
                                    refine lv_bipush (v := ((-12))) hx hb dX4_linear_125 (by decide) ?_
                                    have e_wt : tkW sz mem p1 k o wt = lnW sz mem wt p1 (nI k) (nI x) (nI w) (nI nn) (nI off) (nI o) := by unfold lnW; rw [if_neg hnb, show cl (nI k) = k from nI_clamp (by omega), show cl (nI o) = o from nI_clamp (by omega)]
                                    have hP : va_P (dC, dI) vwCl (mw cI a sz st us kp ga gl cs mem pl ln km ks kt ku kl kn cd (lnW sz mem wt p1 (nI k) (nI x) (nI w) (nI nn) (nI off) (nI o))) H := by rw [← e_wt]; exact hP
                                    have hD : va_D A (mw cI a sz st us kp ga gl cs mem pl ln km ks kt ku kl kn cd (lnW sz mem wt p1 (nI k) (nI x) (nI w) (nI nn) (nI off) (nI o))) := by rw [← e_wt]; exact hD
                                    exact W.iret (v := ((-12))) hx hb hr (fun t ht hW => ⟨⟨((-12)), (), rfl, (show ((-12)) = lnR sz mem p1 (nI k) (nI x) (nI w) (nI nn) (nI off) (nI o) from by rw [hR, hv, lnF_s (by omega), if_neg (by omega), if_neg (by omega), if_pos (by omega)]), by rw [ht]; exact hP, va_K.moved hW.alike hK, hD⟩, hS.F ht⟩) hS.2.2 dX4_linear_127
                              · have c_92 : i = 3000 := (nI_eq (a := i) (b := 3000) (by omega) (by omega)).mp c_92
                                refine lv_bipush (v := ((-16))) hx hb dX4_linear_95 (by decide) ?_
                                have e_wt : tkW sz mem p1 k o wt = lnW sz mem wt p1 (nI k) (nI x) (nI w) (nI nn) (nI off) (nI o) := by unfold lnW; rw [if_neg hnb, show cl (nI k) = k from nI_clamp (by omega), show cl (nI o) = o from nI_clamp (by omega)]
                                have hP : va_P (dC, dI) vwCl (mw cI a sz st us kp ga gl cs mem pl ln km ks kt ku kl kn cd (lnW sz mem wt p1 (nI k) (nI x) (nI w) (nI nn) (nI off) (nI o))) H := by rw [← e_wt]; exact hP
                                have hD : va_D A (mw cI a sz st us kp ga gl cs mem pl ln km ks kt ku kl kn cd (lnW sz mem wt p1 (nI k) (nI x) (nI w) (nI nn) (nI off) (nI o))) := by rw [← e_wt]; exact hD
                                exact W.iret (v := ((-16))) hx hb hr (fun t ht hW => ⟨⟨((-16)), (), rfl, (show ((-16)) = lnR sz mem p1 (nI k) (nI x) (nI w) (nI nn) (nI off) (nI o) from by rw [hR, hv, lnF_s (by omega), if_neg (by omega), if_pos (by omega)]), by rw [ht]; exact hP, va_K.moved hW.alike hK, hD⟩, hS.F ht⟩) hS.2.2 dX4_linear_97
                    · exact absurd c_52 (by decide)
                  · skip
                    refine lv_if_ne (tgt := 58) hx hb dX4_linear_52 (by decide) (fun c_52 => ?_) (fun c_52 => ?_)
                    · exact absurd c_52 (by decide)
                    · have c_52 : 0 = 0 := (nZ_eq (by omega)).mp c_52
                      refine lv_bipush (v := ((-12))) hx hb dX4_linear_55 (by decide) ?_
                      have e_wt : tkW sz mem p1 k o wt = lnW sz mem wt p1 (nI k) (nI x) (nI w) p5 (nI off) (nI o) := by unfold lnW; rw [if_neg hnb, show cl (nI k) = k from nI_clamp (by omega), show cl (nI o) = o from nI_clamp (by omega)]
                      have hP : va_P (dC, dI) vwCl (mw cI a sz st us kp ga gl cs mem pl ln km ks kt ku kl kn cd (lnW sz mem wt p1 (nI k) (nI x) (nI w) p5 (nI off) (nI o))) H := by rw [← e_wt]; exact hP
                      have hD : va_D A (mw cI a sz st us kp ga gl cs mem pl ln km ks kt ku kl kn cd (lnW sz mem wt p1 (nI k) (nI x) (nI w) p5 (nI off) (nI o))) := by rw [← e_wt]; exact hD
                      exact W.iret (v := ((-12))) hx hb hr (fun t ht hW => ⟨⟨((-12)), (), rfl, (show ((-12)) = lnR sz mem p1 (nI k) (nI x) (nI w) p5 (nI off) (nI o) from by unfold lnR; rw [if_neg hnb, show cl (nI k) = k from nI_clamp (by omega), show cl (nI o) = o from nI_clamp (by omega), if_pos htk]), by rw [ht]; exact hP, va_K.moved hW.alike hK, hD⟩, hS.F ht⟩) hS.2.2 dX4_linear_57
                · exact absurd c_38 (by decide)
              · have hkb := isKb_f hc_35
                refine lv_if_ne (tgt := 44) hx hb dX4_linear_38 (by decide) (fun c_38 => ?_) (fun c_38 => ?_)
                · exact absurd c_38 (by decide)
                · have c_38 : 0 = 0 := (nZ_eq (by omega)).mp c_38
                  refine lv_bipush (v := ((-11))) hx hb dX4_linear_41 (by decide) ?_
                  have e_wt : wt = lnW sz mem wt p1 p2 (nI x) (nI w) p5 (nI off) (nI o) := by unfold lnW; rw [if_pos (by first | exact Or.inl c_2 | exact Or.inr (Or.inl c_8) | exact Or.inr (Or.inr (Or.inl c_13)) | exact Or.inr (Or.inr (Or.inr (Or.inl c_17))) | exact Or.inr (Or.inr (Or.inr (Or.inr (Or.inl c_22)))) | exact Or.inr (Or.inr (Or.inr (Or.inr (Or.inr (Or.inl ((nI_ltI (by omega) (by omega)).mpr c_29)))))) | exact Or.inr (Or.inr (Or.inr (Or.inr (Or.inr (Or.inr (by rw [show cl (nI o) = o from nI_clamp (by omega)]; exact hkb)))))))]
                  have hP : va_P (dC, dI) vwCl (mw cI a sz st us kp ga gl cs mem pl ln km ks kt ku kl kn cd (lnW sz mem wt p1 p2 (nI x) (nI w) p5 (nI off) (nI o))) s.heap := by rw [← e_wt]; exact hP
                  have hD : va_D A (mw cI a sz st us kp ga gl cs mem pl ln km ks kt ku kl kn cd (lnW sz mem wt p1 p2 (nI x) (nI w) p5 (nI off) (nI o))) := by rw [← e_wt]; exact hD
                  exact W.iret (v := ((-11))) hx hb hr (fun t ht hW => ⟨⟨((-11)), (), rfl, (show ((-11)) = lnR sz mem p1 p2 (nI x) (nI w) p5 (nI off) (nI o) from by unfold lnR; rw [if_pos (by first | exact Or.inl c_2 | exact Or.inr (Or.inl c_8) | exact Or.inr (Or.inr (Or.inl c_13)) | exact Or.inr (Or.inr (Or.inr (Or.inl c_17))) | exact Or.inr (Or.inr (Or.inr (Or.inr (Or.inl c_22)))) | exact Or.inr (Or.inr (Or.inr (Or.inr (Or.inr (Or.inl ((nI_ltI (by omega) (by omega)).mpr c_29)))))) | exact Or.inr (Or.inr (Or.inr (Or.inr (Or.inr (Or.inr (by rw [show cl (nI o) = o from nI_clamp (by omega)]; exact hkb)))))))]), by rw [ht]; exact hP, va_K.moved hW.alike hK, hD⟩, hS.F ht⟩) hS.2.2 dX4_linear_43
set_option maxHeartbeats 4000000 in
set_option maxRecDepth 100000 in
theorem c_X4_binary (l : Launch) (dC : Nat → ClassId) (dI : Nat → Nat → Nat) (cI : ClassId) (a : Nat → Nat) (sz st us kp ga gl cs : Nat) (mem pl ln km ks kt ku kl kn cd wt : Nat → Nat) (zz : Nat) (p1 p2 p3 p4 p5 p6 p7 : Int32) (bmem : ∀ j, mem j < 256) (bwt : ∀ j, wt j < 256) (g3 : sz ≤ 8192) : Met l yX4_binary wsX4_binary ({ frames := 2, cells := 0, slots := 0, locals := 48 }) (va_Pc [.ref (a 0), .int p1, .int p2, .int p3, .int p4, .int p5, .int p6, .int p7] (fun U => U.heap.size = zz ∧ va_P (dC, dI) vwCl (mw cI a sz st us kp ga gl cs mem pl ln km ks kt ku kl kn cd wt) U.heap ∧ va_K (dC, dI) vwCl [(cI, .int)] U ∧ va_D (fun _ => True) (mw cI a sz st us kp ga gl cs mem pl ln km ks kt ku kl kn cd wt))) (va_Qi (fun r _ => r = bnR sz mem p1 p2 p3 p4 p5 p6 p7) (fun (_ : Unit) t => va_P (dC, dI) vwCl (mw cI a sz st us kp ga gl cs mem pl ln km ks kt ku kl kn cd (bnW sz mem wt p1 p2 p3 p4 p5 p6 p7)) t.heap ∧ va_K (dC, dI) vwCl [(cI, .int)] t ∧ va_D (va_A (mw cI a sz st us kp ga gl cs mem pl ln km ks kt ku kl kn cd wt) zz) (mw cI a sz st us kp ga gl cs mem pl ln km ks kt ku kl kn cd (bnW sz mem wt p1 p2 p3 p4 p5 p6 p7))) (va_A (mw cI a sz st us kp ga gl cs mem pl ln km ks kt ku kl kn cd wt) zz)) 0 0 (va_A (mw cI a sz st us kp ga gl cs mem pl ln km ks kt ku kl kn cd wt) zz) := by
  refine Met.ofW (cc := cX4_binary) (maxL := 18) (ret := (some .int)) (by decide) rfl ?_
  intro p e s m args below meth c s₁ B hml hv
  obtain ⟨rfl, hsz, hP, hK, hD0⟩ := hv
  have hx := B.exec
  have hb := B.bytes
  have hr := B.returns
  have hts := atoms_spec (ws := wsX4_binary) B.pre
  have hown : s.vm.findClass RX4 = some m.cls := findClass_of_methodNamed B.named
  have hlocks := B.notSynchronized
  subst hsz
  have hD := hD0.self (sz := s.heap.size)
  generalize hAe : va_A (mw cI a sz st us kp ga gl cs mem pl ln km ks kt ku kl kn cd wt) s.heap.size = A at hD ⊢
  have hA : ∀ q : Nat, s.heap.size ≤ q → A q := fun q h => by rw [← hAe]; exact Or.inr h
  have hS : va_S A s.heap s.heap [] := va_S.rf
  have hP : va_P (dC, dI) vwCl (mw cI a sz st us kp ga gl cs mem pl ln km ks kt ku kl kn cd wt) s.heap := hP
  have lk_1 := hts (.constantLong RX4 111 (2)) (List.mem_of_getElem? (i := 1) rfl)
  have hl := lv_entry ([.ref (a 0), .int p1, .int p2, .int p3, .int p4, .int p5, .int p6, .int p7]) (n := 18) (Nat.le_of_ble_eq_true rfl)
  rw [lg_entry_eq]
  generalize (lg_sl ([.ref (a 0), .int p1, .int p2, .int p3, .int p4, .int p5, .int p6, .int p7]) ++ List.replicate (18 - (lg_sl ([.ref (a 0), .int p1, .int p2, .int p3, .int p4, .int p5, .int p6, .int p7])).length) Slot.unset).toArray = ls at hl ⊢
  have hl : lv_has ls 18 [(0, .ref (a 0)), (1, .int p1), (2, .int p2), (3, .int p3), (4, .int p4), (5, .int p5), (6, .int p6), (7, .int p7)] := hl
  refine lv_iload hx hb dX4_binary_0 (lv_at hl 4 rfl) ?_
  refine lv_if_lt (tgt := 48) hx hb dX4_binary_2 (by decide) (fun c_2 => ?_) (fun c_2 => ?_)
  · refine lv_bipush (v := ((-11))) hx hb dX4_binary_48 (by decide) ?_
    have e_wt : wt = bnW sz mem wt p1 p2 p3 p4 p5 p6 p7 := by unfold bnW; rw [if_pos (by first | exact Or.inl c_2 | exact Or.inr (Or.inl c_7) | exact Or.inr (Or.inr (Or.inl c_12)) | exact Or.inr (Or.inr (Or.inr (Or.inl c_16))) | exact Or.inr (Or.inr (Or.inr (Or.inr (Or.inl c_21)))) | exact Or.inr (Or.inr (Or.inr (Or.inr (Or.inr (Or.inl ((nI_ltI (by omega) (by omega)).mpr c_28)))))) | exact Or.inr (Or.inr (Or.inr (Or.inr (Or.inr (Or.inr (Or.inl (by rw [show cl (nI o) = o from nI_clamp (by omega)]; omega))))))) | exact Or.inr (Or.inr (Or.inr (Or.inr (Or.inr (Or.inr (Or.inr (by rw [show cl (nI o) = o from nI_clamp (by omega)]; exact hkb))))))))]
    have hP : va_P (dC, dI) vwCl (mw cI a sz st us kp ga gl cs mem pl ln km ks kt ku kl kn cd (bnW sz mem wt p1 p2 p3 p4 p5 p6 p7)) s.heap := by rw [← e_wt]; exact hP
    have hD : va_D A (mw cI a sz st us kp ga gl cs mem pl ln km ks kt ku kl kn cd (bnW sz mem wt p1 p2 p3 p4 p5 p6 p7)) := by rw [← e_wt]; exact hD
    exact W.iret (v := ((-11))) hx hb hr (fun t ht hW => ⟨⟨((-11)), (), rfl, (show ((-11)) = bnR sz mem p1 p2 p3 p4 p5 p6 p7 from by unfold bnR; rw [if_pos (by first | exact Or.inl c_2 | exact Or.inr (Or.inl c_7) | exact Or.inr (Or.inr (Or.inl c_12)) | exact Or.inr (Or.inr (Or.inr (Or.inl c_16))) | exact Or.inr (Or.inr (Or.inr (Or.inr (Or.inl c_21)))) | exact Or.inr (Or.inr (Or.inr (Or.inr (Or.inr (Or.inl ((nI_ltI (by omega) (by omega)).mpr c_28)))))) | exact Or.inr (Or.inr (Or.inr (Or.inr (Or.inr (Or.inr (Or.inl (by rw [show cl (nI o) = o from nI_clamp (by omega)]; omega))))))) | exact Or.inr (Or.inr (Or.inr (Or.inr (Or.inr (Or.inr (Or.inr (by rw [show cl (nI o) = o from nI_clamp (by omega)]; exact hkb))))))))]), by rw [ht]; exact hP, va_K.moved hW.alike hK, hD⟩, hS.F ht⟩) hS.2.2 dX4_binary_50
  · obtain ⟨w, n_w, rfl⟩ := nI_of c_2
    refine lv_iload hx hb dX4_binary_5 (lv_at hl 5 rfl) ?_
    refine lv_if_lt (tgt := 48) hx hb dX4_binary_7 (by decide) (fun c_7 => ?_) (fun c_7 => ?_)
    · refine lv_bipush (v := ((-11))) hx hb dX4_binary_48 (by decide) ?_
      have e_wt : wt = bnW sz mem wt p1 p2 p3 (nI w) p5 p6 p7 := by unfold bnW; rw [if_pos (by first | exact Or.inl c_2 | exact Or.inr (Or.inl c_7) | exact Or.inr (Or.inr (Or.inl c_12)) | exact Or.inr (Or.inr (Or.inr (Or.inl c_16))) | exact Or.inr (Or.inr (Or.inr (Or.inr (Or.inl c_21)))) | exact Or.inr (Or.inr (Or.inr (Or.inr (Or.inr (Or.inl ((nI_ltI (by omega) (by omega)).mpr c_28)))))) | exact Or.inr (Or.inr (Or.inr (Or.inr (Or.inr (Or.inr (Or.inl (by rw [show cl (nI o) = o from nI_clamp (by omega)]; omega))))))) | exact Or.inr (Or.inr (Or.inr (Or.inr (Or.inr (Or.inr (Or.inr (by rw [show cl (nI o) = o from nI_clamp (by omega)]; exact hkb))))))))]
      have hP : va_P (dC, dI) vwCl (mw cI a sz st us kp ga gl cs mem pl ln km ks kt ku kl kn cd (bnW sz mem wt p1 p2 p3 (nI w) p5 p6 p7)) s.heap := by rw [← e_wt]; exact hP
      have hD : va_D A (mw cI a sz st us kp ga gl cs mem pl ln km ks kt ku kl kn cd (bnW sz mem wt p1 p2 p3 (nI w) p5 p6 p7)) := by rw [← e_wt]; exact hD
      exact W.iret (v := ((-11))) hx hb hr (fun t ht hW => ⟨⟨((-11)), (), rfl, (show ((-11)) = bnR sz mem p1 p2 p3 (nI w) p5 p6 p7 from by unfold bnR; rw [if_pos (by first | exact Or.inl c_2 | exact Or.inr (Or.inl c_7) | exact Or.inr (Or.inr (Or.inl c_12)) | exact Or.inr (Or.inr (Or.inr (Or.inl c_16))) | exact Or.inr (Or.inr (Or.inr (Or.inr (Or.inl c_21)))) | exact Or.inr (Or.inr (Or.inr (Or.inr (Or.inr (Or.inl ((nI_ltI (by omega) (by omega)).mpr c_28)))))) | exact Or.inr (Or.inr (Or.inr (Or.inr (Or.inr (Or.inr (Or.inl (by rw [show cl (nI o) = o from nI_clamp (by omega)]; omega))))))) | exact Or.inr (Or.inr (Or.inr (Or.inr (Or.inr (Or.inr (Or.inr (by rw [show cl (nI o) = o from nI_clamp (by omega)]; exact hkb))))))))]), by rw [ht]; exact hP, va_K.moved hW.alike hK, hD⟩, hS.F ht⟩) hS.2.2 dX4_binary_50
    · obtain ⟨n, n_n, rfl⟩ := nI_of c_7
      refine lv_iload hx hb dX4_binary_10 (lv_at hl 6 rfl) ?_
      refine lv_if_lt (tgt := 48) hx hb dX4_binary_12 (by decide) (fun c_12 => ?_) (fun c_12 => ?_)
      · refine lv_bipush (v := ((-11))) hx hb dX4_binary_48 (by decide) ?_
        have e_wt : wt = bnW sz mem wt p1 p2 p3 (nI w) (nI n) p6 p7 := by unfold bnW; rw [if_pos (by first | exact Or.inl c_2 | exact Or.inr (Or.inl c_7) | exact Or.inr (Or.inr (Or.inl c_12)) | exact Or.inr (Or.inr (Or.inr (Or.inl c_16))) | exact Or.inr (Or.inr (Or.inr (Or.inr (Or.inl c_21)))) | exact Or.inr (Or.inr (Or.inr (Or.inr (Or.inr (Or.inl ((nI_ltI (by omega) (by omega)).mpr c_28)))))) | exact Or.inr (Or.inr (Or.inr (Or.inr (Or.inr (Or.inr (Or.inl (by rw [show cl (nI o) = o from nI_clamp (by omega)]; omega))))))) | exact Or.inr (Or.inr (Or.inr (Or.inr (Or.inr (Or.inr (Or.inr (by rw [show cl (nI o) = o from nI_clamp (by omega)]; exact hkb))))))))]
        have hP : va_P (dC, dI) vwCl (mw cI a sz st us kp ga gl cs mem pl ln km ks kt ku kl kn cd (bnW sz mem wt p1 p2 p3 (nI w) (nI n) p6 p7)) s.heap := by rw [← e_wt]; exact hP
        have hD : va_D A (mw cI a sz st us kp ga gl cs mem pl ln km ks kt ku kl kn cd (bnW sz mem wt p1 p2 p3 (nI w) (nI n) p6 p7)) := by rw [← e_wt]; exact hD
        exact W.iret (v := ((-11))) hx hb hr (fun t ht hW => ⟨⟨((-11)), (), rfl, (show ((-11)) = bnR sz mem p1 p2 p3 (nI w) (nI n) p6 p7 from by unfold bnR; rw [if_pos (by first | exact Or.inl c_2 | exact Or.inr (Or.inl c_7) | exact Or.inr (Or.inr (Or.inl c_12)) | exact Or.inr (Or.inr (Or.inr (Or.inl c_16))) | exact Or.inr (Or.inr (Or.inr (Or.inr (Or.inl c_21)))) | exact Or.inr (Or.inr (Or.inr (Or.inr (Or.inr (Or.inl ((nI_ltI (by omega) (by omega)).mpr c_28)))))) | exact Or.inr (Or.inr (Or.inr (Or.inr (Or.inr (Or.inr (Or.inl (by rw [show cl (nI o) = o from nI_clamp (by omega)]; omega))))))) | exact Or.inr (Or.inr (Or.inr (Or.inr (Or.inr (Or.inr (Or.inr (by rw [show cl (nI o) = o from nI_clamp (by omega)]; exact hkb))))))))]), by rw [ht]; exact hP, va_K.moved hW.alike hK, hD⟩, hS.F ht⟩) hS.2.2 dX4_binary_50
      · obtain ⟨off, n_off, rfl⟩ := nI_of c_12
        refine lv_iload_n hx hb dX4_binary_15 rfl (lv_at hl 3 rfl) ?_
        refine lv_if_lt (tgt := 48) hx hb dX4_binary_16 (by decide) (fun c_16 => ?_) (fun c_16 => ?_)
        · refine lv_bipush (v := ((-11))) hx hb dX4_binary_48 (by decide) ?_
          have e_wt : wt = bnW sz mem wt p1 p2 p3 (nI w) (nI n) (nI off) p7 := by unfold bnW; rw [if_pos (by first | exact Or.inl c_2 | exact Or.inr (Or.inl c_7) | exact Or.inr (Or.inr (Or.inl c_12)) | exact Or.inr (Or.inr (Or.inr (Or.inl c_16))) | exact Or.inr (Or.inr (Or.inr (Or.inr (Or.inl c_21)))) | exact Or.inr (Or.inr (Or.inr (Or.inr (Or.inr (Or.inl ((nI_ltI (by omega) (by omega)).mpr c_28)))))) | exact Or.inr (Or.inr (Or.inr (Or.inr (Or.inr (Or.inr (Or.inl (by rw [show cl (nI o) = o from nI_clamp (by omega)]; omega))))))) | exact Or.inr (Or.inr (Or.inr (Or.inr (Or.inr (Or.inr (Or.inr (by rw [show cl (nI o) = o from nI_clamp (by omega)]; exact hkb))))))))]
          have hP : va_P (dC, dI) vwCl (mw cI a sz st us kp ga gl cs mem pl ln km ks kt ku kl kn cd (bnW sz mem wt p1 p2 p3 (nI w) (nI n) (nI off) p7)) s.heap := by rw [← e_wt]; exact hP
          have hD : va_D A (mw cI a sz st us kp ga gl cs mem pl ln km ks kt ku kl kn cd (bnW sz mem wt p1 p2 p3 (nI w) (nI n) (nI off) p7)) := by rw [← e_wt]; exact hD
          exact W.iret (v := ((-11))) hx hb hr (fun t ht hW => ⟨⟨((-11)), (), rfl, (show ((-11)) = bnR sz mem p1 p2 p3 (nI w) (nI n) (nI off) p7 from by unfold bnR; rw [if_pos (by first | exact Or.inl c_2 | exact Or.inr (Or.inl c_7) | exact Or.inr (Or.inr (Or.inl c_12)) | exact Or.inr (Or.inr (Or.inr (Or.inl c_16))) | exact Or.inr (Or.inr (Or.inr (Or.inr (Or.inl c_21)))) | exact Or.inr (Or.inr (Or.inr (Or.inr (Or.inr (Or.inl ((nI_ltI (by omega) (by omega)).mpr c_28)))))) | exact Or.inr (Or.inr (Or.inr (Or.inr (Or.inr (Or.inr (Or.inl (by rw [show cl (nI o) = o from nI_clamp (by omega)]; omega))))))) | exact Or.inr (Or.inr (Or.inr (Or.inr (Or.inr (Or.inr (Or.inr (by rw [show cl (nI o) = o from nI_clamp (by omega)]; exact hkb))))))))]), by rw [ht]; exact hP, va_K.moved hW.alike hK, hD⟩, hS.F ht⟩) hS.2.2 dX4_binary_50
        · obtain ⟨x, n_x, rfl⟩ := nI_of c_16
          refine lv_iload hx hb dX4_binary_19 (lv_at hl 7 rfl) ?_
          refine lv_if_lt (tgt := 48) hx hb dX4_binary_21 (by decide) (fun c_21 => ?_) (fun c_21 => ?_)
          · refine lv_bipush (v := ((-11))) hx hb dX4_binary_48 (by decide) ?_
            have e_wt : wt = bnW sz mem wt p1 p2 (nI x) (nI w) (nI n) (nI off) p7 := by unfold bnW; rw [if_pos (by first | exact Or.inl c_2 | exact Or.inr (Or.inl c_7) | exact Or.inr (Or.inr (Or.inl c_12)) | exact Or.inr (Or.inr (Or.inr (Or.inl c_16))) | exact Or.inr (Or.inr (Or.inr (Or.inr (Or.inl c_21)))) | exact Or.inr (Or.inr (Or.inr (Or.inr (Or.inr (Or.inl ((nI_ltI (by omega) (by omega)).mpr c_28)))))) | exact Or.inr (Or.inr (Or.inr (Or.inr (Or.inr (Or.inr (Or.inl (by rw [show cl (nI o) = o from nI_clamp (by omega)]; omega))))))) | exact Or.inr (Or.inr (Or.inr (Or.inr (Or.inr (Or.inr (Or.inr (by rw [show cl (nI o) = o from nI_clamp (by omega)]; exact hkb))))))))]
            have hP : va_P (dC, dI) vwCl (mw cI a sz st us kp ga gl cs mem pl ln km ks kt ku kl kn cd (bnW sz mem wt p1 p2 (nI x) (nI w) (nI n) (nI off) p7)) s.heap := by rw [← e_wt]; exact hP
            have hD : va_D A (mw cI a sz st us kp ga gl cs mem pl ln km ks kt ku kl kn cd (bnW sz mem wt p1 p2 (nI x) (nI w) (nI n) (nI off) p7)) := by rw [← e_wt]; exact hD
            exact W.iret (v := ((-11))) hx hb hr (fun t ht hW => ⟨⟨((-11)), (), rfl, (show ((-11)) = bnR sz mem p1 p2 (nI x) (nI w) (nI n) (nI off) p7 from by unfold bnR; rw [if_pos (by first | exact Or.inl c_2 | exact Or.inr (Or.inl c_7) | exact Or.inr (Or.inr (Or.inl c_12)) | exact Or.inr (Or.inr (Or.inr (Or.inl c_16))) | exact Or.inr (Or.inr (Or.inr (Or.inr (Or.inl c_21)))) | exact Or.inr (Or.inr (Or.inr (Or.inr (Or.inr (Or.inl ((nI_ltI (by omega) (by omega)).mpr c_28)))))) | exact Or.inr (Or.inr (Or.inr (Or.inr (Or.inr (Or.inr (Or.inl (by rw [show cl (nI o) = o from nI_clamp (by omega)]; omega))))))) | exact Or.inr (Or.inr (Or.inr (Or.inr (Or.inr (Or.inr (Or.inr (by rw [show cl (nI o) = o from nI_clamp (by omega)]; exact hkb))))))))]), by rw [ht]; exact hP, va_K.moved hW.alike hK, hD⟩, hS.F ht⟩) hS.2.2 dX4_binary_50
          · obtain ⟨o, n_o, rfl⟩ := nI_of c_21
            refine lv_iload hx hb dX4_binary_24 (lv_at hl 7 rfl) ?_
            refine lv_bipush (v := (nI 7)) hx hb dX4_binary_26 (by decide) ?_
            refine lv_icmp_gt (tgt := 48) hx hb dX4_binary_28 (by decide) (fun c_28 => ?_) (fun c_28 => ?_)
            · have c_28 : 7 < o := (nI_ltI (a := 7) (b := o) (by omega) (by omega)).mp c_28
              refine lv_bipush (v := ((-11))) hx hb dX4_binary_48 (by decide) ?_
              have e_wt : wt = bnW sz mem wt p1 p2 (nI x) (nI w) (nI n) (nI off) (nI o) := by unfold bnW; rw [if_pos (by first | exact Or.inl c_2 | exact Or.inr (Or.inl c_7) | exact Or.inr (Or.inr (Or.inl c_12)) | exact Or.inr (Or.inr (Or.inr (Or.inl c_16))) | exact Or.inr (Or.inr (Or.inr (Or.inr (Or.inl c_21)))) | exact Or.inr (Or.inr (Or.inr (Or.inr (Or.inr (Or.inl ((nI_ltI (by omega) (by omega)).mpr c_28)))))) | exact Or.inr (Or.inr (Or.inr (Or.inr (Or.inr (Or.inr (Or.inl (by rw [show cl (nI o) = o from nI_clamp (by omega)]; omega))))))) | exact Or.inr (Or.inr (Or.inr (Or.inr (Or.inr (Or.inr (Or.inr (by rw [show cl (nI o) = o from nI_clamp (by omega)]; exact hkb))))))))]
              have hP : va_P (dC, dI) vwCl (mw cI a sz st us kp ga gl cs mem pl ln km ks kt ku kl kn cd (bnW sz mem wt p1 p2 (nI x) (nI w) (nI n) (nI off) (nI o))) s.heap := by rw [← e_wt]; exact hP
              have hD : va_D A (mw cI a sz st us kp ga gl cs mem pl ln km ks kt ku kl kn cd (bnW sz mem wt p1 p2 (nI x) (nI w) (nI n) (nI off) (nI o))) := by rw [← e_wt]; exact hD
              exact W.iret (v := ((-11))) hx hb hr (fun t ht hW => ⟨⟨((-11)), (), rfl, (show ((-11)) = bnR sz mem p1 p2 (nI x) (nI w) (nI n) (nI off) (nI o) from by unfold bnR; rw [if_pos (by first | exact Or.inl c_2 | exact Or.inr (Or.inl c_7) | exact Or.inr (Or.inr (Or.inl c_12)) | exact Or.inr (Or.inr (Or.inr (Or.inl c_16))) | exact Or.inr (Or.inr (Or.inr (Or.inr (Or.inl c_21)))) | exact Or.inr (Or.inr (Or.inr (Or.inr (Or.inr (Or.inl ((nI_ltI (by omega) (by omega)).mpr c_28)))))) | exact Or.inr (Or.inr (Or.inr (Or.inr (Or.inr (Or.inr (Or.inl (by rw [show cl (nI o) = o from nI_clamp (by omega)]; omega))))))) | exact Or.inr (Or.inr (Or.inr (Or.inr (Or.inr (Or.inr (Or.inr (by rw [show cl (nI o) = o from nI_clamp (by omega)]; exact hkb))))))))]), by rw [ht]; exact hP, va_K.moved hW.alike hK, hD⟩, hS.F ht⟩) hS.2.2 dX4_binary_50
            · have c_28 : ¬ 7 < o := fun q => c_28 ((nI_ltI (a := 7) (b := o) (by omega) (by omega)).mpr q)
              refine lv_iload hx hb dX4_binary_31 (lv_at hl 7 rfl) ?_
              refine lv_iconst (v := (nI 2)) hx hb dX4_binary_33 (by decide) ?_
              refine lv_iand hx hb dX4_binary_34 ?_
              refine tpi (and2 (by omega)) ?_
              refine lv_iconst (v := (nI 2)) hx hb dX4_binary_35 (by decide) ?_
              refine lv_icmp_eq (tgt := 48) hx hb dX4_binary_36 (by decide) (fun c_36 => ?_) (fun c_36 => ?_)
              · have c_36 : o / 2 % 2 * 2 = 2 := (nI_eq (a := o / 2 % 2 * 2) (b := 2) (by omega) (by omega)).mp c_36
                refine lv_bipush (v := ((-11))) hx hb dX4_binary_48 (by decide) ?_
                have e_wt : wt = bnW sz mem wt p1 p2 (nI x) (nI w) (nI n) (nI off) (nI o) := by unfold bnW; rw [if_pos (by first | exact Or.inl c_2 | exact Or.inr (Or.inl c_7) | exact Or.inr (Or.inr (Or.inl c_12)) | exact Or.inr (Or.inr (Or.inr (Or.inl c_16))) | exact Or.inr (Or.inr (Or.inr (Or.inr (Or.inl c_21)))) | exact Or.inr (Or.inr (Or.inr (Or.inr (Or.inr (Or.inl ((nI_ltI (by omega) (by omega)).mpr c_28)))))) | exact Or.inr (Or.inr (Or.inr (Or.inr (Or.inr (Or.inr (Or.inl (by rw [show cl (nI o) = o from nI_clamp (by omega)]; omega))))))) | exact Or.inr (Or.inr (Or.inr (Or.inr (Or.inr (Or.inr (Or.inr (by rw [show cl (nI o) = o from nI_clamp (by omega)]; exact hkb))))))))]
                have hP : va_P (dC, dI) vwCl (mw cI a sz st us kp ga gl cs mem pl ln km ks kt ku kl kn cd (bnW sz mem wt p1 p2 (nI x) (nI w) (nI n) (nI off) (nI o))) s.heap := by rw [← e_wt]; exact hP
                have hD : va_D A (mw cI a sz st us kp ga gl cs mem pl ln km ks kt ku kl kn cd (bnW sz mem wt p1 p2 (nI x) (nI w) (nI n) (nI off) (nI o))) := by rw [← e_wt]; exact hD
                exact W.iret (v := ((-11))) hx hb hr (fun t ht hW => ⟨⟨((-11)), (), rfl, (show ((-11)) = bnR sz mem p1 p2 (nI x) (nI w) (nI n) (nI off) (nI o) from by unfold bnR; rw [if_pos (by first | exact Or.inl c_2 | exact Or.inr (Or.inl c_7) | exact Or.inr (Or.inr (Or.inl c_12)) | exact Or.inr (Or.inr (Or.inr (Or.inl c_16))) | exact Or.inr (Or.inr (Or.inr (Or.inr (Or.inl c_21)))) | exact Or.inr (Or.inr (Or.inr (Or.inr (Or.inr (Or.inl ((nI_ltI (by omega) (by omega)).mpr c_28)))))) | exact Or.inr (Or.inr (Or.inr (Or.inr (Or.inr (Or.inr (Or.inl (by rw [show cl (nI o) = o from nI_clamp (by omega)]; omega))))))) | exact Or.inr (Or.inr (Or.inr (Or.inr (Or.inr (Or.inr (Or.inr (by rw [show cl (nI o) = o from nI_clamp (by omega)]; exact hkb))))))))]), by rw [ht]; exact hP, va_K.moved hW.alike hK, hD⟩, hS.F ht⟩) hS.2.2 dX4_binary_50
              · have c_36 : ¬ o / 2 % 2 * 2 = 2 := fun q => c_36 ((nI_eq (a := o / 2 % 2 * 2) (b := 2) (by omega) (by omega)).mpr q)
                refine lv_iload_n hx hb dX4_binary_39 rfl (lv_at hl 2 rfl) ?_
                refine lv_iload hx hb dX4_binary_40 (lv_at hl 7 rfl) ?_
                refine vp_callSi (W.runS (As := [.int p2, .int (nI o)]) (rest := []) ⟨hx, hb, hml, hown, hts⟩ (c_X4_isKey l p2 o (by omega)) (va_cwS 2 hts gX4_binary_X4_isKey rfl rfl rfl (by decide +kernel) ⟨Nat.le_of_ble_eq_true rfl, Nat.le_of_ble_eq_true rfl⟩) ⟨fun a9 U g9 mk9 q9 => ⟨q9.1, trivial⟩, fun U hU hW => ⟨rfl, trivial⟩⟩ rfl rfl hl.1 rfl (lv_room (Nat.le_of_ble_eq_true rfl)) dX4_binary_42 ⟨Nat.zero_le _, Nat.zero_le _⟩) (fun r_42 hw => ?_)
                try dsimp only at hw
                rcases hw with ⟨hc_42, rfl⟩ | ⟨hc_42, rfl⟩
                · have hkb := isKb_t hc_42
                  obtain ⟨k, hk1, hk2, rfl, hk4⟩ := isK_nat hc_42
                  refine lv_if_ne (tgt := 51) hx hb dX4_binary_45 (by decide) (fun c_45 => ?_) (fun c_45 => ?_)
                  · have c_45 : ¬ 1 = 0 := fun q => c_45 ((nZ_eq (by omega)).mpr q)
                    have hnb : ¬ badB (nI k) (nI x) (nI w) (nI n) (nI off) (nI o) := by
                      rintro (q | q | q | q | q | q | q | q)
                      · exact c_2 q
                      · exact c_7 q
                      · exact c_12 q
                      · exact c_16 q
                      · exact c_21 q
                      · exact absurd ((nI_ltI (by omega) (by omega)).mp q) (by omega)
                      · rw [show cl (nI o) = o from nI_clamp (by omega)] at q; omega
                      · rw [show cl (nI o) = o from nI_clamp (by omega), hkb] at q; exact absurd q (by decide)
                    refine lv_aload_n hx hb dX4_binary_51 rfl (lv_at hl 0 rfl) ?_
                    refine lv_iload_n hx hb dX4_binary_52 rfl (lv_at hl 1 rfl) ?_
                    refine lv_iload_n hx hb dX4_binary_53 rfl (lv_at hl 2 rfl) ?_
                    refine lv_iload hx hb dX4_binary_54 (lv_at hl 7 rfl) ?_
                    have hFc := va_free (wc := mw cI a sz st us kp ga gl cs mem pl ln km ks kt ku kl kn cd wt) hD hS hA [0, 1, 2, 3, 4, 5, 6, 7, 8, 9, 10, 11] rfl
                    refine va_calli (va_runV (As := [.int p1, .int (nI k), .int (nI o)]) (rest := []) ⟨hx, hb, hml, hown, hts⟩ (c_X4_isTaken l dC dI cI a sz st us kp ga gl cs mem pl ln km ks kt ku kl kn cd wt s.heap.size p1 k o (by omega) bmem (by omega) (by omega) hk4 (by omega)) (cwV 3 hts gX4_binary_X4_isTaken rfl rfl rfl (by decide +kernel) ⟨Nat.le_of_ble_eq_true rfl, Nat.le_of_ble_eq_true rfl⟩) ⟨fun a9 U g9 mk9 q9 => by obtain ⟨q0, q1, qP, qK, qD⟩ := q9; exact ⟨q0, q1, qP, va_K.moved (u := U) (U := U.calling g9 mk9 a9) (Vm.Alike.refl U.vm) qK, qD⟩, va_recv hK hP (ci := 4) (q0 := 0) rfl rfl, fun U hU hW => ⟨rfl, by rw [hU], by rw [hU]; exact hP, va_K.moved hW.alike hK, hD.weaken (fun _ _ _ _ => trivial)⟩⟩ rfl rfl hl.1 rfl (lv_room (Nat.le_of_ble_eq_true rfl)) dX4_binary_56 ⟨Nat.zero_le _, Nat.zero_le _⟩) hS (fun q _ h => hFc q h) hFc (fun r_56 u t H1 locs ht hvm hw hB hz1 hk1 hS => ?_)
                    obtain ⟨hP1, hK1, hD1⟩ := hB
                    rw [ht] at hP1
                    obtain ⟨hP, hD⟩ := va_join (wr := []) (w1 := mw cI a sz st us kp ga gl cs mem pl ln km ks kt ku kl kn cd (tkW sz mem p1 k o wt)) hP hD [0, 1, 2, 3, 4, 5, 6, 7, 8, 9, 10, 11] [] rfl rfl (by decide) (by decide) hk1 hFc hP1 hD1
                    generalize H1 = H at hP hS ⊢
                    have hP : va_P (dC, dI) vwCl (mw cI a sz st us kp ga gl cs mem pl ln km ks kt ku kl kn cd (tkW sz mem p1 k o wt)) H := hP
                    have hD : va_D A (mw cI a sz st us kp ga gl cs mem pl ln km ks kt ku kl kn cd (tkW sz mem p1 k o wt)) := hD
                    have btk : ∀ j, (tkW sz mem p1 k o wt) j < 256 := fun j => tkW_lt bmem bwt _ _ _ j
                    rcases hw with ⟨htk, rfl⟩ | ⟨htk, rfl⟩
                    · have hcm := cmp_ky (wt := wt) (mem := mem) htk
                      refine lv_if_ne (tgt := 65) hx hb dX4_binary_59 (by decide) (fun c_59 => ?_) (fun c_59 => ?_)
                      · have c_59 : ¬ 1 = 0 := fun q => c_59 ((nZ_eq (by omega)).mpr q)
                        have hR : bnR sz mem p1 (nI k) (nI x) (nI w) (nI n) (nI off) (nI o) = bnF sz mem (ky mem p1 k o) k x w off o 0 n := by unfold bnR; rw [if_neg hnb, show cl (nI k) = k from nI_clamp (by omega), show cl (nI x) = x from nI_clamp (by omega), show cl (nI w) = w from nI_clamp (by omega), show cl (nI n) = n from nI_clamp (by omega), show cl (nI off) = off from nI_clamp (by omega), show cl (nI o) = o from nI_clamp (by omega), if_neg (fun q => q htk)]
                        refine lv_iload hx hb dX4_binary_65 (lv_at hl 7 rfl) ?_
                        refine lv_iconst (v := (nI 4)) hx hb dX4_binary_67 (by decide) ?_
                        refine lv_icmp_lt (tgt := 75) hx hb dX4_binary_68 (by decide) (fun c_68 => ?_) (fun c_68 => ?_)
                        · have c_68 : o < 4 := (nI_ltI (a := o) (b := 4) (by omega) (by omega)).mp c_68
                          refine lv_iconst (v := (nI 0)) hx hb dX4_binary_75 (by decide) ?_
                          refine lv_istore (lv' := [(8, .int (nI 0)), (0, .ref (a 0)), (1, .int p1), (2, .int (nI k)), (3, .int (nI x)), (4, .int (nI w)), (5, .int (nI n)), (6, .int (nI off)), (7, .int (nI o))]) hx hb dX4_binary_76 hl (by decide) rfl (fun ls hl => ?_)
                          refine lv_lconst (v := lN 0) hx hb dX4_binary_78 (by decide) ?_
                          refine lv_lstore (lv' := [(9, .long (lN 0)), (8, .int (nI 0)), (0, .ref (a 0)), (1, .int p1), (2, .int (nI k)), (3, .int (nI x)), (4, .int (nI w)), (5, .int (nI n)), (6, .int (nI off)), (7, .int (nI o))]) hx hb dX4_binary_79 hl (by decide) rfl (fun ls hl => ?_)
                          refine lv_iload hx hb dX4_binary_81 (lv_at hl 7 rfl) ?_
                          refine lv_i2l (v := lN n) hx hb dX4_binary_83 (nI_l (by omega)) ?_
                          refine lv_lstore (lv' := [(11, .long (lN n)), (9, .long (lN 0)), (8, .int (nI 0)), (0, .ref (a 0)), (1, .int p1), (2, .int (nI k)), (3, .int (nI x)), (4, .int (nI w)), (5, .int (nI n)), (6, .int (nI off)), (7, .int (nI o))]) hx hb dX4_binary_84 hl (by decide) rfl (fun ls hl => ?_)
                          refine lp_still (σ := Nat × Nat) (fun ⟨lo, hi⟩ => lo ≤ hi ∧ hi ≤ n ∧ bnF sz mem (ky mem p1 k o) k x w off o 0 n = bnF sz mem (ky mem p1 k o) k x w off o lo hi) (fun ⟨lo, hi⟩ => hi - lo) (fun ⟨lo, hi⟩ => [(11, .long (lN hi)), (9, .long (lN lo)), (8, .int (nI 0)), (0, .ref (a 0)), (1, .int p1), (2, .int (nI k)), (3, .int (nI x)), (4, .int (nI w)), (5, .int (nI n)), (6, .int (nI off)), (7, .int (nI o))]) ?_ ((0, n)) (⟨by omega, Nat.le_refl _, rfl⟩) (lv_sub hl [0, 1, 2, 3, 4, 5, 6, 7, 8, 9, 10] rfl)
                          intro ⟨lo, hi⟩ hI ih ls hl
                          have hl : lv_has ls 18 [(11, .long (lN hi)), (9, .long (lN lo)), (8, .int (nI 0)), (0, .ref (a 0)), (1, .int p1), (2, .int (nI k)), (3, .int (nI x)), (4, .int (nI w)), (5, .int (nI n)), (6, .int (nI off)), (7, .int (nI o))] := hl
                          have hI : lo ≤ hi ∧ hi ≤ n ∧ bnF sz mem (ky mem p1 k o) k x w off o 0 n = bnF sz mem (ky mem p1 k o) k x w off o lo hi := hI
                          obtain ⟨hlo, hhi, hv⟩ := hI
                          have ih_86 := ih
                          refine lv_lload hx hb dX4_binary_86 (lv_at hl 1 rfl) ?_
                          refine lv_lload hx hb dX4_binary_88 (lv_at hl 0 rfl) ?_
                          refine W.lcmp hx hb dX4_binary_90 ?_
                          refine lv_if_ge (tgt := 208) hx hb dX4_binary_91 (by decide) (fun c_91 => ?_) (fun c_91 => ?_)
                          · have c_91 : hi ≤ lo := (pk_lLE (a := hi) (b := lo) (by omega) (by omega)).mp ((lg_cmp_ge _ _).mp c_91)
                            refine lv_iload hx hb dX4_binary_208 (lv_at hl 2 rfl) ?_
                            refine lv_if_eq (tgt := 217) hx hb dX4_binary_210 (by decide) (fun c_210 => ?_) (fun c_210 => ?_)
                            · have c_210 : 0 = 0 := (nZ_eq (by omega)).mp c_210
                              refine lv_iconst (v := (nI 0)) hx hb dX4_binary_217 (by decide) ?_
                              have e_wt : tkW sz mem p1 k o wt = bnW sz mem wt p1 (nI k) (nI x) (nI w) (nI n) (nI off) (nI o) := by unfold bnW; rw [if_neg hnb, show cl (nI k) = k from nI_clamp (by omega), show cl (nI o) = o from nI_clamp (by omega)]
                              have hP : va_P (dC, dI) vwCl (mw cI a sz st us kp ga gl cs mem pl ln km ks kt ku kl kn cd (bnW sz mem wt p1 (nI k) (nI x) (nI w) (nI n) (nI off) (nI o))) H := by rw [← e_wt]; exact hP
                              have hD : va_D A (mw cI a sz st us kp ga gl cs mem pl ln km ks kt ku kl kn cd (bnW sz mem wt p1 (nI k) (nI x) (nI w) (nI n) (nI off) (nI o))) := by rw [← e_wt]; exact hD
                              exact W.iret (v := (nI 0)) hx hb hr (fun t ht hW => ⟨⟨(nI 0), (), rfl, (show (nI 0) = bnR sz mem p1 (nI k) (nI x) (nI w) (nI n) (nI off) (nI o) from by rw [hR, hv, bnF, dif_pos (by omega)]; unfold noA; rw [if_neg (by omega)]), by rw [ht]; exact hP, va_K.moved hW.alike hK, hD⟩, hS.F ht⟩) hS.2.2 dX4_binary_218
                            · exact absurd c_210 (by decide)
                          · have c_91 : ¬ hi ≤ lo := fun q => c_91 ((lg_cmp_ge _ _).mpr ((pk_lLE (a := hi) (b := lo) (by omega) (by omega)).mpr q))
                            refine lv_lload hx hb dX4_binary_94 (lv_at hl 1 rfl) ?_
                            refine lv_lload hx hb dX4_binary_96 (lv_at hl 0 rfl) ?_
                            refine lv_ladd hx hb dX4_binary_98 ?_
                            refine tpl (lN_add _ _) ?_
                            refine lv_ldc2 (own := RX4) (v := (2)) hx hb hown lk_1 dX4_binary_99 ?_
                            refine tpl (show (2 : Int64) = lN 2 from rfl) ?_
                            refine lv_ldiv hx hb dX4_binary_102 (by decide) ?_
                            refine tpl (pk_lDiv (by omega) (by decide) (by decide)) ?_
                            refine lv_lstore (lv' := [(13, .long (lN ((lo + hi) / 2))), (11, .long (lN hi)), (9, .long (lN lo)), (8, .int (nI 0)), (0, .ref (a 0)), (1, .int p1), (2, .int (nI k)), (3, .int (nI x)), (4, .int (nI w)), (5, .int (nI n)), (6, .int (nI off)), (7, .int (nI o))]) hx hb dX4_binary_103 hl (by decide) rfl (fun ls hl => ?_)
                            obtain ⟨md, hmd⟩ : ∃ q : Nat, q = (lo + hi) / 2 := ⟨_, rfl⟩
                            rw [← hmd] at hl
                            have hmw : md * w ≤ 2147483647 * 2147483647 := Nat.mul_le_mul (by omega) (by omega)
                            refine lv_iload_n hx hb dX4_binary_105 rfl (lv_at hl 7 rfl) ?_
                            refine lv_i2l (v := lN x) hx hb dX4_binary_106 (nI_l (by omega)) ?_
                            refine lv_lload hx hb dX4_binary_107 (lv_at hl 0 rfl) ?_
                            refine lv_iload hx hb dX4_binary_109 (lv_at hl 8 rfl) ?_
                            refine lv_i2l (v := lN w) hx hb dX4_binary_111 (nI_l (by omega)) ?_
                            refine lv_lmul hx hb dX4_binary_112 ?_
                            refine tpl (lN_mul _ _) ?_
                            refine lv_ladd hx hb dX4_binary_113 ?_
                            refine tpl (lN_add _ _) ?_
                            refine lv_lstore (lv' := [(15, .long (lN (x + (md * w)))), (13, .long (lN md)), (11, .long (lN hi)), (9, .long (lN lo)), (8, .int (nI 0)), (0, .ref (a 0)), (1, .int p1), (2, .int (nI k)), (3, .int (nI x)), (4, .int (nI w)), (5, .int (nI n)), (6, .int (nI off)), (7, .int (nI o))]) hx hb dX4_binary_114 hl (by decide) rfl (fun ls hl => ?_)
                            refine lv_aload_n hx hb dX4_binary_116 rfl (lv_at hl 5 rfl) ?_
                            refine lv_lload hx hb dX4_binary_117 (lv_at hl 0 rfl) ?_
                            refine lv_iload hx hb dX4_binary_119 (lv_at hl 11 rfl) ?_
                            refine lv_i2l (v := lN off) hx hb dX4_binary_121 (nI_l (by omega)) ?_
                            refine lv_ladd hx hb dX4_binary_122 ?_
                            refine tpl (lN_add _ _) ?_
                            refine lv_iload_n hx hb dX4_binary_123 rfl (lv_at hl 7 rfl) ?_
                            refine lv_i2l (v := lN k) hx hb dX4_binary_124 (nI_l (by omega)) ?_
                            refine vp_callSi (W.runV (As := [.long (lN (x + (md * w) + off)), .long (lN k)]) (rest := []) ⟨hx, hb, hml, hown, hts⟩ (c_X4_isIn l dC dI cI a sz st us kp ga gl cs mem pl ln km ks kt ku kl kn cd (tkW sz mem p1 k o wt) (x + (md * w) + off) k (by omega) (by omega) (by omega)) (cwV 2 hts gX4_binary_X4_isIn rfl rfl rfl (by decide +kernel) ⟨Nat.le_of_ble_eq_true rfl, Nat.le_of_ble_eq_true rfl⟩) ⟨fun a9 U g9 mk9 q9 => by obtain ⟨q0, qP, qK⟩ := q9; exact ⟨q0, qP, va_K.moved (u := U) (U := U.calling g9 mk9 a9) (Vm.Alike.refl U.vm) qK⟩, va_recv hK hP (ci := 4) (q0 := 0) rfl rfl, fun U hU hW => ⟨rfl, by rw [hU]; exact hP, va_K.moved hW.alike hK⟩⟩ rfl rfl hl.1 rfl (lv_room (Nat.le_of_ble_eq_true rfl)) dX4_binary_125 ⟨Nat.zero_le _, Nat.zero_le _⟩) (fun r_125 hw => ?_)
                            try dsimp only at hw
                            rcases hw with ⟨hc_125, rfl⟩ | ⟨hc_125, rfl⟩
                            · skip
                              refine lv_if_ne (tgt := 134) hx hb dX4_binary_128 (by decide) (fun c_128 => ?_) (fun c_128 => ?_)
                              · have c_128 : ¬ 1 = 0 := fun q => c_128 ((nZ_eq (by omega)).mpr q)
                                refine lv_aload_n hx hb dX4_binary_134 rfl (lv_at hl 5 rfl) ?_
                                refine lv_iload_n hx hb dX4_binary_135 rfl (lv_at hl 7 rfl) ?_
                                refine lv_if_ne (tgt := 143) hx hb dX4_binary_136 (by decide) (fun c_136 => ?_) (fun c_136 => ?_)
                                · have c_136 : ¬ k = 0 := fun q => c_136 ((nZ_eq (by omega)).mpr q)
                                  refine lv_lload hx hb dX4_binary_143 (lv_at hl 0 rfl) ?_
                                  refine lv_iload hx hb dX4_binary_145 (lv_at hl 11 rfl) ?_
                                  refine lv_i2l (v := lN off) hx hb dX4_binary_147 (nI_l (by omega)) ?_
                                  refine lv_ladd hx hb dX4_binary_148 ?_
                                  refine tpl (lN_add _ _) ?_
                                  refine lv_l2i (v := nI (x + (md * w) + off)) hx hb dX4_binary_149 (lN_i _) ?_
                                  refine lv_iload_n hx hb dX4_binary_150 rfl (lv_at hl 7 rfl) ?_
                                  refine vp_callSi (W.runV (As := [.int (nI (x + (md * w) + off)), .int (nI k)]) (rest := []) ⟨hx, hb, hml, hown, hts⟩ (c_X4_compare l dC dI cI a sz st us kp ga gl cs mem pl ln km ks kt ku kl kn cd (tkW sz mem p1 k o wt) (x + (md * w) + off) k (by omega) (by omega) bmem btk) (cwV 2 hts gX4_binary_X4_compare rfl rfl rfl (by decide +kernel) ⟨Nat.le_of_ble_eq_true rfl, Nat.le_of_ble_eq_true rfl⟩) ⟨fun a9 U g9 mk9 q9 => by obtain ⟨q0, qP, qK⟩ := q9; exact ⟨q0, qP, va_K.moved (u := U) (U := U.calling g9 mk9 a9) (Vm.Alike.refl U.vm) qK⟩, va_recv hK hP (ci := 4) (q0 := 0) rfl rfl, fun U hU hW => ⟨rfl, by rw [hU]; exact hP, va_K.moved hW.alike hK⟩⟩ rfl rfl hl.1 rfl (lv_room (Nat.le_of_ble_eq_true rfl)) dX4_binary_151 ⟨Nat.zero_le _, Nat.zero_le _⟩) (fun r_151 hw => ?_)
                                  try dsimp only at hw
                                  rcases hw with ⟨hc_151, rfl⟩ | ⟨hc_151, rfl⟩ | ⟨hc_151, rfl⟩
                                  · rw [hcm] at hc_151
                                    refine lv_istore (lv' := [(17, .int (nI 0)), (15, .long (lN (x + (md * w)))), (13, .long (lN md)), (11, .long (lN hi)), (9, .long (lN lo)), (8, .int (nI 0)), (0, .ref (a 0)), (1, .int p1), (2, .int (nI k)), (3, .int (nI x)), (4, .int (nI w)), (5, .int (nI n)), (6, .int (nI off)), (7, .int (nI o))]) hx hb dX4_binary_154 hl (by decide) rfl (fun ls hl => ?_)
                                    refine lv_iload hx hb dX4_binary_156 (lv_at hl 0 rfl) ?_
                                    refine lv_if_ne (tgt := 175) hx hb dX4_binary_158 (by decide) (fun c_158 => ?_) (fun c_158 => ?_)
                                    · exact absurd c_158 (by decide)
                                    · have c_158 : 0 = 0 := (nZ_eq (by omega)).mp c_158
                                      refine lv_iload hx hb dX4_binary_161 (lv_at hl 5 rfl) ?_
                                      refine lv_if_eq (tgt := 171) hx hb dX4_binary_163 (by decide) (fun c_163 => ?_) (fun c_163 => ?_)
                                      · have c_163 : 0 = 0 := (nZ_eq (by omega)).mp c_163
                                        refine lv_lload hx hb dX4_binary_171 (lv_at hl 1 rfl) ?_
                                        refine lv_l2i (v := nI (x + (md * w))) hx hb dX4_binary_173 (lN_i _) ?_
                                        have e_wt : tkW sz mem p1 k o wt = bnW sz mem wt p1 (nI k) (nI x) (nI w) (nI n) (nI off) (nI o) := by unfold bnW; rw [if_neg hnb, show cl (nI k) = k from nI_clamp (by omega), show cl (nI o) = o from nI_clamp (by omega)]
                                        have hP : va_P (dC, dI) vwCl (mw cI a sz st us kp ga gl cs mem pl ln km ks kt ku kl kn cd (bnW sz mem wt p1 (nI k) (nI x) (nI w) (nI n) (nI off) (nI o))) H := by rw [← e_wt]; exact hP
                                        have hD : va_D A (mw cI a sz st us kp ga gl cs mem pl ln km ks kt ku kl kn cd (bnW sz mem wt p1 (nI k) (nI x) (nI w) (nI n) (nI off) (nI o))) := by rw [← e_wt]; exact hD
                                        exact W.iret (v := (nI (x + (md * w)))) hx hb hr (fun t ht hW => ⟨⟨(nI (x + (md * w))), (), rfl, (show (nI (x + (md * w))) = bnR sz mem p1 (nI k) (nI x) (nI w) (nI n) (nI off) (nI o) from by rw [hR, hv, bnF, dif_neg (by omega), ← hmd, if_neg (by omega), if_pos hc_151, if_neg (by omega)]), by rw [ht]; exact hP, va_K.moved hW.alike hK, hD⟩, hS.F ht⟩) hS.2.2 dX4_binary_174
                                      · exact absurd c_163 (by decide)
                                  · rw [hcm] at hc_151
                                    refine lv_istore (lv' := [(17, .int ((-1))), (15, .long (lN (x + (md * w)))), (13, .long (lN md)), (11, .long (lN hi)), (9, .long (lN lo)), (8, .int (nI 0)), (0, .ref (a 0)), (1, .int p1), (2, .int (nI k)), (3, .int (nI x)), (4, .int (nI w)), (5, .int (nI n)), (6, .int (nI off)), (7, .int (nI o))]) hx hb dX4_binary_154 hl (by decide) rfl (fun ls hl => ?_)
                                    refine lv_iload hx hb dX4_binary_156 (lv_at hl 0 rfl) ?_
                                    refine lv_if_ne (tgt := 175) hx hb dX4_binary_158 (by decide) (fun c_158 => ?_) (fun c_158 => ?_)
                                    · refine lv_iload hx hb dX4_binary_175 (lv_at hl 0 rfl) ?_
                                      refine lv_if_ge (tgt := 187) hx hb dX4_binary_177 (by decide) (fun c_177 => ?_) (fun c_177 => ?_)
                                      · exact absurd c_177 (by decide)
                                      · refine lv_lload hx hb dX4_binary_180 (lv_at hl 2 rfl) ?_
                                        refine lv_lconst (v := lN 1) hx hb dX4_binary_182 (by decide) ?_
                                        refine lv_ladd hx hb dX4_binary_183 ?_
                                        refine tpl (lN_add _ _) ?_
                                        refine lv_goto (tgt := 189) hx hb dX4_binary_184 (by decide) ?_
                                        refine lv_lstore (lv' := [(9, .long (lN (md + 1))), (17, .int ((-1))), (15, .long (lN (x + (md * w)))), (13, .long (lN md)), (11, .long (lN hi)), (8, .int (nI 0)), (0, .ref (a 0)), (1, .int p1), (2, .int (nI k)), (3, .int (nI x)), (4, .int (nI w)), (5, .int (nI n)), (6, .int (nI off)), (7, .int (nI o))]) hx hb dX4_binary_189 hl (by decide) rfl (fun ls hl => ?_)
                                        refine lv_iload hx hb dX4_binary_191 (lv_at hl 1 rfl) ?_
                                        refine lv_if_ge (tgt := 201) hx hb dX4_binary_193 (by decide) (fun c_193 => ?_) (fun c_193 => ?_)
                                        · exact absurd c_193 (by decide)
                                        · refine lv_lload hx hb dX4_binary_196 (lv_at hl 4 rfl) ?_
                                          refine lv_goto (tgt := 203) hx hb dX4_binary_198 (by decide) ?_
                                          refine lv_lstore (lv' := [(11, .long (lN hi)), (9, .long (lN (md + 1))), (17, .int ((-1))), (15, .long (lN (x + (md * w)))), (13, .long (lN md)), (8, .int (nI 0)), (0, .ref (a 0)), (1, .int p1), (2, .int (nI k)), (3, .int (nI x)), (4, .int (nI w)), (5, .int (nI n)), (6, .int (nI off)), (7, .int (nI o))]) hx hb dX4_binary_203 hl (by decide) rfl (fun ls hl => ?_)
                                          refine lv_goto (tgt := 86) hx hb dX4_binary_205 (by decide) ?_
                                          exact ih_86 (md + 1, hi) (⟨by omega, by omega, by rw [hv, bnF, dif_neg (by omega), ← hmd, if_neg (by omega), if_neg (by rw [hc_151]; decide), if_pos hc_151]⟩) (show hi - (md + 1) < hi - lo by omega) ls (lv_sub hl [0, 1, 5, 6, 7, 8, 9, 10, 11, 12, 13] rfl)
                                    · exact absurd c_158 (by decide)
                                  · rw [hcm] at hc_151
                                    refine lv_istore (lv' := [(17, .int (nI 1)), (15, .long (lN (x + (md * w)))), (13, .long (lN md)), (11, .long (lN hi)), (9, .long (lN lo)), (8, .int (nI 0)), (0, .ref (a 0)), (1, .int p1), (2, .int (nI k)), (3, .int (nI x)), (4, .int (nI w)), (5, .int (nI n)), (6, .int (nI off)), (7, .int (nI o))]) hx hb dX4_binary_154 hl (by decide) rfl (fun ls hl => ?_)
                                    refine lv_iload hx hb dX4_binary_156 (lv_at hl 0 rfl) ?_
                                    refine lv_if_ne (tgt := 175) hx hb dX4_binary_158 (by decide) (fun c_158 => ?_) (fun c_158 => ?_)
                                    · have c_158 : ¬ 1 = 0 := fun q => c_158 ((nZ_eq (by omega)).mpr q)
                                      refine lv_iload hx hb dX4_binary_175 (lv_at hl 0 rfl) ?_
                                      refine lv_if_ge (tgt := 187) hx hb dX4_binary_177 (by decide) (fun c_177 => ?_) (fun c_177 => ?_)
                                      · have c_177 : 0 ≤ 1 := (nZ_ge (by omega)).mp c_177
                                        refine lv_lload hx hb dX4_binary_187 (lv_at hl 4 rfl) ?_
                                        refine lv_lstore (lv' := [(9, .long (lN lo)), (17, .int (nI 1)), (15, .long (lN (x + (md * w)))), (13, .long (lN md)), (11, .long (lN hi)), (8, .int (nI 0)), (0, .ref (a 0)), (1, .int p1), (2, .int (nI k)), (3, .int (nI x)), (4, .int (nI w)), (5, .int (nI n)), (6, .int (nI off)), (7, .int (nI o))]) hx hb dX4_binary_189 hl (by decide) rfl (fun ls hl => ?_)
                                        refine lv_iload hx hb dX4_binary_191 (lv_at hl 1 rfl) ?_
                                        refine lv_if_ge (tgt := 201) hx hb dX4_binary_193 (by decide) (fun c_193 => ?_) (fun c_193 => ?_)
                                        · have c_193 : 0 ≤ 1 := (nZ_ge (by omega)).mp c_193
                                          refine lv_lload hx hb dX4_binary_201 (lv_at hl 3 rfl) ?_
                                          refine lv_lstore (lv' := [(11, .long (lN md)), (9, .long (lN lo)), (17, .int (nI 1)), (15, .long (lN (x + (md * w)))), (13, .long (lN md)), (8, .int (nI 0)), (0, .ref (a 0)), (1, .int p1), (2, .int (nI k)), (3, .int (nI x)), (4, .int (nI w)), (5, .int (nI n)), (6, .int (nI off)), (7, .int (nI o))]) hx hb dX4_binary_203 hl (by decide) rfl (fun ls hl => ?_)
                                          refine lv_goto (tgt := 86) hx hb dX4_binary_205 (by decide) ?_
                                          exact ih_86 (lo, md) (⟨by omega, by omega, by rw [hv, bnF, dif_neg (by omega), ← hmd, if_neg (by omega), if_neg (by rw [hc_151]; decide), if_neg (by rw [hc_151]; decide)]⟩) (show md - lo < hi - lo by omega) ls (lv_sub hl [0, 1, 5, 6, 7, 8, 9, 10, 11, 12, 13] rfl)
                                        · exact absurd c_193 (by decide)
                                      · exact absurd c_177 (by decide)
                                    · exact absurd c_158 (by decide)
                                · have c_136 : k = 0 := (nZ_eq (by omega)).mp c_136
                                  omega
                              · exact absurd c_128 (by decide)
                            · skip
                              refine lv_if_ne (tgt := 134) hx hb dX4_binary_128 (by decide) (fun c_128 => ?_) (fun c_128 => ?_)
                              · exact absurd c_128 (by decide)
                              · have c_128 : 0 = 0 := (nZ_eq (by omega)).mp c_128
                                refine lv_bipush (v := ((-12))) hx hb dX4_binary_131 (by decide) ?_
                                have e_wt : tkW sz mem p1 k o wt = bnW sz mem wt p1 (nI k) (nI x) (nI w) (nI n) (nI off) (nI o) := by unfold bnW; rw [if_neg hnb, show cl (nI k) = k from nI_clamp (by omega), show cl (nI o) = o from nI_clamp (by omega)]
                                have hP : va_P (dC, dI) vwCl (mw cI a sz st us kp ga gl cs mem pl ln km ks kt ku kl kn cd (bnW sz mem wt p1 (nI k) (nI x) (nI w) (nI n) (nI off) (nI o))) H := by rw [← e_wt]; exact hP
                                have hD : va_D A (mw cI a sz st us kp ga gl cs mem pl ln km ks kt ku kl kn cd (bnW sz mem wt p1 (nI k) (nI x) (nI w) (nI n) (nI off) (nI o))) := by rw [← e_wt]; exact hD
                                exact W.iret (v := ((-12))) hx hb hr (fun t ht hW => ⟨⟨((-12)), (), rfl, (show ((-12)) = bnR sz mem p1 (nI k) (nI x) (nI w) (nI n) (nI off) (nI o) from by rw [hR, hv, bnF, dif_neg (by omega), ← hmd, if_pos (by omega)]), by rw [ht]; exact hP, va_K.moved hW.alike hK, hD⟩, hS.F ht⟩) hS.2.2 dX4_binary_133
                        · have c_68 : ¬ o < 4 := fun q => c_68 ((nI_ltI (a := o) (b := 4) (by omega) (by omega)).mpr q)
                          refine lv_iconst (v := (nI 1)) hx hb dX4_binary_71 (by decide) ?_
                          refine lv_goto (tgt := 76) hx hb dX4_binary_72 (by decide) ?_
                          refine lv_istore (lv' := [(8, .int (nI 1)), (0, .ref (a 0)), (1, .int p1), (2, .int (nI k)), (3, .int (nI x)), (4, .int (nI w)), (5, .int (nI n)), (6, .int (nI off)), (7, .int (nI o))]) hx hb dX4_binary_76 hl (by decide) rfl (fun ls hl => ?_)
                          refine lv_lconst (v := lN 0) hx hb dX4_binary_78 (by decide) ?_
                          refine lv_lstore (lv' := [(9, .long (lN 0)), (8, .int (nI 1)), (0, .ref (a 0)), (1, .int p1), (2, .int (nI k)), (3, .int (nI x)), (4, .int (nI w)), (5, .int (nI n)), (6, .int (nI off)), (7, .int (nI o))]) hx hb dX4_binary_79 hl (by decide) rfl (fun ls hl => ?_)
                          refine lv_iload hx hb dX4_binary_81 (lv_at hl 7 rfl) ?_
                          refine lv_i2l (v := lN n) hx hb dX4_binary_83 (nI_l (by omega)) ?_
                          refine lv_lstore (lv' := [(11, .long (lN n)), (9, .long (lN 0)), (8, .int (nI 1)), (0, .ref (a 0)), (1, .int p1), (2, .int (nI k)), (3, .int (nI x)), (4, .int (nI w)), (5, .int (nI n)), (6, .int (nI off)), (7, .int (nI o))]) hx hb dX4_binary_84 hl (by decide) rfl (fun ls hl => ?_)
                          refine lp_still (σ := Nat × Nat) (fun ⟨lo, hi⟩ => lo ≤ hi ∧ hi ≤ n ∧ bnF sz mem (ky mem p1 k o) k x w off o 0 n = bnF sz mem (ky mem p1 k o) k x w off o lo hi) (fun ⟨lo, hi⟩ => hi - lo) (fun ⟨lo, hi⟩ => [(11, .long (lN hi)), (9, .long (lN lo)), (8, .int (nI 1)), (0, .ref (a 0)), (1, .int p1), (2, .int (nI k)), (3, .int (nI x)), (4, .int (nI w)), (5, .int (nI n)), (6, .int (nI off)), (7, .int (nI o))]) ?_ ((0, n)) (⟨by omega, Nat.le_refl _, rfl⟩) (lv_sub hl [0, 1, 2, 3, 4, 5, 6, 7, 8, 9, 10] rfl)
                          intro ⟨lo, hi⟩ hI ih ls hl
                          have hl : lv_has ls 18 [(11, .long (lN hi)), (9, .long (lN lo)), (8, .int (nI 1)), (0, .ref (a 0)), (1, .int p1), (2, .int (nI k)), (3, .int (nI x)), (4, .int (nI w)), (5, .int (nI n)), (6, .int (nI off)), (7, .int (nI o))] := hl
                          have hI : lo ≤ hi ∧ hi ≤ n ∧ bnF sz mem (ky mem p1 k o) k x w off o 0 n = bnF sz mem (ky mem p1 k o) k x w off o lo hi := hI
                          obtain ⟨hlo, hhi, hv⟩ := hI
                          have ih_86 := ih
                          refine lv_lload hx hb dX4_binary_86 (lv_at hl 1 rfl) ?_
                          refine lv_lload hx hb dX4_binary_88 (lv_at hl 0 rfl) ?_
                          refine W.lcmp hx hb dX4_binary_90 ?_
                          refine lv_if_ge (tgt := 208) hx hb dX4_binary_91 (by decide) (fun c_91 => ?_) (fun c_91 => ?_)
                          · have c_91 : hi ≤ lo := (pk_lLE (a := hi) (b := lo) (by omega) (by omega)).mp ((lg_cmp_ge _ _).mp c_91)
                            refine lv_iload hx hb dX4_binary_208 (lv_at hl 2 rfl) ?_
                            refine lv_if_eq (tgt := 217) hx hb dX4_binary_210 (by decide) (fun c_210 => ?_) (fun c_210 => ?_)
                            · exact absurd c_210 (by decide)
                            · have c_210 : ¬ 1 = 0 := fun q => c_210 ((nZ_eq (by omega)).mpr q)
                              refine lv_iconst (v := ((-1))) hx hb dX4_binary_213 (by decide) ?_
                              refine lv_goto (tgt := 218) hx hb dX4_binary_214 (by decide) ?_
                              have e_wt : tkW sz mem p1 k o wt = bnW sz mem wt p1 (nI k) (nI x) (nI w) (nI n) (nI off) (nI o) := by unfold bnW; rw [if_neg hnb, show cl (nI k) = k from nI_clamp (by omega), show cl (nI o) = o from nI_clamp (by omega)]
                              have hP : va_P (dC, dI) vwCl (mw cI a sz st us kp ga gl cs mem pl ln km ks kt ku kl kn cd (bnW sz mem wt p1 (nI k) (nI x) (nI w) (nI n) (nI off) (nI o))) H := by rw [← e_wt]; exact hP
                              have hD : va_D A (mw cI a sz st us kp ga gl cs mem pl ln km ks kt ku kl kn cd (bnW sz mem wt p1 (nI k) (nI x) (nI w) (nI n) (nI off) (nI o))) := by rw [← e_wt]; exact hD
                              exact W.iret (v := ((-1))) hx hb hr (fun t ht hW => ⟨⟨((-1)), (), rfl, (show ((-1)) = bnR sz mem p1 (nI k) (nI x) (nI w) (nI n) (nI off) (nI o) from by rw [hR, hv, bnF, dif_pos (by omega)]; unfold noA; rw [if_pos (by omega)]), by rw [ht]; exact hP, va_K.moved hW.alike hK, hD⟩, hS.F ht⟩) hS.2.2 dX4_binary_218
                          · have c_91 : ¬ hi ≤ lo := fun q => c_91 ((lg_cmp_ge _ _).mpr ((pk_lLE (a := hi) (b := lo) (by omega) (by omega)).mpr q))
                            refine lv_lload hx hb dX4_binary_94 (lv_at hl 1 rfl) ?_
                            refine lv_lload hx hb dX4_binary_96 (lv_at hl 0 rfl) ?_
                            refine lv_ladd hx hb dX4_binary_98 ?_
                            refine tpl (lN_add _ _) ?_
                            refine lv_ldc2 (own := RX4) (v := (2)) hx hb hown lk_1 dX4_binary_99 ?_
                            refine tpl (show (2 : Int64) = lN 2 from rfl) ?_
                            refine lv_ldiv hx hb dX4_binary_102 (by decide) ?_
                            refine tpl (pk_lDiv (by omega) (by decide) (by decide)) ?_
                            refine lv_lstore (lv' := [(13, .long (lN ((lo + hi) / 2))), (11, .long (lN hi)), (9, .long (lN lo)), (8, .int (nI 1)), (0, .ref (a 0)), (1, .int p1), (2, .int (nI k)), (3, .int (nI x)), (4, .int (nI w)), (5, .int (nI n)), (6, .int (nI off)), (7, .int (nI o))]) hx hb dX4_binary_103 hl (by decide) rfl (fun ls hl => ?_)
                            obtain ⟨md, hmd⟩ : ∃ q : Nat, q = (lo + hi) / 2 := ⟨_, rfl⟩
                            rw [← hmd] at hl
                            have hmw : md * w ≤ 2147483647 * 2147483647 := Nat.mul_le_mul (by omega) (by omega)
                            refine lv_iload_n hx hb dX4_binary_105 rfl (lv_at hl 7 rfl) ?_
                            refine lv_i2l (v := lN x) hx hb dX4_binary_106 (nI_l (by omega)) ?_
                            refine lv_lload hx hb dX4_binary_107 (lv_at hl 0 rfl) ?_
                            refine lv_iload hx hb dX4_binary_109 (lv_at hl 8 rfl) ?_
                            refine lv_i2l (v := lN w) hx hb dX4_binary_111 (nI_l (by omega)) ?_
                            refine lv_lmul hx hb dX4_binary_112 ?_
                            refine tpl (lN_mul _ _) ?_
                            refine lv_ladd hx hb dX4_binary_113 ?_
                            refine tpl (lN_add _ _) ?_
                            refine lv_lstore (lv' := [(15, .long (lN (x + (md * w)))), (13, .long (lN md)), (11, .long (lN hi)), (9, .long (lN lo)), (8, .int (nI 1)), (0, .ref (a 0)), (1, .int p1), (2, .int (nI k)), (3, .int (nI x)), (4, .int (nI w)), (5, .int (nI n)), (6, .int (nI off)), (7, .int (nI o))]) hx hb dX4_binary_114 hl (by decide) rfl (fun ls hl => ?_)
                            refine lv_aload_n hx hb dX4_binary_116 rfl (lv_at hl 5 rfl) ?_
                            refine lv_lload hx hb dX4_binary_117 (lv_at hl 0 rfl) ?_
                            refine lv_iload hx hb dX4_binary_119 (lv_at hl 11 rfl) ?_
                            refine lv_i2l (v := lN off) hx hb dX4_binary_121 (nI_l (by omega)) ?_
                            refine lv_ladd hx hb dX4_binary_122 ?_
                            refine tpl (lN_add _ _) ?_
                            refine lv_iload_n hx hb dX4_binary_123 rfl (lv_at hl 7 rfl) ?_
                            refine lv_i2l (v := lN k) hx hb dX4_binary_124 (nI_l (by omega)) ?_
                            refine vp_callSi (W.runV (As := [.long (lN (x + (md * w) + off)), .long (lN k)]) (rest := []) ⟨hx, hb, hml, hown, hts⟩ (c_X4_isIn l dC dI cI a sz st us kp ga gl cs mem pl ln km ks kt ku kl kn cd (tkW sz mem p1 k o wt) (x + (md * w) + off) k (by omega) (by omega) (by omega)) (cwV 2 hts gX4_binary_X4_isIn rfl rfl rfl (by decide +kernel) ⟨Nat.le_of_ble_eq_true rfl, Nat.le_of_ble_eq_true rfl⟩) ⟨fun a9 U g9 mk9 q9 => by obtain ⟨q0, qP, qK⟩ := q9; exact ⟨q0, qP, va_K.moved (u := U) (U := U.calling g9 mk9 a9) (Vm.Alike.refl U.vm) qK⟩, va_recv hK hP (ci := 4) (q0 := 0) rfl rfl, fun U hU hW => ⟨rfl, by rw [hU]; exact hP, va_K.moved hW.alike hK⟩⟩ rfl rfl hl.1 rfl (lv_room (Nat.le_of_ble_eq_true rfl)) dX4_binary_125 ⟨Nat.zero_le _, Nat.zero_le _⟩) (fun r_125 hw => ?_)
                            try dsimp only at hw
                            rcases hw with ⟨hc_125, rfl⟩ | ⟨hc_125, rfl⟩
                            · skip
                              refine lv_if_ne (tgt := 134) hx hb dX4_binary_128 (by decide) (fun c_128 => ?_) (fun c_128 => ?_)
                              · have c_128 : ¬ 1 = 0 := fun q => c_128 ((nZ_eq (by omega)).mpr q)
                                refine lv_aload_n hx hb dX4_binary_134 rfl (lv_at hl 5 rfl) ?_
                                refine lv_iload_n hx hb dX4_binary_135 rfl (lv_at hl 7 rfl) ?_
                                refine lv_if_ne (tgt := 143) hx hb dX4_binary_136 (by decide) (fun c_136 => ?_) (fun c_136 => ?_)
                                · have c_136 : ¬ k = 0 := fun q => c_136 ((nZ_eq (by omega)).mpr q)
                                  refine lv_lload hx hb dX4_binary_143 (lv_at hl 0 rfl) ?_
                                  refine lv_iload hx hb dX4_binary_145 (lv_at hl 11 rfl) ?_
                                  refine lv_i2l (v := lN off) hx hb dX4_binary_147 (nI_l (by omega)) ?_
                                  refine lv_ladd hx hb dX4_binary_148 ?_
                                  refine tpl (lN_add _ _) ?_
                                  refine lv_l2i (v := nI (x + (md * w) + off)) hx hb dX4_binary_149 (lN_i _) ?_
                                  refine lv_iload_n hx hb dX4_binary_150 rfl (lv_at hl 7 rfl) ?_
                                  refine vp_callSi (W.runV (As := [.int (nI (x + (md * w) + off)), .int (nI k)]) (rest := []) ⟨hx, hb, hml, hown, hts⟩ (c_X4_compare l dC dI cI a sz st us kp ga gl cs mem pl ln km ks kt ku kl kn cd (tkW sz mem p1 k o wt) (x + (md * w) + off) k (by omega) (by omega) bmem btk) (cwV 2 hts gX4_binary_X4_compare rfl rfl rfl (by decide +kernel) ⟨Nat.le_of_ble_eq_true rfl, Nat.le_of_ble_eq_true rfl⟩) ⟨fun a9 U g9 mk9 q9 => by obtain ⟨q0, qP, qK⟩ := q9; exact ⟨q0, qP, va_K.moved (u := U) (U := U.calling g9 mk9 a9) (Vm.Alike.refl U.vm) qK⟩, va_recv hK hP (ci := 4) (q0 := 0) rfl rfl, fun U hU hW => ⟨rfl, by rw [hU]; exact hP, va_K.moved hW.alike hK⟩⟩ rfl rfl hl.1 rfl (lv_room (Nat.le_of_ble_eq_true rfl)) dX4_binary_151 ⟨Nat.zero_le _, Nat.zero_le _⟩) (fun r_151 hw => ?_)
                                  try dsimp only at hw
                                  rcases hw with ⟨hc_151, rfl⟩ | ⟨hc_151, rfl⟩ | ⟨hc_151, rfl⟩
                                  · rw [hcm] at hc_151
                                    refine lv_istore (lv' := [(17, .int (nI 0)), (15, .long (lN (x + (md * w)))), (13, .long (lN md)), (11, .long (lN hi)), (9, .long (lN lo)), (8, .int (nI 1)), (0, .ref (a 0)), (1, .int p1), (2, .int (nI k)), (3, .int (nI x)), (4, .int (nI w)), (5, .int (nI n)), (6, .int (nI off)), (7, .int (nI o))]) hx hb dX4_binary_154 hl (by decide) rfl (fun ls hl => ?_)
                                    refine lv_iload hx hb dX4_binary_156 (lv_at hl 0 rfl) ?_
                                    refine lv_if_ne (tgt := 175) hx hb dX4_binary_158 (by decide) (fun c_158 => ?_) (fun c_158 => ?_)
                                    · exact absurd c_158 (by decide)
                                    · have c_158 : 0 = 0 := (nZ_eq (by omega)).mp c_158
                                      refine lv_iload hx hb dX4_binary_161 (lv_at hl 5 rfl) ?_
                                      refine lv_if_eq (tgt := 171) hx hb dX4_binary_163 (by decide) (fun c_163 => ?_) (fun c_163 => ?_)
                                      · exact absurd c_163 (by decide)
                                      · have c_163 : ¬ 1 = 0 := fun q => c_163 ((nZ_eq (by omega)).mpr q)
                                        refine lv_lload hx hb dX4_binary_166 (lv_at hl 2 rfl) ?_
                                        refine lv_goto (tgt := 173) hx hb dX4_binary_168 (by decide) ?_
                                        refine lv_l2i (v := nI md) hx hb dX4_binary_173 (lN_i _) ?_
                                        have e_wt : tkW sz mem p1 k o wt = bnW sz mem wt p1 (nI k) (nI x) (nI w) (nI n) (nI off) (nI o) := by unfold bnW; rw [if_neg hnb, show cl (nI k) = k from nI_clamp (by omega), show cl (nI o) = o from nI_clamp (by omega)]
                                        have hP : va_P (dC, dI) vwCl (mw cI a sz st us kp ga gl cs mem pl ln km ks kt ku kl kn cd (bnW sz mem wt p1 (nI k) (nI x) (nI w) (nI n) (nI off) (nI o))) H := by rw [← e_wt]; exact hP
                                        have hD : va_D A (mw cI a sz st us kp ga gl cs mem pl ln km ks kt ku kl kn cd (bnW sz mem wt p1 (nI k) (nI x) (nI w) (nI n) (nI off) (nI o))) := by rw [← e_wt]; exact hD
                                        exact W.iret (v := (nI md)) hx hb hr (fun t ht hW => ⟨⟨(nI md), (), rfl, (show (nI md) = bnR sz mem p1 (nI k) (nI x) (nI w) (nI n) (nI off) (nI o) from by rw [hR, hv, bnF, dif_neg (by omega), ← hmd, if_neg (by omega), if_pos hc_151, if_pos (by omega)]), by rw [ht]; exact hP, va_K.moved hW.alike hK, hD⟩, hS.F ht⟩) hS.2.2 dX4_binary_174
                                  · rw [hcm] at hc_151
                                    refine lv_istore (lv' := [(17, .int ((-1))), (15, .long (lN (x + (md * w)))), (13, .long (lN md)), (11, .long (lN hi)), (9, .long (lN lo)), (8, .int (nI 1)), (0, .ref (a 0)), (1, .int p1), (2, .int (nI k)), (3, .int (nI x)), (4, .int (nI w)), (5, .int (nI n)), (6, .int (nI off)), (7, .int (nI o))]) hx hb dX4_binary_154 hl (by decide) rfl (fun ls hl => ?_)
                                    refine lv_iload hx hb dX4_binary_156 (lv_at hl 0 rfl) ?_
                                    refine lv_if_ne (tgt := 175) hx hb dX4_binary_158 (by decide) (fun c_158 => ?_) (fun c_158 => ?_)
                                    · refine lv_iload hx hb dX4_binary_175 (lv_at hl 0 rfl) ?_
                                      refine lv_if_ge (tgt := 187) hx hb dX4_binary_177 (by decide) (fun c_177 => ?_) (fun c_177 => ?_)
                                      · exact absurd c_177 (by decide)
                                      · refine lv_lload hx hb dX4_binary_180 (lv_at hl 2 rfl) ?_
                                        refine lv_lconst (v := lN 1) hx hb dX4_binary_182 (by decide) ?_
                                        refine lv_ladd hx hb dX4_binary_183 ?_
                                        refine tpl (lN_add _ _) ?_
                                        refine lv_goto (tgt := 189) hx hb dX4_binary_184 (by decide) ?_
                                        refine lv_lstore (lv' := [(9, .long (lN (md + 1))), (17, .int ((-1))), (15, .long (lN (x + (md * w)))), (13, .long (lN md)), (11, .long (lN hi)), (8, .int (nI 1)), (0, .ref (a 0)), (1, .int p1), (2, .int (nI k)), (3, .int (nI x)), (4, .int (nI w)), (5, .int (nI n)), (6, .int (nI off)), (7, .int (nI o))]) hx hb dX4_binary_189 hl (by decide) rfl (fun ls hl => ?_)
                                        refine lv_iload hx hb dX4_binary_191 (lv_at hl 1 rfl) ?_
                                        refine lv_if_ge (tgt := 201) hx hb dX4_binary_193 (by decide) (fun c_193 => ?_) (fun c_193 => ?_)
                                        · exact absurd c_193 (by decide)
                                        · refine lv_lload hx hb dX4_binary_196 (lv_at hl 4 rfl) ?_
                                          refine lv_goto (tgt := 203) hx hb dX4_binary_198 (by decide) ?_
                                          refine lv_lstore (lv' := [(11, .long (lN hi)), (9, .long (lN (md + 1))), (17, .int ((-1))), (15, .long (lN (x + (md * w)))), (13, .long (lN md)), (8, .int (nI 1)), (0, .ref (a 0)), (1, .int p1), (2, .int (nI k)), (3, .int (nI x)), (4, .int (nI w)), (5, .int (nI n)), (6, .int (nI off)), (7, .int (nI o))]) hx hb dX4_binary_203 hl (by decide) rfl (fun ls hl => ?_)
                                          refine lv_goto (tgt := 86) hx hb dX4_binary_205 (by decide) ?_
                                          exact ih_86 (md + 1, hi) (⟨by omega, by omega, by rw [hv, bnF, dif_neg (by omega), ← hmd, if_neg (by omega), if_neg (by rw [hc_151]; decide), if_pos hc_151]⟩) (show hi - (md + 1) < hi - lo by omega) ls (lv_sub hl [0, 1, 5, 6, 7, 8, 9, 10, 11, 12, 13] rfl)
                                    · exact absurd c_158 (by decide)
                                  · rw [hcm] at hc_151
                                    refine lv_istore (lv' := [(17, .int (nI 1)), (15, .long (lN (x + (md * w)))), (13, .long (lN md)), (11, .long (lN hi)), (9, .long (lN lo)), (8, .int (nI 1)), (0, .ref (a 0)), (1, .int p1), (2, .int (nI k)), (3, .int (nI x)), (4, .int (nI w)), (5, .int (nI n)), (6, .int (nI off)), (7, .int (nI o))]) hx hb dX4_binary_154 hl (by decide) rfl (fun ls hl => ?_)
                                    refine lv_iload hx hb dX4_binary_156 (lv_at hl 0 rfl) ?_
                                    refine lv_if_ne (tgt := 175) hx hb dX4_binary_158 (by decide) (fun c_158 => ?_) (fun c_158 => ?_)
                                    · have c_158 : ¬ 1 = 0 := fun q => c_158 ((nZ_eq (by omega)).mpr q)
                                      refine lv_iload hx hb dX4_binary_175 (lv_at hl 0 rfl) ?_
                                      refine lv_if_ge (tgt := 187) hx hb dX4_binary_177 (by decide) (fun c_177 => ?_) (fun c_177 => ?_)
                                      · have c_177 : 0 ≤ 1 := (nZ_ge (by omega)).mp c_177
                                        refine lv_lload hx hb dX4_binary_187 (lv_at hl 4 rfl) ?_
                                        refine lv_lstore (lv' := [(9, .long (lN lo)), (17, .int (nI 1)), (15, .long (lN (x + (md * w)))), (13, .long (lN md)), (11, .long (lN hi)), (8, .int (nI 1)), (0, .ref (a 0)), (1, .int p1), (2, .int (nI k)), (3, .int (nI x)), (4, .int (nI w)), (5, .int (nI n)), (6, .int (nI off)), (7, .int (nI o))]) hx hb dX4_binary_189 hl (by decide) rfl (fun ls hl => ?_)
                                        refine lv_iload hx hb dX4_binary_191 (lv_at hl 1 rfl) ?_
                                        refine lv_if_ge (tgt := 201) hx hb dX4_binary_193 (by decide) (fun c_193 => ?_) (fun c_193 => ?_)
                                        · have c_193 : 0 ≤ 1 := (nZ_ge (by omega)).mp c_193
                                          refine lv_lload hx hb dX4_binary_201 (lv_at hl 3 rfl) ?_
                                          refine lv_lstore (lv' := [(11, .long (lN md)), (9, .long (lN lo)), (17, .int (nI 1)), (15, .long (lN (x + (md * w)))), (13, .long (lN md)), (8, .int (nI 1)), (0, .ref (a 0)), (1, .int p1), (2, .int (nI k)), (3, .int (nI x)), (4, .int (nI w)), (5, .int (nI n)), (6, .int (nI off)), (7, .int (nI o))]) hx hb dX4_binary_203 hl (by decide) rfl (fun ls hl => ?_)
                                          refine lv_goto (tgt := 86) hx hb dX4_binary_205 (by decide) ?_
                                          exact ih_86 (lo, md) (⟨by omega, by omega, by rw [hv, bnF, dif_neg (by omega), ← hmd, if_neg (by omega), if_neg (by rw [hc_151]; decide), if_neg (by rw [hc_151]; decide)]⟩) (show md - lo < hi - lo by omega) ls (lv_sub hl [0, 1, 5, 6, 7, 8, 9, 10, 11, 12, 13] rfl)
                                        · exact absurd c_193 (by decide)
                                      · exact absurd c_177 (by decide)
                                    · exact absurd c_158 (by decide)
                                · have c_136 : k = 0 := (nZ_eq (by omega)).mp c_136
                                  omega
                              · exact absurd c_128 (by decide)
                            · skip
                              refine lv_if_ne (tgt := 134) hx hb dX4_binary_128 (by decide) (fun c_128 => ?_) (fun c_128 => ?_)
                              · exact absurd c_128 (by decide)
                              · have c_128 : 0 = 0 := (nZ_eq (by omega)).mp c_128
                                refine lv_bipush (v := ((-12))) hx hb dX4_binary_131 (by decide) ?_
                                have e_wt : tkW sz mem p1 k o wt = bnW sz mem wt p1 (nI k) (nI x) (nI w) (nI n) (nI off) (nI o) := by unfold bnW; rw [if_neg hnb, show cl (nI k) = k from nI_clamp (by omega), show cl (nI o) = o from nI_clamp (by omega)]
                                have hP : va_P (dC, dI) vwCl (mw cI a sz st us kp ga gl cs mem pl ln km ks kt ku kl kn cd (bnW sz mem wt p1 (nI k) (nI x) (nI w) (nI n) (nI off) (nI o))) H := by rw [← e_wt]; exact hP
                                have hD : va_D A (mw cI a sz st us kp ga gl cs mem pl ln km ks kt ku kl kn cd (bnW sz mem wt p1 (nI k) (nI x) (nI w) (nI n) (nI off) (nI o))) := by rw [← e_wt]; exact hD
                                exact W.iret (v := ((-12))) hx hb hr (fun t ht hW => ⟨⟨((-12)), (), rfl, (show ((-12)) = bnR sz mem p1 (nI k) (nI x) (nI w) (nI n) (nI off) (nI o) from by rw [hR, hv, bnF, dif_neg (by omega), ← hmd, if_pos (by omega)]), by rw [ht]; exact hP, va_K.moved hW.alike hK, hD⟩, hS.F ht⟩) hS.2.2 dX4_binary_133
                      · exact absurd c_59 (by decide)
                    · skip
                      refine lv_if_ne (tgt := 65) hx hb dX4_binary_59 (by decide) (fun c_59 => ?_) (fun c_59 => ?_)
                      · exact absurd c_59 (by decide)
                      · have c_59 : 0 = 0 := (nZ_eq (by omega)).mp c_59
                        refine lv_bipush (v := ((-12))) hx hb dX4_binary_62 (by decide) ?_
                        have e_wt : tkW sz mem p1 k o wt = bnW sz mem wt p1 (nI k) (nI x) (nI w) (nI n) (nI off) (nI o) := by unfold bnW; rw [if_neg hnb, show cl (nI k) = k from nI_clamp (by omega), show cl (nI o) = o from nI_clamp (by omega)]
                        have hP : va_P (dC, dI) vwCl (mw cI a sz st us kp ga gl cs mem pl ln km ks kt ku kl kn cd (bnW sz mem wt p1 (nI k) (nI x) (nI w) (nI n) (nI off) (nI o))) H := by rw [← e_wt]; exact hP
                        have hD : va_D A (mw cI a sz st us kp ga gl cs mem pl ln km ks kt ku kl kn cd (bnW sz mem wt p1 (nI k) (nI x) (nI w) (nI n) (nI off) (nI o))) := by rw [← e_wt]; exact hD
                        exact W.iret (v := ((-12))) hx hb hr (fun t ht hW => ⟨⟨((-12)), (), rfl, (show ((-12)) = bnR sz mem p1 (nI k) (nI x) (nI w) (nI n) (nI off) (nI o) from by unfold bnR; rw [if_neg hnb, show cl (nI k) = k from nI_clamp (by omega), show cl (nI o) = o from nI_clamp (by omega), if_pos htk]), by rw [ht]; exact hP, va_K.moved hW.alike hK, hD⟩, hS.F ht⟩) hS.2.2 dX4_binary_64
                  · exact absurd c_45 (by decide)
                · have hkb := isKb_f hc_42
                  refine lv_if_ne (tgt := 51) hx hb dX4_binary_45 (by decide) (fun c_45 => ?_) (fun c_45 => ?_)
                  · exact absurd c_45 (by decide)
                  · have c_45 : 0 = 0 := (nZ_eq (by omega)).mp c_45
                    refine lv_bipush (v := ((-11))) hx hb dX4_binary_48 (by decide) ?_
                    have e_wt : wt = bnW sz mem wt p1 p2 (nI x) (nI w) (nI n) (nI off) (nI o) := by unfold bnW; rw [if_pos (by first | exact Or.inl c_2 | exact Or.inr (Or.inl c_7) | exact Or.inr (Or.inr (Or.inl c_12)) | exact Or.inr (Or.inr (Or.inr (Or.inl c_16))) | exact Or.inr (Or.inr (Or.inr (Or.inr (Or.inl c_21)))) | exact Or.inr (Or.inr (Or.inr (Or.inr (Or.inr (Or.inl ((nI_ltI (by omega) (by omega)).mpr c_28)))))) | exact Or.inr (Or.inr (Or.inr (Or.inr (Or.inr (Or.inr (Or.inl (by rw [show cl (nI o) = o from nI_clamp (by omega)]; omega))))))) | exact Or.inr (Or.inr (Or.inr (Or.inr (Or.inr (Or.inr (Or.inr (by rw [show cl (nI o) = o from nI_clamp (by omega)]; exact hkb))))))))]
                    have hP : va_P (dC, dI) vwCl (mw cI a sz st us kp ga gl cs mem pl ln km ks kt ku kl kn cd (bnW sz mem wt p1 p2 (nI x) (nI w) (nI n) (nI off) (nI o))) s.heap := by rw [← e_wt]; exact hP
                    have hD : va_D A (mw cI a sz st us kp ga gl cs mem pl ln km ks kt ku kl kn cd (bnW sz mem wt p1 p2 (nI x) (nI w) (nI n) (nI off) (nI o))) := by rw [← e_wt]; exact hD
                    exact W.iret (v := ((-11))) hx hb hr (fun t ht hW => ⟨⟨((-11)), (), rfl, (show ((-11)) = bnR sz mem p1 p2 (nI x) (nI w) (nI n) (nI off) (nI o) from by unfold bnR; rw [if_pos (by first | exact Or.inl c_2 | exact Or.inr (Or.inl c_7) | exact Or.inr (Or.inr (Or.inl c_12)) | exact Or.inr (Or.inr (Or.inr (Or.inl c_16))) | exact Or.inr (Or.inr (Or.inr (Or.inr (Or.inl c_21)))) | exact Or.inr (Or.inr (Or.inr (Or.inr (Or.inr (Or.inl ((nI_ltI (by omega) (by omega)).mpr c_28)))))) | exact Or.inr (Or.inr (Or.inr (Or.inr (Or.inr (Or.inr (Or.inl (by rw [show cl (nI o) = o from nI_clamp (by omega)]; omega))))))) | exact Or.inr (Or.inr (Or.inr (Or.inr (Or.inr (Or.inr (Or.inr (by rw [show cl (nI o) = o from nI_clamp (by omega)]; exact hkb))))))))]), by rw [ht]; exact hP, va_K.moved hW.alike hK, hD⟩, hS.F ht⟩) hS.2.2 dX4_binary_50
set_option maxHeartbeats 4000000 in
set_option maxRecDepth 100000 in
theorem c_X4_linked (l : Launch) (dC : Nat → ClassId) (dI : Nat → Nat → Nat) (cI : ClassId) (a : Nat → Nat) (sz st us kp ga gl cs : Nat) (mem pl ln km ks kt ku kl kn cd wt : Nat → Nat) (zz : Nat) (p1 p2 p3 p4 p5 p6 : Int32) (bmem : ∀ j, mem j < 256) (bwt : ∀ j, wt j < 256) (g3 : sz ≤ 8192) : Met l yX4_linked wsX4_linked ({ frames := 2, cells := 0, slots := 0, locals := 48 }) (va_Pc [.ref (a 0), .int p1, .int p2, .int p3, .int p4, .int p5, .int p6] (fun U => U.heap.size = zz ∧ va_P (dC, dI) vwCl (mw cI a sz st us kp ga gl cs mem pl ln km ks kt ku kl kn cd wt) U.heap ∧ va_K (dC, dI) vwCl [(cI, .int)] U ∧ va_D (fun _ => True) (mw cI a sz st us kp ga gl cs mem pl ln km ks kt ku kl kn cd wt))) (va_Qi (fun r _ => r = lkR sz mem p1 p2 p3 p4 p5 p6) (fun (_ : Unit) t => va_P (dC, dI) vwCl (mw cI a sz st us kp ga gl cs mem pl ln km ks kt ku kl kn cd (lkW sz mem wt p1 p2 p3 p4 p5 p6)) t.heap ∧ va_K (dC, dI) vwCl [(cI, .int)] t ∧ va_D (va_A (mw cI a sz st us kp ga gl cs mem pl ln km ks kt ku kl kn cd wt) zz) (mw cI a sz st us kp ga gl cs mem pl ln km ks kt ku kl kn cd (lkW sz mem wt p1 p2 p3 p4 p5 p6))) (va_A (mw cI a sz st us kp ga gl cs mem pl ln km ks kt ku kl kn cd wt) zz)) 0 0 (va_A (mw cI a sz st us kp ga gl cs mem pl ln km ks kt ku kl kn cd wt) zz) := by
  refine Met.ofW (cc := cX4_linked) (maxL := 11) (ret := (some .int)) (by decide) rfl ?_
  intro p e s m args below meth c s₁ B hml hv
  obtain ⟨rfl, hsz, hP, hK, hD0⟩ := hv
  have hx := B.exec
  have hb := B.bytes
  have hr := B.returns
  have hts := atoms_spec (ws := wsX4_linked) B.pre
  have hown : s.vm.findClass RX4 = some m.cls := findClass_of_methodNamed B.named
  have hlocks := B.notSynchronized
  subst hsz
  have hD := hD0.self (sz := s.heap.size)
  generalize hAe : va_A (mw cI a sz st us kp ga gl cs mem pl ln km ks kt ku kl kn cd wt) s.heap.size = A at hD ⊢
  have hA : ∀ q : Nat, s.heap.size ≤ q → A q := fun q h => by rw [← hAe]; exact Or.inr h
  have hS : va_S A s.heap s.heap [] := va_S.rf
  have hP : va_P (dC, dI) vwCl (mw cI a sz st us kp ga gl cs mem pl ln km ks kt ku kl kn cd wt) s.heap := hP
  have lk_1 := hts (.constantLong RX4 113 (4)) (List.mem_of_getElem? (i := 1) rfl)
  have hl := lv_entry ([.ref (a 0), .int p1, .int p2, .int p3, .int p4, .int p5, .int p6]) (n := 11) (Nat.le_of_ble_eq_true rfl)
  rw [lg_entry_eq]
  generalize (lg_sl ([.ref (a 0), .int p1, .int p2, .int p3, .int p4, .int p5, .int p6]) ++ List.replicate (11 - (lg_sl ([.ref (a 0), .int p1, .int p2, .int p3, .int p4, .int p5, .int p6])).length) Slot.unset).toArray = ls at hl ⊢
  have hl : lv_has ls 11 [(0, .ref (a 0)), (1, .int p1), (2, .int p2), (3, .int p3), (4, .int p4), (5, .int p5), (6, .int p6)] := hl
  refine lv_iload hx hb dX4_linked_0 (lv_at hl 4 rfl) ?_
  refine lv_if_lt (tgt := 34) hx hb dX4_linked_2 (by decide) (fun c_2 => ?_) (fun c_2 => ?_)
  · refine lv_bipush (v := ((-11))) hx hb dX4_linked_34 (by decide) ?_
    have e_wt : wt = lkW sz mem wt p1 p2 p3 p4 p5 p6 := by unfold lkW; rw [if_pos (by first | exact Or.inl c_2 | exact Or.inr (Or.inl c_6) | exact Or.inr (Or.inr (Or.inl c_11)) | exact Or.inr (Or.inr (Or.inr (Or.inl c_16))) | exact Or.inr (Or.inr (Or.inr (Or.inr (Or.inl ((nI_ltI (by omega) (by omega)).mpr c_22))))) | exact Or.inr (Or.inr (Or.inr (Or.inr (Or.inr (by rw [show cl (nI o) = o from nI_clamp (by omega)]; exact hkb))))))]
    have hP : va_P (dC, dI) vwCl (mw cI a sz st us kp ga gl cs mem pl ln km ks kt ku kl kn cd (lkW sz mem wt p1 p2 p3 p4 p5 p6)) s.heap := by rw [← e_wt]; exact hP
    have hD : va_D A (mw cI a sz st us kp ga gl cs mem pl ln km ks kt ku kl kn cd (lkW sz mem wt p1 p2 p3 p4 p5 p6)) := by rw [← e_wt]; exact hD
    exact W.iret (v := ((-11))) hx hb hr (fun t ht hW => ⟨⟨((-11)), (), rfl, (show ((-11)) = lkR sz mem p1 p2 p3 p4 p5 p6 from by unfold lkR; rw [if_pos (by first | exact Or.inl c_2 | exact Or.inr (Or.inl c_6) | exact Or.inr (Or.inr (Or.inl c_11)) | exact Or.inr (Or.inr (Or.inr (Or.inl c_16))) | exact Or.inr (Or.inr (Or.inr (Or.inr (Or.inl ((nI_ltI (by omega) (by omega)).mpr c_22))))) | exact Or.inr (Or.inr (Or.inr (Or.inr (Or.inr (by rw [show cl (nI o) = o from nI_clamp (by omega)]; exact hkb))))))]), by rw [ht]; exact hP, va_K.moved hW.alike hK, hD⟩, hS.F ht⟩) hS.2.2 dX4_linked_36
  · obtain ⟨off, n_off, rfl⟩ := nI_of c_2
    refine lv_iload_n hx hb dX4_linked_5 rfl (lv_at hl 3 rfl) ?_
    refine lv_if_lt (tgt := 34) hx hb dX4_linked_6 (by decide) (fun c_6 => ?_) (fun c_6 => ?_)
    · refine lv_bipush (v := ((-11))) hx hb dX4_linked_34 (by decide) ?_
      have e_wt : wt = lkW sz mem wt p1 p2 p3 (nI off) p5 p6 := by unfold lkW; rw [if_pos (by first | exact Or.inl c_2 | exact Or.inr (Or.inl c_6) | exact Or.inr (Or.inr (Or.inl c_11)) | exact Or.inr (Or.inr (Or.inr (Or.inl c_16))) | exact Or.inr (Or.inr (Or.inr (Or.inr (Or.inl ((nI_ltI (by omega) (by omega)).mpr c_22))))) | exact Or.inr (Or.inr (Or.inr (Or.inr (Or.inr (by rw [show cl (nI o) = o from nI_clamp (by omega)]; exact hkb))))))]
      have hP : va_P (dC, dI) vwCl (mw cI a sz st us kp ga gl cs mem pl ln km ks kt ku kl kn cd (lkW sz mem wt p1 p2 p3 (nI off) p5 p6)) s.heap := by rw [← e_wt]; exact hP
      have hD : va_D A (mw cI a sz st us kp ga gl cs mem pl ln km ks kt ku kl kn cd (lkW sz mem wt p1 p2 p3 (nI off) p5 p6)) := by rw [← e_wt]; exact hD
      exact W.iret (v := ((-11))) hx hb hr (fun t ht hW => ⟨⟨((-11)), (), rfl, (show ((-11)) = lkR sz mem p1 p2 p3 (nI off) p5 p6 from by unfold lkR; rw [if_pos (by first | exact Or.inl c_2 | exact Or.inr (Or.inl c_6) | exact Or.inr (Or.inr (Or.inl c_11)) | exact Or.inr (Or.inr (Or.inr (Or.inl c_16))) | exact Or.inr (Or.inr (Or.inr (Or.inr (Or.inl ((nI_ltI (by omega) (by omega)).mpr c_22))))) | exact Or.inr (Or.inr (Or.inr (Or.inr (Or.inr (by rw [show cl (nI o) = o from nI_clamp (by omega)]; exact hkb))))))]), by rw [ht]; exact hP, va_K.moved hW.alike hK, hD⟩, hS.F ht⟩) hS.2.2 dX4_linked_36
    · obtain ⟨x, n_x, rfl⟩ := nI_of c_6
      refine lv_iload hx hb dX4_linked_9 (lv_at hl 5 rfl) ?_
      refine lv_if_lt (tgt := 34) hx hb dX4_linked_11 (by decide) (fun c_11 => ?_) (fun c_11 => ?_)
      · refine lv_bipush (v := ((-11))) hx hb dX4_linked_34 (by decide) ?_
        have e_wt : wt = lkW sz mem wt p1 p2 (nI x) (nI off) p5 p6 := by unfold lkW; rw [if_pos (by first | exact Or.inl c_2 | exact Or.inr (Or.inl c_6) | exact Or.inr (Or.inr (Or.inl c_11)) | exact Or.inr (Or.inr (Or.inr (Or.inl c_16))) | exact Or.inr (Or.inr (Or.inr (Or.inr (Or.inl ((nI_ltI (by omega) (by omega)).mpr c_22))))) | exact Or.inr (Or.inr (Or.inr (Or.inr (Or.inr (by rw [show cl (nI o) = o from nI_clamp (by omega)]; exact hkb))))))]
        have hP : va_P (dC, dI) vwCl (mw cI a sz st us kp ga gl cs mem pl ln km ks kt ku kl kn cd (lkW sz mem wt p1 p2 (nI x) (nI off) p5 p6)) s.heap := by rw [← e_wt]; exact hP
        have hD : va_D A (mw cI a sz st us kp ga gl cs mem pl ln km ks kt ku kl kn cd (lkW sz mem wt p1 p2 (nI x) (nI off) p5 p6)) := by rw [← e_wt]; exact hD
        exact W.iret (v := ((-11))) hx hb hr (fun t ht hW => ⟨⟨((-11)), (), rfl, (show ((-11)) = lkR sz mem p1 p2 (nI x) (nI off) p5 p6 from by unfold lkR; rw [if_pos (by first | exact Or.inl c_2 | exact Or.inr (Or.inl c_6) | exact Or.inr (Or.inr (Or.inl c_11)) | exact Or.inr (Or.inr (Or.inr (Or.inl c_16))) | exact Or.inr (Or.inr (Or.inr (Or.inr (Or.inl ((nI_ltI (by omega) (by omega)).mpr c_22))))) | exact Or.inr (Or.inr (Or.inr (Or.inr (Or.inr (by rw [show cl (nI o) = o from nI_clamp (by omega)]; exact hkb))))))]), by rw [ht]; exact hP, va_K.moved hW.alike hK, hD⟩, hS.F ht⟩) hS.2.2 dX4_linked_36
      · obtain ⟨lk, n_lk, rfl⟩ := nI_of c_11
        refine lv_iload hx hb dX4_linked_14 (lv_at hl 6 rfl) ?_
        refine lv_if_lt (tgt := 34) hx hb dX4_linked_16 (by decide) (fun c_16 => ?_) (fun c_16 => ?_)
        · refine lv_bipush (v := ((-11))) hx hb dX4_linked_34 (by decide) ?_
          have e_wt : wt = lkW sz mem wt p1 p2 (nI x) (nI off) (nI lk) p6 := by unfold lkW; rw [if_pos (by first | exact Or.inl c_2 | exact Or.inr (Or.inl c_6) | exact Or.inr (Or.inr (Or.inl c_11)) | exact Or.inr (Or.inr (Or.inr (Or.inl c_16))) | exact Or.inr (Or.inr (Or.inr (Or.inr (Or.inl ((nI_ltI (by omega) (by omega)).mpr c_22))))) | exact Or.inr (Or.inr (Or.inr (Or.inr (Or.inr (by rw [show cl (nI o) = o from nI_clamp (by omega)]; exact hkb))))))]
          have hP : va_P (dC, dI) vwCl (mw cI a sz st us kp ga gl cs mem pl ln km ks kt ku kl kn cd (lkW sz mem wt p1 p2 (nI x) (nI off) (nI lk) p6)) s.heap := by rw [← e_wt]; exact hP
          have hD : va_D A (mw cI a sz st us kp ga gl cs mem pl ln km ks kt ku kl kn cd (lkW sz mem wt p1 p2 (nI x) (nI off) (nI lk) p6)) := by rw [← e_wt]; exact hD
          exact W.iret (v := ((-11))) hx hb hr (fun t ht hW => ⟨⟨((-11)), (), rfl, (show ((-11)) = lkR sz mem p1 p2 (nI x) (nI off) (nI lk) p6 from by unfold lkR; rw [if_pos (by first | exact Or.inl c_2 | exact Or.inr (Or.inl c_6) | exact Or.inr (Or.inr (Or.inl c_11)) | exact Or.inr (Or.inr (Or.inr (Or.inl c_16))) | exact Or.inr (Or.inr (Or.inr (Or.inr (Or.inl ((nI_ltI (by omega) (by omega)).mpr c_22))))) | exact Or.inr (Or.inr (Or.inr (Or.inr (Or.inr (by rw [show cl (nI o) = o from nI_clamp (by omega)]; exact hkb))))))]), by rw [ht]; exact hP, va_K.moved hW.alike hK, hD⟩, hS.F ht⟩) hS.2.2 dX4_linked_36
        · obtain ⟨o, n_o, rfl⟩ := nI_of c_16
          refine lv_iload hx hb dX4_linked_19 (lv_at hl 6 rfl) ?_
          refine lv_iconst (v := (nI 3)) hx hb dX4_linked_21 (by decide) ?_
          refine lv_icmp_gt (tgt := 34) hx hb dX4_linked_22 (by decide) (fun c_22 => ?_) (fun c_22 => ?_)
          · have c_22 : 3 < o := (nI_ltI (a := 3) (b := o) (by omega) (by omega)).mp c_22
            refine lv_bipush (v := ((-11))) hx hb dX4_linked_34 (by decide) ?_
            have e_wt : wt = lkW sz mem wt p1 p2 (nI x) (nI off) (nI lk) (nI o) := by unfold lkW; rw [if_pos (by first | exact Or.inl c_2 | exact Or.inr (Or.inl c_6) | exact Or.inr (Or.inr (Or.inl c_11)) | exact Or.inr (Or.inr (Or.inr (Or.inl c_16))) | exact Or.inr (Or.inr (Or.inr (Or.inr (Or.inl ((nI_ltI (by omega) (by omega)).mpr c_22))))) | exact Or.inr (Or.inr (Or.inr (Or.inr (Or.inr (by rw [show cl (nI o) = o from nI_clamp (by omega)]; exact hkb))))))]
            have hP : va_P (dC, dI) vwCl (mw cI a sz st us kp ga gl cs mem pl ln km ks kt ku kl kn cd (lkW sz mem wt p1 p2 (nI x) (nI off) (nI lk) (nI o))) s.heap := by rw [← e_wt]; exact hP
            have hD : va_D A (mw cI a sz st us kp ga gl cs mem pl ln km ks kt ku kl kn cd (lkW sz mem wt p1 p2 (nI x) (nI off) (nI lk) (nI o))) := by rw [← e_wt]; exact hD
            exact W.iret (v := ((-11))) hx hb hr (fun t ht hW => ⟨⟨((-11)), (), rfl, (show ((-11)) = lkR sz mem p1 p2 (nI x) (nI off) (nI lk) (nI o) from by unfold lkR; rw [if_pos (by first | exact Or.inl c_2 | exact Or.inr (Or.inl c_6) | exact Or.inr (Or.inr (Or.inl c_11)) | exact Or.inr (Or.inr (Or.inr (Or.inl c_16))) | exact Or.inr (Or.inr (Or.inr (Or.inr (Or.inl ((nI_ltI (by omega) (by omega)).mpr c_22))))) | exact Or.inr (Or.inr (Or.inr (Or.inr (Or.inr (by rw [show cl (nI o) = o from nI_clamp (by omega)]; exact hkb))))))]), by rw [ht]; exact hP, va_K.moved hW.alike hK, hD⟩, hS.F ht⟩) hS.2.2 dX4_linked_36
          · have c_22 : ¬ 3 < o := fun q => c_22 ((nI_ltI (a := 3) (b := o) (by omega) (by omega)).mpr q)
            refine lv_iload_n hx hb dX4_linked_25 rfl (lv_at hl 2 rfl) ?_
            refine lv_iload hx hb dX4_linked_26 (lv_at hl 6 rfl) ?_
            refine vp_callSi (W.runS (As := [.int p2, .int (nI o)]) (rest := []) ⟨hx, hb, hml, hown, hts⟩ (c_X4_isKey l p2 o (by omega)) (va_cwS 2 hts gX4_linked_X4_isKey rfl rfl rfl (by decide +kernel) ⟨Nat.le_of_ble_eq_true rfl, Nat.le_of_ble_eq_true rfl⟩) ⟨fun a9 U g9 mk9 q9 => ⟨q9.1, trivial⟩, fun U hU hW => ⟨rfl, trivial⟩⟩ rfl rfl hl.1 rfl (lv_room (Nat.le_of_ble_eq_true rfl)) dX4_linked_28 ⟨Nat.zero_le _, Nat.zero_le _⟩) (fun r_28 hw => ?_)
            try dsimp only at hw
            rcases hw with ⟨hc_28, rfl⟩ | ⟨hc_28, rfl⟩
            · have hkb := isKb_t hc_28
              obtain ⟨k, hk1, hk2, rfl, hk4⟩ := isK_nat hc_28
              refine lv_if_ne (tgt := 37) hx hb dX4_linked_31 (by decide) (fun c_31 => ?_) (fun c_31 => ?_)
              · have c_31 : ¬ 1 = 0 := fun q => c_31 ((nZ_eq (by omega)).mpr q)
                have hnb : ¬ badK (nI k) (nI x) (nI off) (nI lk) (nI o) := by
                  rintro (q | q | q | q | q | q)
                  · exact c_2 q
                  · exact c_6 q
                  · exact c_11 q
                  · exact c_16 q
                  · exact absurd ((nI_ltI (by omega) (by omega)).mp q) (by omega)
                  · rw [show cl (nI o) = o from nI_clamp (by omega), hkb] at q; exact absurd q (by decide)
                refine lv_aload_n hx hb dX4_linked_37 rfl (lv_at hl 0 rfl) ?_
                refine lv_iload_n hx hb dX4_linked_38 rfl (lv_at hl 1 rfl) ?_
                refine lv_iload_n hx hb dX4_linked_39 rfl (lv_at hl 2 rfl) ?_
                refine lv_iload hx hb dX4_linked_40 (lv_at hl 6 rfl) ?_
                have hFc := va_free (wc := mw cI a sz st us kp ga gl cs mem pl ln km ks kt ku kl kn cd wt) hD hS hA [0, 1, 2, 3, 4, 5, 6, 7, 8, 9, 10, 11] rfl
                refine va_calli (va_runV (As := [.int p1, .int (nI k), .int (nI o)]) (rest := []) ⟨hx, hb, hml, hown, hts⟩ (c_X4_isTaken l dC dI cI a sz st us kp ga gl cs mem pl ln km ks kt ku kl kn cd wt s.heap.size p1 k o (by omega) bmem (by omega) (by omega) hk4 (by omega)) (cwV 3 hts gX4_linked_X4_isTaken rfl rfl rfl (by decide +kernel) ⟨Nat.le_of_ble_eq_true rfl, Nat.le_of_ble_eq_true rfl⟩) ⟨fun a9 U g9 mk9 q9 => by obtain ⟨q0, q1, qP, qK, qD⟩ := q9; exact ⟨q0, q1, qP, va_K.moved (u := U) (U := U.calling g9 mk9 a9) (Vm.Alike.refl U.vm) qK, qD⟩, va_recv hK hP (ci := 4) (q0 := 0) rfl rfl, fun U hU hW => ⟨rfl, by rw [hU], by rw [hU]; exact hP, va_K.moved hW.alike hK, hD.weaken (fun _ _ _ _ => trivial)⟩⟩ rfl rfl hl.1 rfl (lv_room (Nat.le_of_ble_eq_true rfl)) dX4_linked_42 ⟨Nat.zero_le _, Nat.zero_le _⟩) hS (fun q _ h => hFc q h) hFc (fun r_42 u t H1 locs ht hvm hw hB hz1 hk1 hS => ?_)
                obtain ⟨hP1, hK1, hD1⟩ := hB
                rw [ht] at hP1
                obtain ⟨hP, hD⟩ := va_join (wr := []) (w1 := mw cI a sz st us kp ga gl cs mem pl ln km ks kt ku kl kn cd (tkW sz mem p1 k o wt)) hP hD [0, 1, 2, 3, 4, 5, 6, 7, 8, 9, 10, 11] [] rfl rfl (by decide) (by decide) hk1 hFc hP1 hD1
                generalize H1 = H at hP hS ⊢
                have hP : va_P (dC, dI) vwCl (mw cI a sz st us kp ga gl cs mem pl ln km ks kt ku kl kn cd (tkW sz mem p1 k o wt)) H := hP
                have hD : va_D A (mw cI a sz st us kp ga gl cs mem pl ln km ks kt ku kl kn cd (tkW sz mem p1 k o wt)) := hD
                have btk : ∀ j, (tkW sz mem p1 k o wt) j < 256 := fun j => tkW_lt bmem bwt _ _ _ j
                rcases hw with ⟨htk, rfl⟩ | ⟨htk, rfl⟩
                · have hcm := cmp_ky (wt := wt) (mem := mem) htk
                  refine lv_if_ne (tgt := 51) hx hb dX4_linked_45 (by decide) (fun c_45 => ?_) (fun c_45 => ?_)
                  · have c_45 : ¬ 1 = 0 := fun q => c_45 ((nZ_eq (by omega)).mpr q)
                    have hR : lkR sz mem p1 (nI k) (nI x) (nI off) (nI lk) (nI o) = lkF sz mem (ky mem p1 k o) k off lk o 3000 x := by unfold lkR; rw [if_neg hnb, show cl (nI k) = k from nI_clamp (by omega), show cl (nI x) = x from nI_clamp (by omega), show cl (nI off) = off from nI_clamp (by omega), show cl (nI lk) = lk from nI_clamp (by omega), show cl (nI o) = o from nI_clamp (by omega), if_neg (fun q => q htk)]
                    refine lv_iload_n hx hb dX4_linked_51 rfl (lv_at hl 3 rfl) ?_
                    refine lv_i2l (v := lN x) hx hb dX4_linked_52 (nI_l (by omega)) ?_
                    refine lv_lstore (lv' := [(7, .long (lN x)), (0, .ref (a 0)), (1, .int p1), (2, .int (nI k)), (3, .int (nI x)), (4, .int (nI off)), (5, .int (nI lk)), (6, .int (nI o))]) hx hb dX4_linked_53 hl (by decide) rfl (fun ls hl => ?_)
                    refine lv_iconst (v := (nI 0)) hx hb dX4_linked_55 (by decide) ?_
                    refine lv_istore (lv' := [(9, .int (nI 0)), (7, .long (lN x)), (0, .ref (a 0)), (1, .int p1), (2, .int (nI k)), (3, .int (nI x)), (4, .int (nI off)), (5, .int (nI lk)), (6, .int (nI o))]) hx hb dX4_linked_56 hl (by decide) rfl (fun ls hl => ?_)
                    refine lp_still (σ := Nat × Nat) (fun ⟨z, i⟩ => i ≤ 3000 ∧ z < 2 ^ 32 ∧ lkF sz mem (ky mem p1 k o) k off lk o 3000 x = lkF sz mem (ky mem p1 k o) k off lk o (3000 - i) z) (fun ⟨z, i⟩ => 3001 - i) (fun ⟨z, i⟩ => [(9, .int (nI i)), (7, .long (lN z)), (0, .ref (a 0)), (1, .int p1), (2, .int (nI k)), (3, .int (nI x)), (4, .int (nI off)), (5, .int (nI lk)), (6, .int (nI o))]) ?_ ((x, 0)) (⟨by omega, by omega, rfl⟩) (lv_sub hl [0, 1, 2, 3, 4, 5, 6, 7, 8] rfl)
                    intro ⟨z, i⟩ hI ih ls hl
                    have hl : lv_has ls 11 [(9, .int (nI i)), (7, .long (lN z)), (0, .ref (a 0)), (1, .int p1), (2, .int (nI k)), (3, .int (nI x)), (4, .int (nI off)), (5, .int (nI lk)), (6, .int (nI o))] := hl
                    have hI : i ≤ 3000 ∧ z < 2 ^ 32 ∧ lkF sz mem (ky mem p1 k o) k off lk o 3000 x = lkF sz mem (ky mem p1 k o) k off lk o (3000 - i) z := hI
                    obtain ⟨hi, hz, hv⟩ := hI
                    have ih_58 := ih
                    refine lv_lload hx hb dX4_linked_58 (lv_at hl 1 rfl) ?_
                    refine lv_lconst (v := lN 0) hx hb dX4_linked_60 (by decide) ?_
                    refine W.lcmp hx hb dX4_linked_61 ?_
                    refine lv_if_eq (tgt := 184) hx hb dX4_linked_62 (by decide) (fun c_62 => ?_) (fun c_62 => ?_)
                    · have c_62 : z = 0 := (pk_lEQ (a := z) (b := 0) (by omega) (by omega)).mp ((lg_cmp_eq _ _).mp c_62)
                      refine lv_iconst (v := (nI 0)) hx hb dX4_linked_184 (by decide) ?_
                      have e_wt : tkW sz mem p1 k o wt = lkW sz mem wt p1 (nI k) (nI x) (nI off) (nI lk) (nI o) := by unfold lkW; rw [if_neg hnb, show cl (nI k) = k from nI_clamp (by omega), show cl (nI o) = o from nI_clamp (by omega)]
                      have hP : va_P (dC, dI) vwCl (mw cI a sz st us kp ga gl cs mem pl ln km ks kt ku kl kn cd (lkW sz mem wt p1 (nI k) (nI x) (nI off) (nI lk) (nI o))) H := by rw [← e_wt]; exact hP
                      have hD : va_D A (mw cI a sz st us kp ga gl cs mem pl ln km ks kt ku kl kn cd (lkW sz mem wt p1 (nI k) (nI x) (nI off) (nI lk) (nI o))) := by rw [← e_wt]; exact hD
                      exact W.iret (v := (nI 0)) hx hb hr (fun t ht hW => ⟨⟨(nI 0), (), rfl, (show (nI 0) = lkR sz mem p1 (nI k) (nI x) (nI off) (nI lk) (nI o) from by rw [hR, hv, c_62, lkF_z]), by rw [ht]; exact hP, va_K.moved hW.alike hK, hD⟩, hS.F ht⟩) hS.2.2 dX4_linked_185
                    · have c_62 : ¬ z = 0 := fun q => c_62 ((lg_cmp_eq _ _).mpr ((pk_lEQ (a := z) (b := 0) (by omega) (by omega)).mpr q))
                      refine lv_iload hx hb dX4_linked_65 (lv_at hl 0 rfl) ?_
                      refine lv_sipush (v := (nI 3000)) hx hb dX4_linked_67 (by decide) ?_
                      refine lv_icmp_ne (tgt := 76) hx hb dX4_linked_70 (by decide) (fun c_70 => ?_) (fun c_70 => ?_)
                      · have c_70 : ¬ i = 3000 := fun q => c_70 ((nI_eq (a := i) (b := 3000) (by omega) (by omega)).mpr q)
                        refine lv_iinc (v := (nI (i + 1))) (lv' := [(9, .int (nI (i + 1))), (7, .long (lN z)), (0, .ref (a 0)), (1, .int p1), (2, .int (nI k)), (3, .int (nI x)), (4, .int (nI off)), (5, .int (nI lk)), (6, .int (nI o))]) hx hb dX4_linked_76 hl (k := 0) rfl (nI_inc _) (by decide) rfl (fun ls hl => ?_)
                        refine lv_aload_n hx hb dX4_linked_79 rfl (lv_at hl 2 rfl) ?_
                        refine lv_lload hx hb dX4_linked_80 (lv_at hl 1 rfl) ?_
                        refine lv_iload hx hb dX4_linked_82 (lv_at hl 6 rfl) ?_
                        refine lv_i2l (v := lN off) hx hb dX4_linked_84 (nI_l (by omega)) ?_
                        refine lv_ladd hx hb dX4_linked_85 ?_
                        refine tpl (lN_add _ _) ?_
                        refine lv_iload_n hx hb dX4_linked_86 rfl (lv_at hl 4 rfl) ?_
                        refine lv_i2l (v := lN k) hx hb dX4_linked_87 (nI_l (by omega)) ?_
                        refine vp_callSi (W.runV (As := [.long (lN (z + off)), .long (lN k)]) (rest := []) ⟨hx, hb, hml, hown, hts⟩ (c_X4_isIn l dC dI cI a sz st us kp ga gl cs mem pl ln km ks kt ku kl kn cd (tkW sz mem p1 k o wt) (z + off) k (by omega) (by omega) (by omega)) (cwV 2 hts gX4_linked_X4_isIn rfl rfl rfl (by decide +kernel) ⟨Nat.le_of_ble_eq_true rfl, Nat.le_of_ble_eq_true rfl⟩) ⟨fun a9 U g9 mk9 q9 => by obtain ⟨q0, qP, qK⟩ := q9; exact ⟨q0, qP, va_K.moved (u := U) (U := U.calling g9 mk9 a9) (Vm.Alike.refl U.vm) qK⟩, va_recv hK hP (ci := 4) (q0 := 0) rfl rfl, fun U hU hW => ⟨rfl, by rw [hU]; exact hP, va_K.moved hW.alike hK⟩⟩ rfl rfl hl.1 rfl (lv_room (Nat.le_of_ble_eq_true rfl)) dX4_linked_88 ⟨Nat.zero_le _, Nat.zero_le _⟩) (fun r_88 hw => ?_)
                        try dsimp only at hw
                        rcases hw with ⟨hc_88, rfl⟩ | ⟨hc_88, rfl⟩
                        · skip
                          refine lv_if_ne (tgt := 97) hx hb dX4_linked_91 (by decide) (fun c_91 => ?_) (fun c_91 => ?_)
                          · have c_91 : ¬ 1 = 0 := fun q => c_91 ((nZ_eq (by omega)).mpr q)
                            refine lv_iload_n hx hb dX4_linked_97 rfl (lv_at hl 4 rfl) ?_
                            refine lv_if_ne (tgt := 105) hx hb dX4_linked_98 (by decide) (fun c_98 => ?_) (fun c_98 => ?_)
                            · have c_98 : ¬ k = 0 := fun q => c_98 ((nZ_eq (by omega)).mpr q)
                              refine lv_lload hx hb dX4_linked_105 (lv_at hl 1 rfl) ?_
                              refine lv_iload hx hb dX4_linked_107 (lv_at hl 6 rfl) ?_
                              refine lv_i2l (v := lN off) hx hb dX4_linked_109 (nI_l (by omega)) ?_
                              refine lv_ladd hx hb dX4_linked_110 ?_
                              refine tpl (lN_add _ _) ?_
                              refine lv_l2i (v := nI (z + off)) hx hb dX4_linked_111 (lN_i _) ?_
                              refine lv_istore (lv' := [(10, .int (nI (z + off))), (9, .int (nI (i + 1))), (7, .long (lN z)), (0, .ref (a 0)), (1, .int p1), (2, .int (nI k)), (3, .int (nI x)), (4, .int (nI off)), (5, .int (nI lk)), (6, .int (nI o))]) hx hb dX4_linked_112 hl (by decide) rfl (fun ls hl => ?_)
                              refine lv_aload_n hx hb dX4_linked_114 rfl (lv_at hl 3 rfl) ?_
                              refine lv_iload hx hb dX4_linked_115 (lv_at hl 0 rfl) ?_
                              refine lv_iload_n hx hb dX4_linked_117 rfl (lv_at hl 5 rfl) ?_
                              refine vp_callSi (W.runV (As := [.int (nI (z + off)), .int (nI k)]) (rest := []) ⟨hx, hb, hml, hown, hts⟩ (c_X4_compare l dC dI cI a sz st us kp ga gl cs mem pl ln km ks kt ku kl kn cd (tkW sz mem p1 k o wt) (z + off) k (by omega) (by omega) bmem btk) (cwV 2 hts gX4_linked_X4_compare rfl rfl rfl (by decide +kernel) ⟨Nat.le_of_ble_eq_true rfl, Nat.le_of_ble_eq_true rfl⟩) ⟨fun a9 U g9 mk9 q9 => by obtain ⟨q0, qP, qK⟩ := q9; exact ⟨q0, qP, va_K.moved (u := U) (U := U.calling g9 mk9 a9) (Vm.Alike.refl U.vm) qK⟩, va_recv hK hP (ci := 4) (q0 := 0) rfl rfl, fun U hU hW => ⟨rfl, by rw [hU]; exact hP, va_K.moved hW.alike hK⟩⟩ rfl rfl hl.1 rfl (lv_room (Nat.le_of_ble_eq_true rfl)) dX4_linked_118 ⟨Nat.zero_le _, Nat.zero_le _⟩) (fun r_118 hw => ?_)
                              try dsimp only at hw
                              rcases hw with ⟨hc_118, rfl⟩ | ⟨hc_118, rfl⟩ | ⟨hc_118, rfl⟩
                              · rw [hcm] at hc_118
                                refine lv_if_ne (tgt := 128) hx hb dX4_linked_121 (by decide) (fun c_121 => ?_) (fun c_121 => ?_)
                                · exact absurd c_121 (by decide)
                                · have c_121 : 0 = 0 := (nZ_eq (by omega)).mp c_121
                                  refine lv_lload hx hb dX4_linked_124 (lv_at hl 2 rfl) ?_
                                  refine lv_l2i (v := nI z) hx hb dX4_linked_126 (lN_i _) ?_
                                  have e_wt : tkW sz mem p1 k o wt = lkW sz mem wt p1 (nI k) (nI x) (nI off) (nI lk) (nI o) := by unfold lkW; rw [if_neg hnb, show cl (nI k) = k from nI_clamp (by omega), show cl (nI o) = o from nI_clamp (by omega)]
                                  have hP : va_P (dC, dI) vwCl (mw cI a sz st us kp ga gl cs mem pl ln km ks kt ku kl kn cd (lkW sz mem wt p1 (nI k) (nI x) (nI off) (nI lk) (nI o))) H := by rw [← e_wt]; exact hP
                                  have hD : va_D A (mw cI a sz st us kp ga gl cs mem pl ln km ks kt ku kl kn cd (lkW sz mem wt p1 (nI k) (nI x) (nI off) (nI lk) (nI o))) := by rw [← e_wt]; exact hD
                                  exact W.iret (v := (nI z)) hx hb hr (fun t ht hW => ⟨⟨(nI z), (), rfl, (show (nI z) = lkR sz mem p1 (nI k) (nI x) (nI off) (nI lk) (nI o) from by rw [hR, hv, lkF_s (by omega) c_62, if_neg (by omega), if_pos hc_118]), by rw [ht]; exact hP, va_K.moved hW.alike hK, hD⟩, hS.F ht⟩) hS.2.2 dX4_linked_127
                              · rw [hcm] at hc_118
                                refine lv_if_ne (tgt := 128) hx hb dX4_linked_121 (by decide) (fun c_121 => ?_) (fun c_121 => ?_)
                                · refine lv_iload hx hb dX4_linked_128 (lv_at hl 9 rfl) ?_
                                  refine lv_iconst (v := (nI 2)) hx hb dX4_linked_130 (by decide) ?_
                                  refine lv_iand hx hb dX4_linked_131 ?_
                                  refine tpi (and2 (by omega)) ?_
                                  refine lv_iconst (v := (nI 2)) hx hb dX4_linked_132 (by decide) ?_
                                  refine lv_icmp_ne (tgt := 148) hx hb dX4_linked_133 (by decide) (fun c_133 => ?_) (fun c_133 => ?_)
                                  · have c_133 : ¬ o / 2 % 2 * 2 = 2 := fun q => c_133 ((nI_eq (a := o / 2 % 2 * 2) (b := 2) (by omega) (by omega)).mpr q)
                                    refine lv_aload_n hx hb dX4_linked_148 rfl (lv_at hl 3 rfl) ?_
                                    refine lv_lload hx hb dX4_linked_149 (lv_at hl 2 rfl) ?_
                                    refine lv_iload hx hb dX4_linked_151 (lv_at hl 8 rfl) ?_
                                    refine lv_i2l (v := lN lk) hx hb dX4_linked_153 (nI_l (by omega)) ?_
                                    refine lv_ladd hx hb dX4_linked_154 ?_
                                    refine tpl (lN_add _ _) ?_
                                    refine lv_ldc2 (own := RX4) (v := (4)) hx hb hown lk_1 dX4_linked_155 ?_
                                    refine tpl (show (4 : Int64) = lN 4 from rfl) ?_
                                    refine vp_callSi (W.runV (As := [.long (lN (z + lk)), .long (lN 4)]) (rest := []) ⟨hx, hb, hml, hown, hts⟩ (c_X4_isIn l dC dI cI a sz st us kp ga gl cs mem pl ln km ks kt ku kl kn cd (tkW sz mem p1 k o wt) (z + lk) 4 (by omega) (by omega) (by omega)) (cwV 2 hts gX4_linked_X4_isIn rfl rfl rfl (by decide +kernel) ⟨Nat.le_of_ble_eq_true rfl, Nat.le_of_ble_eq_true rfl⟩) ⟨fun a9 U g9 mk9 q9 => by obtain ⟨q0, qP, qK⟩ := q9; exact ⟨q0, qP, va_K.moved (u := U) (U := U.calling g9 mk9 a9) (Vm.Alike.refl U.vm) qK⟩, va_recv hK hP (ci := 4) (q0 := 0) rfl rfl, fun U hU hW => ⟨rfl, by rw [hU]; exact hP, va_K.moved hW.alike hK⟩⟩ rfl rfl hl.1 rfl (lv_room (Nat.le_of_ble_eq_true rfl)) dX4_linked_158 ⟨Nat.zero_le _, Nat.zero_le _⟩) (fun r_158 hw => ?_)
                                    try dsimp only at hw
                                    rcases hw with ⟨hc_158, rfl⟩ | ⟨hc_158, rfl⟩
                                    · skip
                                      refine lv_if_ne (tgt := 167) hx hb dX4_linked_161 (by decide) (fun c_161 => ?_) (fun c_161 => ?_)
                                      · have c_161 : ¬ 1 = 0 := fun q => c_161 ((nZ_eq (by omega)).mpr q)
                                        refine lv_aload_n hx hb dX4_linked_167 rfl (lv_at hl 3 rfl) ?_
                                        refine lv_lload hx hb dX4_linked_168 (lv_at hl 2 rfl) ?_
                                        refine lv_iload hx hb dX4_linked_170 (lv_at hl 8 rfl) ?_
                                        refine lv_i2l (v := lN lk) hx hb dX4_linked_172 (nI_l (by omega)) ?_
                                        refine lv_ladd hx hb dX4_linked_173 ?_
                                        refine tpl (lN_add _ _) ?_
                                        refine lv_l2i (v := nI (z + lk)) hx hb dX4_linked_174 (lN_i _) ?_
                                        refine lv_iconst (v := (nI 4)) hx hb dX4_linked_175 (by decide) ?_
                                        refine vp_callSl (W.runV (As := [.int (nI (z + lk)), .int (nI 4)]) (rest := []) ⟨hx, hb, hml, hown, hts⟩ (c_X4_number l dC dI cI a sz st us kp ga gl cs mem pl ln km ks kt ku kl kn cd (tkW sz mem p1 k o wt) (z + lk) 4 (by omega) (by omega) bmem) (cwV 2 hts gX4_linked_X4_number rfl rfl rfl (by decide +kernel) ⟨Nat.le_of_ble_eq_true rfl, Nat.le_of_ble_eq_true rfl⟩) ⟨fun a9 U g9 mk9 q9 => by obtain ⟨q0, qP, qK⟩ := q9; exact ⟨q0, qP, va_K.moved (u := U) (U := U.calling g9 mk9 a9) (Vm.Alike.refl U.vm) qK⟩, va_recv hK hP (ci := 4) (q0 := 0) rfl rfl, fun U hU hW => ⟨rfl, by rw [hU]; exact hP, va_K.moved hW.alike hK⟩⟩ rfl rfl hl.1 rfl (lv_room (Nat.le_of_ble_eq_true rfl)) dX4_linked_176 ⟨Nat.zero_le _, Nat.zero_le _⟩) (fun r_176 hw => ?_)
                                        try dsimp only at hw
                                        subst hw
                                        refine lv_lstore (lv' := [(7, .long (lN (num mem (z + lk) 4))), (10, .int (nI (z + off))), (9, .int (nI (i + 1))), (0, .ref (a 0)), (1, .int p1), (2, .int (nI k)), (3, .int (nI x)), (4, .int (nI off)), (5, .int (nI lk)), (6, .int (nI o))]) hx hb dX4_linked_179 hl (by decide) rfl (fun ls hl => ?_)
                                        refine lv_goto (tgt := 58) hx hb dX4_linked_181 (by decide) ?_
                                        exact ih_58 (num mem (z + lk) 4, i + 1) (⟨by omega, by have := num_lt4 (f := mem) (x := z + lk) (k := 4) bmem (by omega); omega, by rw [hv, lkF_s (by omega) c_62, if_neg (by omega), if_neg (by rw [hc_118]; decide), if_neg (fun q => absurd q.1 (by omega)), if_neg (by omega)]⟩) (show 3001 - (i + 1) < 3001 - i by omega) ls (lv_sub hl [2, 0, 3, 4, 5, 6, 7, 8, 9] rfl)
                                      · exact absurd c_161 (by decide)
                                    · skip
                                      refine lv_if_ne (tgt := 167) hx hb dX4_linked_161 (by decide) (fun c_161 => ?_) (fun c_161 => ?_)
                                      · exact absurd c_161 (by decide)
                                      · have c_161 : 0 = 0 := (nZ_eq (by omega)).mp c_161
                                        refine lv_bipush (v := ((-12))) hx hb dX4_linked_164 (by decide) ?_
                                        have e_wt : tkW sz mem p1 k o wt = lkW sz mem wt p1 (nI k) (nI x) (nI off) (nI lk) (nI o) := by unfold lkW; rw [if_neg hnb, show cl (nI k) = k from nI_clamp (by omega), show cl (nI o) = o from nI_clamp (by omega)]
                                        have hP : va_P (dC, dI) vwCl (mw cI a sz st us kp ga gl cs mem pl ln km ks kt ku kl kn cd (lkW sz mem wt p1 (nI k) (nI x) (nI off) (nI lk) (nI o))) H := by rw [← e_wt]; exact hP
                                        have hD : va_D A (mw cI a sz st us kp ga gl cs mem pl ln km ks kt ku kl kn cd (lkW sz mem wt p1 (nI k) (nI x) (nI off) (nI lk) (nI o))) := by rw [← e_wt]; exact hD
                                        exact W.iret (v := ((-12))) hx hb hr (fun t ht hW => ⟨⟨((-12)), (), rfl, (show ((-12)) = lkR sz mem p1 (nI k) (nI x) (nI off) (nI lk) (nI o) from by rw [hR, hv, lkF_s (by omega) c_62, if_neg (by omega), if_neg (by rw [hc_118]; decide), if_neg (fun q => absurd q.1 (by omega)), if_pos (by omega)]), by rw [ht]; exact hP, va_K.moved hW.alike hK, hD⟩, hS.F ht⟩) hS.2.2 dX4_linked_166
                                  · have c_133 : o / 2 % 2 * 2 = 2 := (nI_eq (a := o / 2 % 2 * 2) (b := 2) (by omega) (by omega)).mp c_133
                                    refine lv_aload_n hx hb dX4_linked_136 rfl (lv_at hl 3 rfl) ?_
                                    refine lv_iload hx hb dX4_linked_137 (lv_at hl 0 rfl) ?_
                                    refine lv_iload_n hx hb dX4_linked_139 rfl (lv_at hl 5 rfl) ?_
                                    refine vp_callSi (W.runV (As := [.int (nI (z + off)), .int (nI k)]) (rest := []) ⟨hx, hb, hml, hown, hts⟩ (c_X4_isZero l dC dI cI a sz st us kp ga gl cs mem pl ln km ks kt ku kl kn cd (tkW sz mem p1 k o wt) (z + off) k (by omega) (by omega) bmem) (cwV 2 hts gX4_linked_X4_isZero rfl rfl rfl (by decide +kernel) ⟨Nat.le_of_ble_eq_true rfl, Nat.le_of_ble_eq_true rfl⟩) ⟨fun a9 U g9 mk9 q9 => by obtain ⟨q0, qP, qK⟩ := q9; exact ⟨q0, qP, va_K.moved (u := U) (U := U.calling g9 mk9 a9) (Vm.Alike.refl U.vm) qK⟩, va_recv hK hP (ci := 4) (q0 := 0) rfl rfl, fun U hU hW => ⟨rfl, by rw [hU]; exact hP, va_K.moved hW.alike hK⟩⟩ rfl rfl hl.1 rfl (lv_room (Nat.le_of_ble_eq_true rfl)) dX4_linked_140 ⟨Nat.zero_le _, Nat.zero_le _⟩) (fun r_140 hw => ?_)
                                    try dsimp only at hw
                                    rcases hw with ⟨hc_140, rfl⟩ | ⟨hc_140, rfl⟩
                                    · skip
                                      refine lv_if_eq (tgt := 148) hx hb dX4_linked_143 (by decide) (fun c_143 => ?_) (fun c_143 => ?_)
                                      · exact absurd c_143 (by decide)
                                      · have c_143 : ¬ 1 = 0 := fun q => c_143 ((nZ_eq (by omega)).mpr q)
                                        refine lv_iconst (v := (nI 0)) hx hb dX4_linked_146 (by decide) ?_
                                        have e_wt : tkW sz mem p1 k o wt = lkW sz mem wt p1 (nI k) (nI x) (nI off) (nI lk) (nI o) := by unfold lkW; rw [if_neg hnb, show cl (nI k) = k from nI_clamp (by omega), show cl (nI o) = o from nI_clamp (by omega)]
                                        have hP : va_P (dC, dI) vwCl (mw cI a sz st us kp ga gl cs mem pl ln km ks kt ku kl kn cd (lkW sz mem wt p1 (nI k) (nI x) (nI off) (nI lk) (nI o))) H := by rw [← e_wt]; exact hP
                                        have hD : va_D A (mw cI a sz st us kp ga gl cs mem pl ln km ks kt ku kl kn cd (lkW sz mem wt p1 (nI k) (nI x) (nI off) (nI lk) (nI o))) := by rw [← e_wt]; exact hD
                                        exact W.iret (v := (nI 0)) hx hb hr (fun t ht hW => ⟨⟨(nI 0), (), rfl, (show (nI 0) = lkR sz mem p1 (nI k) (nI x) (nI off) (nI lk) (nI o) from by rw [hR, hv, lkF_s (by omega) c_62, if_neg (by omega), if_neg (by rw [hc_118]; decide), if_pos ⟨by omega, allZb_t hc_140⟩]), by rw [ht]; exact hP, va_K.moved hW.alike hK, hD⟩, hS.F ht⟩) hS.2.2 dX4_linked_147
                                    · skip
                                      refine lv_if_eq (tgt := 148) hx hb dX4_linked_143 (by decide) (fun c_143 => ?_) (fun c_143 => ?_)
                                      · have c_143 : 0 = 0 := (nZ_eq (by omega)).mp c_143
                                        refine lv_aload_n hx hb dX4_linked_148 rfl (lv_at hl 3 rfl) ?_
                                        refine lv_lload hx hb dX4_linked_149 (lv_at hl 2 rfl) ?_
                                        refine lv_iload hx hb dX4_linked_151 (lv_at hl 8 rfl) ?_
                                        refine lv_i2l (v := lN lk) hx hb dX4_linked_153 (nI_l (by omega)) ?_
                                        refine lv_ladd hx hb dX4_linked_154 ?_
                                        refine tpl (lN_add _ _) ?_
                                        refine lv_ldc2 (own := RX4) (v := (4)) hx hb hown lk_1 dX4_linked_155 ?_
                                        refine tpl (show (4 : Int64) = lN 4 from rfl) ?_
                                        refine vp_callSi (W.runV (As := [.long (lN (z + lk)), .long (lN 4)]) (rest := []) ⟨hx, hb, hml, hown, hts⟩ (c_X4_isIn l dC dI cI a sz st us kp ga gl cs mem pl ln km ks kt ku kl kn cd (tkW sz mem p1 k o wt) (z + lk) 4 (by omega) (by omega) (by omega)) (cwV 2 hts gX4_linked_X4_isIn rfl rfl rfl (by decide +kernel) ⟨Nat.le_of_ble_eq_true rfl, Nat.le_of_ble_eq_true rfl⟩) ⟨fun a9 U g9 mk9 q9 => by obtain ⟨q0, qP, qK⟩ := q9; exact ⟨q0, qP, va_K.moved (u := U) (U := U.calling g9 mk9 a9) (Vm.Alike.refl U.vm) qK⟩, va_recv hK hP (ci := 4) (q0 := 0) rfl rfl, fun U hU hW => ⟨rfl, by rw [hU]; exact hP, va_K.moved hW.alike hK⟩⟩ rfl rfl hl.1 rfl (lv_room (Nat.le_of_ble_eq_true rfl)) dX4_linked_158 ⟨Nat.zero_le _, Nat.zero_le _⟩) (fun r_158 hw => ?_)
                                        try dsimp only at hw
                                        rcases hw with ⟨hc_158, rfl⟩ | ⟨hc_158, rfl⟩
                                        · skip
                                          refine lv_if_ne (tgt := 167) hx hb dX4_linked_161 (by decide) (fun c_161 => ?_) (fun c_161 => ?_)
                                          · have c_161 : ¬ 1 = 0 := fun q => c_161 ((nZ_eq (by omega)).mpr q)
                                            refine lv_aload_n hx hb dX4_linked_167 rfl (lv_at hl 3 rfl) ?_
                                            refine lv_lload hx hb dX4_linked_168 (lv_at hl 2 rfl) ?_
                                            refine lv_iload hx hb dX4_linked_170 (lv_at hl 8 rfl) ?_
                                            refine lv_i2l (v := lN lk) hx hb dX4_linked_172 (nI_l (by omega)) ?_
                                            refine lv_ladd hx hb dX4_linked_173 ?_
                                            refine tpl (lN_add _ _) ?_
                                            refine lv_l2i (v := nI (z + lk)) hx hb dX4_linked_174 (lN_i _) ?_
                                            refine lv_iconst (v := (nI 4)) hx hb dX4_linked_175 (by decide) ?_
                                            refine vp_callSl (W.runV (As := [.int (nI (z + lk)), .int (nI 4)]) (rest := []) ⟨hx, hb, hml, hown, hts⟩ (c_X4_number l dC dI cI a sz st us kp ga gl cs mem pl ln km ks kt ku kl kn cd (tkW sz mem p1 k o wt) (z + lk) 4 (by omega) (by omega) bmem) (cwV 2 hts gX4_linked_X4_number rfl rfl rfl (by decide +kernel) ⟨Nat.le_of_ble_eq_true rfl, Nat.le_of_ble_eq_true rfl⟩) ⟨fun a9 U g9 mk9 q9 => by obtain ⟨q0, qP, qK⟩ := q9; exact ⟨q0, qP, va_K.moved (u := U) (U := U.calling g9 mk9 a9) (Vm.Alike.refl U.vm) qK⟩, va_recv hK hP (ci := 4) (q0 := 0) rfl rfl, fun U hU hW => ⟨rfl, by rw [hU]; exact hP, va_K.moved hW.alike hK⟩⟩ rfl rfl hl.1 rfl (lv_room (Nat.le_of_ble_eq_true rfl)) dX4_linked_176 ⟨Nat.zero_le _, Nat.zero_le _⟩) (fun r_176 hw => ?_)
                                            try dsimp only at hw
                                            subst hw
                                            refine lv_lstore (lv' := [(7, .long (lN (num mem (z + lk) 4))), (10, .int (nI (z + off))), (9, .int (nI (i + 1))), (0, .ref (a 0)), (1, .int p1), (2, .int (nI k)), (3, .int (nI x)), (4, .int (nI off)), (5, .int (nI lk)), (6, .int (nI o))]) hx hb dX4_linked_179 hl (by decide) rfl (fun ls hl => ?_)
                                            refine lv_goto (tgt := 58) hx hb dX4_linked_181 (by decide) ?_
                                            exact ih_58 (num mem (z + lk) 4, i + 1) (⟨by omega, by have := num_lt4 (f := mem) (x := z + lk) (k := 4) bmem (by omega); omega, by rw [hv, lkF_s (by omega) c_62, if_neg (by omega), if_neg (by rw [hc_118]; decide), if_neg (fun q => by rw [allZb_f hc_140] at q; exact absurd q.2 (by decide)), if_neg (by omega)]⟩) (show 3001 - (i + 1) < 3001 - i by omega) ls (lv_sub hl [2, 0, 3, 4, 5, 6, 7, 8, 9] rfl)
                                          · exact absurd c_161 (by decide)
                                        · skip
                                          refine lv_if_ne (tgt := 167) hx hb dX4_linked_161 (by decide) (fun c_161 => ?_) (fun c_161 => ?_)
                                          · exact absurd c_161 (by decide)
                                          · have c_161 : 0 = 0 := (nZ_eq (by omega)).mp c_161
                                            refine lv_bipush (v := ((-12))) hx hb dX4_linked_164 (by decide) ?_
                                            have e_wt : tkW sz mem p1 k o wt = lkW sz mem wt p1 (nI k) (nI x) (nI off) (nI lk) (nI o) := by unfold lkW; rw [if_neg hnb, show cl (nI k) = k from nI_clamp (by omega), show cl (nI o) = o from nI_clamp (by omega)]
                                            have hP : va_P (dC, dI) vwCl (mw cI a sz st us kp ga gl cs mem pl ln km ks kt ku kl kn cd (lkW sz mem wt p1 (nI k) (nI x) (nI off) (nI lk) (nI o))) H := by rw [← e_wt]; exact hP
                                            have hD : va_D A (mw cI a sz st us kp ga gl cs mem pl ln km ks kt ku kl kn cd (lkW sz mem wt p1 (nI k) (nI x) (nI off) (nI lk) (nI o))) := by rw [← e_wt]; exact hD
                                            exact W.iret (v := ((-12))) hx hb hr (fun t ht hW => ⟨⟨((-12)), (), rfl, (show ((-12)) = lkR sz mem p1 (nI k) (nI x) (nI off) (nI lk) (nI o) from by rw [hR, hv, lkF_s (by omega) c_62, if_neg (by omega), if_neg (by rw [hc_118]; decide), if_neg (fun q => by rw [allZb_f hc_140] at q; exact absurd q.2 (by decide)), if_pos (by omega)]), by rw [ht]; exact hP, va_K.moved hW.alike hK, hD⟩, hS.F ht⟩) hS.2.2 dX4_linked_166
                                      · exact absurd c_143 (by decide)
                                · exact absurd c_121 (by decide)
                              · rw [hcm] at hc_118
                                refine lv_if_ne (tgt := 128) hx hb dX4_linked_121 (by decide) (fun c_121 => ?_) (fun c_121 => ?_)
                                · have c_121 : ¬ 1 = 0 := fun q => c_121 ((nZ_eq (by omega)).mpr q)
                                  refine lv_iload hx hb dX4_linked_128 (lv_at hl 9 rfl) ?_
                                  refine lv_iconst (v := (nI 2)) hx hb dX4_linked_130 (by decide) ?_
                                  refine lv_iand hx hb dX4_linked_131 ?_
                                  refine tpi (and2 (by omega)) ?_
                                  refine lv_iconst (v := (nI 2)) hx hb dX4_linked_132 (by decide) ?_
                                  refine lv_icmp_ne (tgt := 148) hx hb dX4_linked_133 (by decide) (fun c_133 => ?_) (fun c_133 => ?_)
                                  · have c_133 : ¬ o / 2 % 2 * 2 = 2 := fun q => c_133 ((nI_eq (a := o / 2 % 2 * 2) (b := 2) (by omega) (by omega)).mpr q)
                                    refine lv_aload_n hx hb dX4_linked_148 rfl (lv_at hl 3 rfl) ?_
                                    refine lv_lload hx hb dX4_linked_149 (lv_at hl 2 rfl) ?_
                                    refine lv_iload hx hb dX4_linked_151 (lv_at hl 8 rfl) ?_
                                    refine lv_i2l (v := lN lk) hx hb dX4_linked_153 (nI_l (by omega)) ?_
                                    refine lv_ladd hx hb dX4_linked_154 ?_
                                    refine tpl (lN_add _ _) ?_
                                    refine lv_ldc2 (own := RX4) (v := (4)) hx hb hown lk_1 dX4_linked_155 ?_
                                    refine tpl (show (4 : Int64) = lN 4 from rfl) ?_
                                    refine vp_callSi (W.runV (As := [.long (lN (z + lk)), .long (lN 4)]) (rest := []) ⟨hx, hb, hml, hown, hts⟩ (c_X4_isIn l dC dI cI a sz st us kp ga gl cs mem pl ln km ks kt ku kl kn cd (tkW sz mem p1 k o wt) (z + lk) 4 (by omega) (by omega) (by omega)) (cwV 2 hts gX4_linked_X4_isIn rfl rfl rfl (by decide +kernel) ⟨Nat.le_of_ble_eq_true rfl, Nat.le_of_ble_eq_true rfl⟩) ⟨fun a9 U g9 mk9 q9 => by obtain ⟨q0, qP, qK⟩ := q9; exact ⟨q0, qP, va_K.moved (u := U) (U := U.calling g9 mk9 a9) (Vm.Alike.refl U.vm) qK⟩, va_recv hK hP (ci := 4) (q0 := 0) rfl rfl, fun U hU hW => ⟨rfl, by rw [hU]; exact hP, va_K.moved hW.alike hK⟩⟩ rfl rfl hl.1 rfl (lv_room (Nat.le_of_ble_eq_true rfl)) dX4_linked_158 ⟨Nat.zero_le _, Nat.zero_le _⟩) (fun r_158 hw => ?_)
                                    try dsimp only at hw
                                    rcases hw with ⟨hc_158, rfl⟩ | ⟨hc_158, rfl⟩
                                    · skip
                                      refine lv_if_ne (tgt := 167) hx hb dX4_linked_161 (by decide) (fun c_161 => ?_) (fun c_161 => ?_)
                                      · have c_161 : ¬ 1 = 0 := fun q => c_161 ((nZ_eq (by omega)).mpr q)
                                        refine lv_aload_n hx hb dX4_linked_167 rfl (lv_at hl 3 rfl) ?_
                                        refine lv_lload hx hb dX4_linked_168 (lv_at hl 2 rfl) ?_
                                        refine lv_iload hx hb dX4_linked_170 (lv_at hl 8 rfl) ?_
                                        refine lv_i2l (v := lN lk) hx hb dX4_linked_172 (nI_l (by omega)) ?_
                                        refine lv_ladd hx hb dX4_linked_173 ?_
                                        refine tpl (lN_add _ _) ?_
                                        refine lv_l2i (v := nI (z + lk)) hx hb dX4_linked_174 (lN_i _) ?_
                                        refine lv_iconst (v := (nI 4)) hx hb dX4_linked_175 (by decide) ?_
                                        refine vp_callSl (W.runV (As := [.int (nI (z + lk)), .int (nI 4)]) (rest := []) ⟨hx, hb, hml, hown, hts⟩ (c_X4_number l dC dI cI a sz st us kp ga gl cs mem pl ln km ks kt ku kl kn cd (tkW sz mem p1 k o wt) (z + lk) 4 (by omega) (by omega) bmem) (cwV 2 hts gX4_linked_X4_number rfl rfl rfl (by decide +kernel) ⟨Nat.le_of_ble_eq_true rfl, Nat.le_of_ble_eq_true rfl⟩) ⟨fun a9 U g9 mk9 q9 => by obtain ⟨q0, qP, qK⟩ := q9; exact ⟨q0, qP, va_K.moved (u := U) (U := U.calling g9 mk9 a9) (Vm.Alike.refl U.vm) qK⟩, va_recv hK hP (ci := 4) (q0 := 0) rfl rfl, fun U hU hW => ⟨rfl, by rw [hU]; exact hP, va_K.moved hW.alike hK⟩⟩ rfl rfl hl.1 rfl (lv_room (Nat.le_of_ble_eq_true rfl)) dX4_linked_176 ⟨Nat.zero_le _, Nat.zero_le _⟩) (fun r_176 hw => ?_)
                                        try dsimp only at hw
                                        subst hw
                                        refine lv_lstore (lv' := [(7, .long (lN (num mem (z + lk) 4))), (10, .int (nI (z + off))), (9, .int (nI (i + 1))), (0, .ref (a 0)), (1, .int p1), (2, .int (nI k)), (3, .int (nI x)), (4, .int (nI off)), (5, .int (nI lk)), (6, .int (nI o))]) hx hb dX4_linked_179 hl (by decide) rfl (fun ls hl => ?_)
                                        refine lv_goto (tgt := 58) hx hb dX4_linked_181 (by decide) ?_
                                        exact ih_58 (num mem (z + lk) 4, i + 1) (⟨by omega, by have := num_lt4 (f := mem) (x := z + lk) (k := 4) bmem (by omega); omega, by rw [hv, lkF_s (by omega) c_62, if_neg (by omega), if_neg (by rw [hc_118]; decide), if_neg (fun q => absurd q.1 (by omega)), if_neg (by omega)]⟩) (show 3001 - (i + 1) < 3001 - i by omega) ls (lv_sub hl [2, 0, 3, 4, 5, 6, 7, 8, 9] rfl)
                                      · exact absurd c_161 (by decide)
                                    · skip
                                      refine lv_if_ne (tgt := 167) hx hb dX4_linked_161 (by decide) (fun c_161 => ?_) (fun c_161 => ?_)
                                      · exact absurd c_161 (by decide)
                                      · have c_161 : 0 = 0 := (nZ_eq (by omega)).mp c_161
                                        refine lv_bipush (v := ((-12))) hx hb dX4_linked_164 (by decide) ?_
                                        have e_wt : tkW sz mem p1 k o wt = lkW sz mem wt p1 (nI k) (nI x) (nI off) (nI lk) (nI o) := by unfold lkW; rw [if_neg hnb, show cl (nI k) = k from nI_clamp (by omega), show cl (nI o) = o from nI_clamp (by omega)]
                                        have hP : va_P (dC, dI) vwCl (mw cI a sz st us kp ga gl cs mem pl ln km ks kt ku kl kn cd (lkW sz mem wt p1 (nI k) (nI x) (nI off) (nI lk) (nI o))) H := by rw [← e_wt]; exact hP
                                        have hD : va_D A (mw cI a sz st us kp ga gl cs mem pl ln km ks kt ku kl kn cd (lkW sz mem wt p1 (nI k) (nI x) (nI off) (nI lk) (nI o))) := by rw [← e_wt]; exact hD
                                        exact W.iret (v := ((-12))) hx hb hr (fun t ht hW => ⟨⟨((-12)), (), rfl, (show ((-12)) = lkR sz mem p1 (nI k) (nI x) (nI off) (nI lk) (nI o) from by rw [hR, hv, lkF_s (by omega) c_62, if_neg (by omega), if_neg (by rw [hc_118]; decide), if_neg (fun q => absurd q.1 (by omega)), if_pos (by omega)]), by rw [ht]; exact hP, va_K.moved hW.alike hK, hD⟩, hS.F ht⟩) hS.2.2 dX4_linked_166
                                  · have c_133 : o / 2 % 2 * 2 = 2 := (nI_eq (a := o / 2 % 2 * 2) (b := 2) (by omega) (by omega)).mp c_133
                                    refine lv_aload_n hx hb dX4_linked_136 rfl (lv_at hl 3 rfl) ?_
                                    refine lv_iload hx hb dX4_linked_137 (lv_at hl 0 rfl) ?_
                                    refine lv_iload_n hx hb dX4_linked_139 rfl (lv_at hl 5 rfl) ?_
                                    refine vp_callSi (W.runV (As := [.int (nI (z + off)), .int (nI k)]) (rest := []) ⟨hx, hb, hml, hown, hts⟩ (c_X4_isZero l dC dI cI a sz st us kp ga gl cs mem pl ln km ks kt ku kl kn cd (tkW sz mem p1 k o wt) (z + off) k (by omega) (by omega) bmem) (cwV 2 hts gX4_linked_X4_isZero rfl rfl rfl (by decide +kernel) ⟨Nat.le_of_ble_eq_true rfl, Nat.le_of_ble_eq_true rfl⟩) ⟨fun a9 U g9 mk9 q9 => by obtain ⟨q0, qP, qK⟩ := q9; exact ⟨q0, qP, va_K.moved (u := U) (U := U.calling g9 mk9 a9) (Vm.Alike.refl U.vm) qK⟩, va_recv hK hP (ci := 4) (q0 := 0) rfl rfl, fun U hU hW => ⟨rfl, by rw [hU]; exact hP, va_K.moved hW.alike hK⟩⟩ rfl rfl hl.1 rfl (lv_room (Nat.le_of_ble_eq_true rfl)) dX4_linked_140 ⟨Nat.zero_le _, Nat.zero_le _⟩) (fun r_140 hw => ?_)
                                    try dsimp only at hw
                                    rcases hw with ⟨hc_140, rfl⟩ | ⟨hc_140, rfl⟩
                                    · skip
                                      refine lv_if_eq (tgt := 148) hx hb dX4_linked_143 (by decide) (fun c_143 => ?_) (fun c_143 => ?_)
                                      · exact absurd c_143 (by decide)
                                      · have c_143 : ¬ 1 = 0 := fun q => c_143 ((nZ_eq (by omega)).mpr q)
                                        refine lv_iconst (v := (nI 0)) hx hb dX4_linked_146 (by decide) ?_
                                        have e_wt : tkW sz mem p1 k o wt = lkW sz mem wt p1 (nI k) (nI x) (nI off) (nI lk) (nI o) := by unfold lkW; rw [if_neg hnb, show cl (nI k) = k from nI_clamp (by omega), show cl (nI o) = o from nI_clamp (by omega)]
                                        have hP : va_P (dC, dI) vwCl (mw cI a sz st us kp ga gl cs mem pl ln km ks kt ku kl kn cd (lkW sz mem wt p1 (nI k) (nI x) (nI off) (nI lk) (nI o))) H := by rw [← e_wt]; exact hP
                                        have hD : va_D A (mw cI a sz st us kp ga gl cs mem pl ln km ks kt ku kl kn cd (lkW sz mem wt p1 (nI k) (nI x) (nI off) (nI lk) (nI o))) := by rw [← e_wt]; exact hD
                                        exact W.iret (v := (nI 0)) hx hb hr (fun t ht hW => ⟨⟨(nI 0), (), rfl, (show (nI 0) = lkR sz mem p1 (nI k) (nI x) (nI off) (nI lk) (nI o) from by rw [hR, hv, lkF_s (by omega) c_62, if_neg (by omega), if_neg (by rw [hc_118]; decide), if_pos ⟨by omega, allZb_t hc_140⟩]), by rw [ht]; exact hP, va_K.moved hW.alike hK, hD⟩, hS.F ht⟩) hS.2.2 dX4_linked_147
                                    · skip
                                      refine lv_if_eq (tgt := 148) hx hb dX4_linked_143 (by decide) (fun c_143 => ?_) (fun c_143 => ?_)
                                      · have c_143 : 0 = 0 := (nZ_eq (by omega)).mp c_143
                                        refine lv_aload_n hx hb dX4_linked_148 rfl (lv_at hl 3 rfl) ?_
                                        refine lv_lload hx hb dX4_linked_149 (lv_at hl 2 rfl) ?_
                                        refine lv_iload hx hb dX4_linked_151 (lv_at hl 8 rfl) ?_
                                        refine lv_i2l (v := lN lk) hx hb dX4_linked_153 (nI_l (by omega)) ?_
                                        refine lv_ladd hx hb dX4_linked_154 ?_
                                        refine tpl (lN_add _ _) ?_
                                        refine lv_ldc2 (own := RX4) (v := (4)) hx hb hown lk_1 dX4_linked_155 ?_
                                        refine tpl (show (4 : Int64) = lN 4 from rfl) ?_
                                        refine vp_callSi (W.runV (As := [.long (lN (z + lk)), .long (lN 4)]) (rest := []) ⟨hx, hb, hml, hown, hts⟩ (c_X4_isIn l dC dI cI a sz st us kp ga gl cs mem pl ln km ks kt ku kl kn cd (tkW sz mem p1 k o wt) (z + lk) 4 (by omega) (by omega) (by omega)) (cwV 2 hts gX4_linked_X4_isIn rfl rfl rfl (by decide +kernel) ⟨Nat.le_of_ble_eq_true rfl, Nat.le_of_ble_eq_true rfl⟩) ⟨fun a9 U g9 mk9 q9 => by obtain ⟨q0, qP, qK⟩ := q9; exact ⟨q0, qP, va_K.moved (u := U) (U := U.calling g9 mk9 a9) (Vm.Alike.refl U.vm) qK⟩, va_recv hK hP (ci := 4) (q0 := 0) rfl rfl, fun U hU hW => ⟨rfl, by rw [hU]; exact hP, va_K.moved hW.alike hK⟩⟩ rfl rfl hl.1 rfl (lv_room (Nat.le_of_ble_eq_true rfl)) dX4_linked_158 ⟨Nat.zero_le _, Nat.zero_le _⟩) (fun r_158 hw => ?_)
                                        try dsimp only at hw
                                        rcases hw with ⟨hc_158, rfl⟩ | ⟨hc_158, rfl⟩
                                        · skip
                                          refine lv_if_ne (tgt := 167) hx hb dX4_linked_161 (by decide) (fun c_161 => ?_) (fun c_161 => ?_)
                                          · have c_161 : ¬ 1 = 0 := fun q => c_161 ((nZ_eq (by omega)).mpr q)
                                            refine lv_aload_n hx hb dX4_linked_167 rfl (lv_at hl 3 rfl) ?_
                                            refine lv_lload hx hb dX4_linked_168 (lv_at hl 2 rfl) ?_
                                            refine lv_iload hx hb dX4_linked_170 (lv_at hl 8 rfl) ?_
                                            refine lv_i2l (v := lN lk) hx hb dX4_linked_172 (nI_l (by omega)) ?_
                                            refine lv_ladd hx hb dX4_linked_173 ?_
                                            refine tpl (lN_add _ _) ?_
                                            refine lv_l2i (v := nI (z + lk)) hx hb dX4_linked_174 (lN_i _) ?_
                                            refine lv_iconst (v := (nI 4)) hx hb dX4_linked_175 (by decide) ?_
                                            refine vp_callSl (W.runV (As := [.int (nI (z + lk)), .int (nI 4)]) (rest := []) ⟨hx, hb, hml, hown, hts⟩ (c_X4_number l dC dI cI a sz st us kp ga gl cs mem pl ln km ks kt ku kl kn cd (tkW sz mem p1 k o wt) (z + lk) 4 (by omega) (by omega) bmem) (cwV 2 hts gX4_linked_X4_number rfl rfl rfl (by decide +kernel) ⟨Nat.le_of_ble_eq_true rfl, Nat.le_of_ble_eq_true rfl⟩) ⟨fun a9 U g9 mk9 q9 => by obtain ⟨q0, qP, qK⟩ := q9; exact ⟨q0, qP, va_K.moved (u := U) (U := U.calling g9 mk9 a9) (Vm.Alike.refl U.vm) qK⟩, va_recv hK hP (ci := 4) (q0 := 0) rfl rfl, fun U hU hW => ⟨rfl, by rw [hU]; exact hP, va_K.moved hW.alike hK⟩⟩ rfl rfl hl.1 rfl (lv_room (Nat.le_of_ble_eq_true rfl)) dX4_linked_176 ⟨Nat.zero_le _, Nat.zero_le _⟩) (fun r_176 hw => ?_)
                                            try dsimp only at hw
                                            subst hw
                                            refine lv_lstore (lv' := [(7, .long (lN (num mem (z + lk) 4))), (10, .int (nI (z + off))), (9, .int (nI (i + 1))), (0, .ref (a 0)), (1, .int p1), (2, .int (nI k)), (3, .int (nI x)), (4, .int (nI off)), (5, .int (nI lk)), (6, .int (nI o))]) hx hb dX4_linked_179 hl (by decide) rfl (fun ls hl => ?_)
                                            refine lv_goto (tgt := 58) hx hb dX4_linked_181 (by decide) ?_
                                            exact ih_58 (num mem (z + lk) 4, i + 1) (⟨by omega, by have := num_lt4 (f := mem) (x := z + lk) (k := 4) bmem (by omega); omega, by rw [hv, lkF_s (by omega) c_62, if_neg (by omega), if_neg (by rw [hc_118]; decide), if_neg (fun q => by rw [allZb_f hc_140] at q; exact absurd q.2 (by decide)), if_neg (by omega)]⟩) (show 3001 - (i + 1) < 3001 - i by omega) ls (lv_sub hl [2, 0, 3, 4, 5, 6, 7, 8, 9] rfl)
                                          · exact absurd c_161 (by decide)
                                        · skip
                                          refine lv_if_ne (tgt := 167) hx hb dX4_linked_161 (by decide) (fun c_161 => ?_) (fun c_161 => ?_)
                                          · exact absurd c_161 (by decide)
                                          · have c_161 : 0 = 0 := (nZ_eq (by omega)).mp c_161
                                            refine lv_bipush (v := ((-12))) hx hb dX4_linked_164 (by decide) ?_
                                            have e_wt : tkW sz mem p1 k o wt = lkW sz mem wt p1 (nI k) (nI x) (nI off) (nI lk) (nI o) := by unfold lkW; rw [if_neg hnb, show cl (nI k) = k from nI_clamp (by omega), show cl (nI o) = o from nI_clamp (by omega)]
                                            have hP : va_P (dC, dI) vwCl (mw cI a sz st us kp ga gl cs mem pl ln km ks kt ku kl kn cd (lkW sz mem wt p1 (nI k) (nI x) (nI off) (nI lk) (nI o))) H := by rw [← e_wt]; exact hP
                                            have hD : va_D A (mw cI a sz st us kp ga gl cs mem pl ln km ks kt ku kl kn cd (lkW sz mem wt p1 (nI k) (nI x) (nI off) (nI lk) (nI o))) := by rw [← e_wt]; exact hD
                                            exact W.iret (v := ((-12))) hx hb hr (fun t ht hW => ⟨⟨((-12)), (), rfl, (show ((-12)) = lkR sz mem p1 (nI k) (nI x) (nI off) (nI lk) (nI o) from by rw [hR, hv, lkF_s (by omega) c_62, if_neg (by omega), if_neg (by rw [hc_118]; decide), if_neg (fun q => by rw [allZb_f hc_140] at q; exact absurd q.2 (by decide)), if_pos (by omega)]), by rw [ht]; exact hP, va_K.moved hW.alike hK, hD⟩, hS.F ht⟩) hS.2.2 dX4_linked_166
                                      · exact absurd c_143 (by decide)
                                · exact absurd c_121 (by decide)
                            · have c_98 : k = 0 := (nZ_eq (by omega)).mp c_98
                              omega
                          · exact absurd c_91 (by decide)
                        · skip
                          refine lv_if_ne (tgt := 97) hx hb dX4_linked_91 (by decide) (fun c_91 => ?_) (fun c_91 => ?_)
                          · exact absurd c_91 (by decide)
                          · have c_91 : 0 = 0 := (nZ_eq (by omega)).mp c_91
                            refine lv_bipush (v := ((-12))) hx hb dX4_linked_94 (by decide) ?_
                            have e_wt : tkW sz mem p1 k o wt = lkW sz mem wt p1 (nI k) (nI x) (nI off) (nI lk) (nI o) := by unfold lkW; rw [if_neg hnb, show cl (nI k) = k from nI_clamp (by omega), show cl (nI o) = o from nI_clamp (by omega)]
                            have hP : va_P (dC, dI) vwCl (mw cI a sz st us kp ga gl cs mem pl ln km ks kt ku kl kn cd (lkW sz mem wt p1 (nI k) (nI x) (nI off) (nI lk) (nI o))) H := by rw [← e_wt]; exact hP
                            have hD : va_D A (mw cI a sz st us kp ga gl cs mem pl ln km ks kt ku kl kn cd (lkW sz mem wt p1 (nI k) (nI x) (nI off) (nI lk) (nI o))) := by rw [← e_wt]; exact hD
                            exact W.iret (v := ((-12))) hx hb hr (fun t ht hW => ⟨⟨((-12)), (), rfl, (show ((-12)) = lkR sz mem p1 (nI k) (nI x) (nI off) (nI lk) (nI o) from by rw [hR, hv, lkF_s (by omega) c_62, if_pos (by omega)]), by rw [ht]; exact hP, va_K.moved hW.alike hK, hD⟩, hS.F ht⟩) hS.2.2 dX4_linked_96
                      · have c_70 : i = 3000 := (nI_eq (a := i) (b := 3000) (by omega) (by omega)).mp c_70
                        refine lv_bipush (v := ((-16))) hx hb dX4_linked_73 (by decide) ?_
                        have e_wt : tkW sz mem p1 k o wt = lkW sz mem wt p1 (nI k) (nI x) (nI off) (nI lk) (nI o) := by unfold lkW; rw [if_neg hnb, show cl (nI k) = k from nI_clamp (by omega), show cl (nI o) = o from nI_clamp (by omega)]
                        have hP : va_P (dC, dI) vwCl (mw cI a sz st us kp ga gl cs mem pl ln km ks kt ku kl kn cd (lkW sz mem wt p1 (nI k) (nI x) (nI off) (nI lk) (nI o))) H := by rw [← e_wt]; exact hP
                        have hD : va_D A (mw cI a sz st us kp ga gl cs mem pl ln km ks kt ku kl kn cd (lkW sz mem wt p1 (nI k) (nI x) (nI off) (nI lk) (nI o))) := by rw [← e_wt]; exact hD
                        exact W.iret (v := ((-16))) hx hb hr (fun t ht hW => ⟨⟨((-16)), (), rfl, (show ((-16)) = lkR sz mem p1 (nI k) (nI x) (nI off) (nI lk) (nI o) from by rw [hR, hv, show 3000 - i = 0 by omega, lkF_e c_62]), by rw [ht]; exact hP, va_K.moved hW.alike hK, hD⟩, hS.F ht⟩) hS.2.2 dX4_linked_75
                  · exact absurd c_45 (by decide)
                · skip
                  refine lv_if_ne (tgt := 51) hx hb dX4_linked_45 (by decide) (fun c_45 => ?_) (fun c_45 => ?_)
                  · exact absurd c_45 (by decide)
                  · have c_45 : 0 = 0 := (nZ_eq (by omega)).mp c_45
                    refine lv_bipush (v := ((-12))) hx hb dX4_linked_48 (by decide) ?_
                    have e_wt : tkW sz mem p1 k o wt = lkW sz mem wt p1 (nI k) (nI x) (nI off) (nI lk) (nI o) := by unfold lkW; rw [if_neg hnb, show cl (nI k) = k from nI_clamp (by omega), show cl (nI o) = o from nI_clamp (by omega)]
                    have hP : va_P (dC, dI) vwCl (mw cI a sz st us kp ga gl cs mem pl ln km ks kt ku kl kn cd (lkW sz mem wt p1 (nI k) (nI x) (nI off) (nI lk) (nI o))) H := by rw [← e_wt]; exact hP
                    have hD : va_D A (mw cI a sz st us kp ga gl cs mem pl ln km ks kt ku kl kn cd (lkW sz mem wt p1 (nI k) (nI x) (nI off) (nI lk) (nI o))) := by rw [← e_wt]; exact hD
                    exact W.iret (v := ((-12))) hx hb hr (fun t ht hW => ⟨⟨((-12)), (), rfl, (show ((-12)) = lkR sz mem p1 (nI k) (nI x) (nI off) (nI lk) (nI o) from by unfold lkR; rw [if_neg hnb, show cl (nI k) = k from nI_clamp (by omega), show cl (nI o) = o from nI_clamp (by omega), if_pos htk]), by rw [ht]; exact hP, va_K.moved hW.alike hK, hD⟩, hS.F ht⟩) hS.2.2 dX4_linked_50
              · exact absurd c_31 (by decide)
            · have hkb := isKb_f hc_28
              refine lv_if_ne (tgt := 37) hx hb dX4_linked_31 (by decide) (fun c_31 => ?_) (fun c_31 => ?_)
              · exact absurd c_31 (by decide)
              · have c_31 : 0 = 0 := (nZ_eq (by omega)).mp c_31
                refine lv_bipush (v := ((-11))) hx hb dX4_linked_34 (by decide) ?_
                have e_wt : wt = lkW sz mem wt p1 p2 (nI x) (nI off) (nI lk) (nI o) := by unfold lkW; rw [if_pos (by first | exact Or.inl c_2 | exact Or.inr (Or.inl c_6) | exact Or.inr (Or.inr (Or.inl c_11)) | exact Or.inr (Or.inr (Or.inr (Or.inl c_16))) | exact Or.inr (Or.inr (Or.inr (Or.inr (Or.inl ((nI_ltI (by omega) (by omega)).mpr c_22))))) | exact Or.inr (Or.inr (Or.inr (Or.inr (Or.inr (by rw [show cl (nI o) = o from nI_clamp (by omega)]; exact hkb))))))]
                have hP : va_P (dC, dI) vwCl (mw cI a sz st us kp ga gl cs mem pl ln km ks kt ku kl kn cd (lkW sz mem wt p1 p2 (nI x) (nI off) (nI lk) (nI o))) s.heap := by rw [← e_wt]; exact hP
                have hD : va_D A (mw cI a sz st us kp ga gl cs mem pl ln km ks kt ku kl kn cd (lkW sz mem wt p1 p2 (nI x) (nI off) (nI lk) (nI o))) := by rw [← e_wt]; exact hD
                exact W.iret (v := ((-11))) hx hb hr (fun t ht hW => ⟨⟨((-11)), (), rfl, (show ((-11)) = lkR sz mem p1 p2 (nI x) (nI off) (nI lk) (nI o) from by unfold lkR; rw [if_pos (by first | exact Or.inl c_2 | exact Or.inr (Or.inl c_6) | exact Or.inr (Or.inr (Or.inl c_11)) | exact Or.inr (Or.inr (Or.inr (Or.inl c_16))) | exact Or.inr (Or.inr (Or.inr (Or.inr (Or.inl ((nI_ltI (by omega) (by omega)).mpr c_22))))) | exact Or.inr (Or.inr (Or.inr (Or.inr (Or.inr (by rw [show cl (nI o) = o from nI_clamp (by omega)]; exact hkb))))))]), by rw [ht]; exact hP, va_K.moved hW.alike hK, hD⟩, hS.F ht⟩) hS.2.2 dX4_linked_36
