set_option maxHeartbeats 4000000 in
set_option maxRecDepth 100000 in
theorem c_X3_binary (l : Launch) (dC : Nat → ClassId) (dI : Nat → Nat → Nat) (cB cI : ClassId) (h kq : Nat) (sp : Option Nat) (k o b : Nat → Nat) (kp : Nat) (ga : Nat) (gl : Nat) (kl : Nat) (kb : Nat → Nat) (oz : Nat) (cs : Nat) (cd : Nat → Nat) (sz : Nat) (st : Nat) (us : Nat) (mem : Nat → Nat) (pl : Nat → Nat) (ln : Nat → Nat) (zz : Nat) (p1 p2 p3 p4 p5 p6 p7 : Int32) (bmem : ∀ j, mem j < 256) (bkb : ∀ j, kb j < 256) (g3 : sz ≤ 8192) : Met l yX3_binary wsX3_binary ({ frames := 2, cells := 0, slots := 0, locals := 65 }) (va_Pc [.ref h, .int p1, .int p2, .int p3, .int p4, .int p5, .int p6, .int p7] (fun U => U.heap.size = zz ∧ va_P (dC, dI) vwCl (gw h kq sp k o b kp ga gl ++ kw cB k kl kb ++ ow cB o oz cs cd ++ sw cB cI b sz st us mem pl ln) U.heap ∧ va_K (dC, dI) vwCl [(cI, .int), (cB, .byte)] U ∧ va_D (fun _ => True) (gw h kq sp k o b kp ga gl ++ kw cB k kl kb ++ ow cB o oz cs cd ++ sw cB cI b sz st us mem pl ln))) (va_Qi (fun r _ => r = bnR sz mem p1 p2 p3 p4 p5 p6 p7) (fun (_ : Unit) t => va_P (dC, dI) vwCl (gw h kq sp k o b kp ga gl ++ kw cB k (bnKl kl p2 p3 p4 p5 p6 p7) (bnW sz mem kb p1 p2 p3 p4 p5 p6 p7) ++ ow cB o oz cs cd ++ sw cB cI b sz st us mem pl ln) t.heap ∧ va_K (dC, dI) vwCl [(cI, .int), (cB, .byte)] t ∧ va_D (va_A (gw h kq sp k o b kp ga gl ++ kw cB k kl kb ++ ow cB o oz cs cd ++ sw cB cI b sz st us mem pl ln) zz) (gw h kq sp k o b kp ga gl ++ kw cB k (bnKl kl p2 p3 p4 p5 p6 p7) (bnW sz mem kb p1 p2 p3 p4 p5 p6 p7) ++ ow cB o oz cs cd ++ sw cB cI b sz st us mem pl ln)) (va_A (gw h kq sp k o b kp ga gl ++ kw cB k kl kb ++ ow cB o oz cs cd ++ sw cB cI b sz st us mem pl ln) zz)) 0 0 (va_A (gw h kq sp k o b kp ga gl ++ kw cB k kl kb ++ ow cB o oz cs cd ++ sw cB cI b sz st us mem pl ln) zz) := by
  refine Met.ofW (cc := cX3_binary) (maxL := 18) (ret := (some .int)) (by decide) rfl ?_
  intro p e s m args below meth c s₁ B hml hv
  obtain ⟨rfl, hsz, hP, hK, hD0⟩ := hv
  have hx := B.exec
  have hb := B.bytes
  have hr := B.returns
  have hts := atoms_spec (ws := wsX3_binary) B.pre
  have hown : s.vm.findClass RX3 = some m.cls := findClass_of_methodNamed B.named
  have hlocks := B.notSynchronized
  subst hsz
  have hD := hD0.self (sz := s.heap.size)
  generalize hAe : va_A (gw h kq sp k o b kp ga gl ++ kw cB k kl kb ++ ow cB o oz cs cd ++ sw cB cI b sz st us mem pl ln) s.heap.size = A at hD ⊢
  have hA : ∀ q : Nat, s.heap.size ≤ q → A q := fun q h => by rw [← hAe]; exact Or.inr h
  have hS : va_S A s.heap s.heap [] := va_S.rf
  have hP : va_P (dC, dI) vwCl (gw h kq sp k o b kp ga gl ++ kw cB k kl kb ++ ow cB o oz cs cd ++ sw cB cI b sz st us mem pl ln) s.heap := hP
  have in_X3 : ∀ w ∈ wsX30, w ∈ wsX3_binary := fun _ h => List.mem_cons_of_mem _ (List.mem_append_left _ (List.mem_append_left _ (List.mem_append_right _ (h))))
  have lk_1 := hts (.fieldLink RX3 18 "GlulxHeap" "wanted" "LGlulxHeap$Key;") (List.mem_of_getElem? (i := 1) rfl)
  have lk_2 := hts (.fieldLink RX3 30 "GlulxHeap" "now" "LGlulxHeap$State;") (List.mem_of_getElem? (i := 2) rfl)
  have lk_3 := hts (.constantLong RX3 141 (2)) (List.mem_of_getElem? (i := 3) rfl)
  have hl := lv_entry ([.ref h, .int p1, .int p2, .int p3, .int p4, .int p5, .int p6, .int p7]) (n := 18) (Nat.le_of_ble_eq_true rfl)
  rw [lg_entry_eq]
  generalize (lg_sl ([.ref h, .int p1, .int p2, .int p3, .int p4, .int p5, .int p6, .int p7]) ++ List.replicate (18 - (lg_sl ([.ref h, .int p1, .int p2, .int p3, .int p4, .int p5, .int p6, .int p7])).length) Slot.unset).toArray = ls at hl ⊢
  have hl : lv_has ls 18 [(0, .ref h), (1, .int p1), (2, .int p2), (3, .int p3), (4, .int p4), (5, .int p5), (6, .int p6), (7, .int p7)] := hl
  refine lv_iload hx hb dX3_binary_0 (lv_at hl 4 rfl) ?_
  refine lv_if_lt (tgt := 29) hx hb dX3_binary_2 (by decide) (fun c_2 => ?_) (fun c_2 => ?_)
  · refine lv_bipush (v := ((-11))) hx hb dX3_binary_29 (by decide) ?_
    have e_kl : kl = bnKl kl p2 p3 p4 p5 p6 p7 := by unfold bnKl; rw [if_pos (by first | exact Or.inl c_2 | exact Or.inr (Or.inl c_7) | exact badB_sr hc_16 | exact Or.inr (Or.inr (Or.inr (Or.inr (Or.inr (Or.inr (Or.inl (by rw [show cl (nI o9) = o9 from nI_clamp (by omega)]; omega))))))))]
    have e_kb : kb = bnW sz mem kb p1 p2 p3 p4 p5 p6 p7 := by unfold bnW; rw [if_pos (by first | exact Or.inl c_2 | exact Or.inr (Or.inl c_7) | exact badB_sr hc_16 | exact Or.inr (Or.inr (Or.inr (Or.inr (Or.inr (Or.inr (Or.inl (by rw [show cl (nI o9) = o9 from nI_clamp (by omega)]; omega))))))))]
    have hP : va_P (dC, dI) vwCl (gw h kq sp k o b kp ga gl ++ kw cB k (bnKl kl p2 p3 p4 p5 p6 p7) (bnW sz mem kb p1 p2 p3 p4 p5 p6 p7) ++ ow cB o oz cs cd ++ sw cB cI b sz st us mem pl ln) s.heap := by rw [← e_kl, ← e_kb]; exact hP
    have hD : va_D A (gw h kq sp k o b kp ga gl ++ kw cB k (bnKl kl p2 p3 p4 p5 p6 p7) (bnW sz mem kb p1 p2 p3 p4 p5 p6 p7) ++ ow cB o oz cs cd ++ sw cB cI b sz st us mem pl ln) := by rw [← e_kl, ← e_kb]; exact hD
    exact W.iret (v := ((-11))) hx hb hr (fun t ht hW => ⟨⟨((-11)), (), rfl, (show ((-11)) = bnR sz mem p1 p2 p3 p4 p5 p6 p7 from by unfold bnR; rw [if_pos (by first | exact Or.inl c_2 | exact Or.inr (Or.inl c_7) | exact badB_sr hc_16 | exact Or.inr (Or.inr (Or.inr (Or.inr (Or.inr (Or.inr (Or.inl (by rw [show cl (nI o9) = o9 from nI_clamp (by omega)]; omega))))))))]), by rw [ht]; exact hP, va_K.moved hW.alike hK, hD⟩, hS.F ht⟩) hS.2.2 dX3_binary_31
  · obtain ⟨w, n_w, rfl⟩ := nI_of c_2
    refine lv_iload hx hb dX3_binary_5 (lv_at hl 5 rfl) ?_
    refine lv_if_lt (tgt := 29) hx hb dX3_binary_7 (by decide) (fun c_7 => ?_) (fun c_7 => ?_)
    · refine lv_bipush (v := ((-11))) hx hb dX3_binary_29 (by decide) ?_
      have e_kl : kl = bnKl kl p2 p3 (nI w) p5 p6 p7 := by unfold bnKl; rw [if_pos (by first | exact Or.inl c_2 | exact Or.inr (Or.inl c_7) | exact badB_sr hc_16 | exact Or.inr (Or.inr (Or.inr (Or.inr (Or.inr (Or.inr (Or.inl (by rw [show cl (nI o9) = o9 from nI_clamp (by omega)]; omega))))))))]
      have e_kb : kb = bnW sz mem kb p1 p2 p3 (nI w) p5 p6 p7 := by unfold bnW; rw [if_pos (by first | exact Or.inl c_2 | exact Or.inr (Or.inl c_7) | exact badB_sr hc_16 | exact Or.inr (Or.inr (Or.inr (Or.inr (Or.inr (Or.inr (Or.inl (by rw [show cl (nI o9) = o9 from nI_clamp (by omega)]; omega))))))))]
      have hP : va_P (dC, dI) vwCl (gw h kq sp k o b kp ga gl ++ kw cB k (bnKl kl p2 p3 (nI w) p5 p6 p7) (bnW sz mem kb p1 p2 p3 (nI w) p5 p6 p7) ++ ow cB o oz cs cd ++ sw cB cI b sz st us mem pl ln) s.heap := by rw [← e_kl, ← e_kb]; exact hP
      have hD : va_D A (gw h kq sp k o b kp ga gl ++ kw cB k (bnKl kl p2 p3 (nI w) p5 p6 p7) (bnW sz mem kb p1 p2 p3 (nI w) p5 p6 p7) ++ ow cB o oz cs cd ++ sw cB cI b sz st us mem pl ln) := by rw [← e_kl, ← e_kb]; exact hD
      exact W.iret (v := ((-11))) hx hb hr (fun t ht hW => ⟨⟨((-11)), (), rfl, (show ((-11)) = bnR sz mem p1 p2 p3 (nI w) p5 p6 p7 from by unfold bnR; rw [if_pos (by first | exact Or.inl c_2 | exact Or.inr (Or.inl c_7) | exact badB_sr hc_16 | exact Or.inr (Or.inr (Or.inr (Or.inr (Or.inr (Or.inr (Or.inl (by rw [show cl (nI o9) = o9 from nI_clamp (by omega)]; omega))))))))]), by rw [ht]; exact hP, va_K.moved hW.alike hK, hD⟩, hS.F ht⟩) hS.2.2 dX3_binary_31
    · obtain ⟨n, n_n, rfl⟩ := nI_of c_7
      refine lv_iload_n hx hb dX3_binary_10 rfl (lv_at hl 2 rfl) ?_
      refine lv_iload_n hx hb dX3_binary_11 rfl (lv_at hl 3 rfl) ?_
      refine lv_iload hx hb dX3_binary_12 (lv_at hl 6 rfl) ?_
      refine lv_iload hx hb dX3_binary_14 (lv_at hl 7 rfl) ?_
      refine vp_callSi (W.runS (As := [.int p2, .int p3, .int p6, .int p7]) (rest := []) ⟨hx, hb, hml, hown, hts⟩ (c_X3_isSearch l p2 p3 p6 p7) (va_cwS 4 hts gX3_binary_X3_isSearch rfl rfl rfl (by decide +kernel) ⟨Nat.le_of_ble_eq_true rfl, Nat.le_of_ble_eq_true rfl⟩) ⟨fun a9 U g9 mk9 q9 => ⟨q9.1, trivial⟩, fun U hU hW => ⟨rfl, trivial⟩⟩ rfl rfl hl.1 rfl (lv_room (Nat.le_of_ble_eq_true rfl)) dX3_binary_16 ⟨Nat.zero_le _, Nat.zero_le _⟩) (fun r_16 hw => ?_)
      try dsimp only at hw
      rcases hw with ⟨hc_16, rfl⟩ | ⟨hc_16, rfl⟩
      · obtain ⟨hs1, hs2, hs3, hs4, hs5⟩ := hc_16
        obtain ⟨x, n_x, rfl⟩ := nI_of hs1
        obtain ⟨off, n_off, rfl⟩ := nI_of hs2
        obtain ⟨o9, n_o9, rfl⟩ := nI_of hs3
        have ho7 : o9 ≤ 7 := Nat.not_lt.mp (fun q => hs4 ((nI_ltI (by omega) (by omega)).mpr q))
        rw [show cl (nI o9) = o9 from nI_clamp (by omega)] at hs5
        have hkb := isKb_t hs5
        obtain ⟨k9, hk1, hk2, rfl, hk4⟩ := isK_nat hs5
        refine lv_if_eq (tgt := 29) hx hb dX3_binary_19 (by decide) (fun c_19 => ?_) (fun c_19 => ?_)
        · exact absurd c_19 (by decide)
        · have c_19 : ¬ 1 = 0 := fun q => c_19 ((nZ_eq (by omega)).mpr q)
          refine lv_iload hx hb dX3_binary_22 (lv_at hl 7 rfl) ?_
          refine lv_iconst (v := (nI 2)) hx hb dX3_binary_24 (by decide) ?_
          refine lv_iand hx hb dX3_binary_25 ?_
          refine tpi (and2 (by omega)) ?_
          refine lv_if_eq (tgt := 32) hx hb dX3_binary_26 (by decide) (fun c_26 => ?_) (fun c_26 => ?_)
          · have c_26 : o9 / 2 % 2 * 2 = 0 := (nZ_eq (by omega)).mp c_26
            have hnb : ¬ badB (nI k9) (nI x) (nI w) (nI n) (nI off) (nI o9) := by
              rintro (q | q | q | q | q | q | q | q)
              · exact c_2 q
              · exact c_7 q
              · exact hs2 q
              · exact hs1 q
              · exact hs3 q
              · exact hs4 q
              · rw [show cl (nI o9) = o9 from nI_clamp (by omega)] at q; omega
              · rw [show cl (nI o9) = o9 from nI_clamp (by omega), hkb] at q; exact absurd q (by decide)
            refine lv_aload_n hx hb dX3_binary_32 rfl (lv_at hl 0 rfl) ?_
            refine va_get (D := (dC, dI)) (ci := 3) (v := .ref (k 0)) (C := RX3) (T := TX3) (N := 8) hx hb hts in_X3 hown hK hP 0 rfl rfl 1 (by decide) lk_1 (fun _ h9 => h9) rfl dX3_binary_33 ?_
            refine lv_aload_n hx hb dX3_binary_36 rfl (lv_at hl 0 rfl) ?_
            refine va_get (D := (dC, dI)) (ci := 3) (v := .ref (b 0)) (C := RX3) (T := TX3) (N := 8) hx hb hts in_X3 hown hK hP 0 rfl rfl 3 (by decide) lk_2 (fun _ h9 => h9) rfl dX3_binary_37 ?_
            refine lv_iload_n hx hb dX3_binary_40 rfl (lv_at hl 1 rfl) ?_
            refine lv_iload_n hx hb dX3_binary_41 rfl (lv_at hl 2 rfl) ?_
            refine lv_iload hx hb dX3_binary_42 (lv_at hl 7 rfl) ?_
            have hPc := hP.sub (ws' := kw cB k kl kb ++ sw cB cI b sz st us mem pl ln) [1, 2, 5, 6, 7, 8] rfl
            have hKc := hK.sub (tys' := [(cI, .int), (cB, .byte)]) [0, 1] rfl
            have hDc := hD.sub (ws' := kw cB k kl kb ++ sw cB cI b sz st us mem pl ln) [1, 2, 5, 6, 7, 8] (by decide) rfl
            have hFc := va_free (wc := kw cB k kl kb ++ sw cB cI b sz st us mem pl ln) hD hS hA [1, 2, 5, 6, 7, 8] rfl
            refine va_calli (va_runV (As := [.ref (b 0), .int p1, .int (nI k9), .int (nI o9)]) (rest := []) ⟨hx, hb, hml, hown, hts⟩ (c_X1_load l dC dI cB cI k b kl kb sz st us mem pl ln s.heap.size p1 k9 o9 (by omega) (by omega) (by omega) hk4 (by omega)) (cwV 4 hts gX3_binary_X1_load rfl rfl rfl (by decide +kernel) ⟨Nat.le_of_ble_eq_true rfl, Nat.le_of_ble_eq_true rfl⟩) ⟨fun a9 U g9 mk9 q9 => by obtain ⟨q0, q1, qP, qK, qD⟩ := q9; exact ⟨q0, q1, qP, va_K.moved (u := U) (U := U.calling g9 mk9 a9) (Vm.Alike.refl U.vm) qK, qD⟩, va_recv hKc hPc (ci := 1) (q0 := 0) rfl rfl, fun U hU hW => ⟨rfl, by rw [hU], by rw [hU]; exact hPc, va_K.moved hW.alike hKc, hDc.weaken (fun _ _ _ _ => trivial)⟩⟩ rfl rfl hl.1 rfl (lv_room (Nat.le_of_ble_eq_true rfl)) dX3_binary_44 ⟨Nat.zero_le _, Nat.zero_le _⟩) hS (fun q _ h => hFc q h) hFc (fun r_44 u t H1 locs ht9 hvm9 hw hB hz9 hk9 hS => ?_)
            obtain ⟨hP1, hK1, hD1⟩ := hB
            rw [ht9] at hP1
            obtain ⟨hP, hD⟩ := va_join (wr := gw h kq sp k o b kp ga gl ++ ow cB o oz cs cd) (w1 := kw cB k k9 (tkW sz mem p1 k9 o9 kb) ++ sw cB cI b sz st us mem pl ln) hP hD [1, 2, 5, 6, 7, 8] [0, 3, 4] rfl rfl (by decide) (by decide) hk9 hFc hP1 hD1
            generalize H1 = H at hP hS ⊢
            have hP := hP.sub (ws' := gw h kq sp k o b kp ga gl ++ kw cB k k9 (tkW sz mem p1 k9 o9 kb) ++ ow cB o oz cs cd ++ sw cB cI b sz st us mem pl ln) [0, 3, 4, 1, 2, 5, 6, 7, 8] rfl
            have hD := hD.sub (ws' := gw h kq sp k o b kp ga gl ++ kw cB k k9 (tkW sz mem p1 k9 o9 kb) ++ ow cB o oz cs cd ++ sw cB cI b sz st us mem pl ln) [0, 3, 4, 1, 2, 5, 6, 7, 8] (by decide) rfl
            have hP : va_P (dC, dI) vwCl (gw h kq sp k o b kp ga gl ++ kw cB k k9 (tkW sz mem p1 k9 o9 kb) ++ ow cB o oz cs cd ++ sw cB cI b sz st us mem pl ln) H := hP
            have hD : va_D A (gw h kq sp k o b kp ga gl ++ kw cB k k9 (tkW sz mem p1 k9 o9 kb) ++ ow cB o oz cs cd ++ sw cB cI b sz st us mem pl ln) := hD
            have btk : ∀ j, (tkW sz mem p1 k9 o9 kb) j < 256 := fun j => tkW_lt bmem bkb _ _ _ j
            rcases hw with ⟨htk, rfl⟩ | ⟨htk, rfl⟩
            · have hcm := cmp_ky (wt := kb) (mem := mem) htk
              refine lv_if_ne (tgt := 53) hx hb dX3_binary_47 (by decide) (fun c_47 => ?_) (fun c_47 => ?_)
              · have c_47 : ¬ 1 = 0 := fun q => c_47 ((nZ_eq (by omega)).mpr q)
                have hR : bnR sz mem p1 (nI k9) (nI x) (nI w) (nI n) (nI off) (nI o9) = bnF sz mem (ky mem p1 k9 o9) k9 x w off o9 0 n := by unfold bnR; rw [if_neg hnb, show cl (nI k9) = k9 from nI_clamp (by omega), show cl (nI x) = x from nI_clamp (by omega), show cl (nI w) = w from nI_clamp (by omega), show cl (nI n) = n from nI_clamp (by omega), show cl (nI off) = off from nI_clamp (by omega), show cl (nI o9) = o9 from nI_clamp (by omega), if_neg (fun q => q htk)]
                refine lv_lconst (v := lN 0) hx hb dX3_binary_53 (by decide) ?_
                refine lv_lstore (lv' := [(8, .long (lN 0)), (0, .ref h), (1, .int p1), (2, .int (nI k9)), (3, .int (nI x)), (4, .int (nI w)), (5, .int (nI n)), (6, .int (nI off)), (7, .int (nI o9))]) hx hb dX3_binary_54 hl (by decide) rfl (fun ls hl => ?_)
                refine lv_iload hx hb dX3_binary_56 (lv_at hl 6 rfl) ?_
                refine lv_i2l (v := lN n) hx hb dX3_binary_58 (nI_l (by omega)) ?_
                refine lv_lstore (lv' := [(10, .long (lN n)), (8, .long (lN 0)), (0, .ref h), (1, .int p1), (2, .int (nI k9)), (3, .int (nI x)), (4, .int (nI w)), (5, .int (nI n)), (6, .int (nI off)), (7, .int (nI o9))]) hx hb dX3_binary_59 hl (by decide) rfl (fun ls hl => ?_)
                refine lv_iconst (v := (nI 0)) hx hb dX3_binary_61 (by decide) ?_
                refine lv_istore (lv' := [(12, .int (nI 0)), (10, .long (lN n)), (8, .long (lN 0)), (0, .ref h), (1, .int p1), (2, .int (nI k9)), (3, .int (nI x)), (4, .int (nI w)), (5, .int (nI n)), (6, .int (nI off)), (7, .int (nI o9))]) hx hb dX3_binary_62 hl (by decide) rfl (fun ls hl => ?_)
                refine lp_still (σ := Nat × Nat × Nat) (fun ⟨lo, hi, sp9⟩ => lo ≤ hi ∧ hi ≤ n ∧ sp9 ≤ 40 ∧ bnF sz mem (ky mem p1 k9 o9) k9 x w off o9 0 n = bnF sz mem (ky mem p1 k9 o9) k9 x w off o9 lo hi ∧ hi - lo < 2 ^ (40 - sp9)) (fun ⟨lo, hi, sp9⟩ => 41 - sp9) (fun ⟨lo, hi, sp9⟩ => [(12, .int (nI sp9)), (10, .long (lN hi)), (8, .long (lN lo)), (0, .ref h), (1, .int p1), (2, .int (nI k9)), (3, .int (nI x)), (4, .int (nI w)), (5, .int (nI n)), (6, .int (nI off)), (7, .int (nI o9))]) ?_ ((0, n, 0)) (⟨by omega, Nat.le_refl _, by omega, rfl, by rw [Nat.sub_zero, Nat.sub_zero]; exact Nat.lt_trans n_n (by decide)⟩) (lv_sub hl [0, 1, 2, 3, 4, 5, 6, 7, 8, 9, 10] rfl)
                intro ⟨lo, hi, sp9⟩ hI ih ls hl
                have hl : lv_has ls 18 [(12, .int (nI sp9)), (10, .long (lN hi)), (8, .long (lN lo)), (0, .ref h), (1, .int p1), (2, .int (nI k9)), (3, .int (nI x)), (4, .int (nI w)), (5, .int (nI n)), (6, .int (nI off)), (7, .int (nI o9))] := hl
                have hI : lo ≤ hi ∧ hi ≤ n ∧ sp9 ≤ 40 ∧ bnF sz mem (ky mem p1 k9 o9) k9 x w off o9 0 n = bnF sz mem (ky mem p1 k9 o9) k9 x w off o9 lo hi ∧ hi - lo < 2 ^ (40 - sp9) := hI
                obtain ⟨hlo, hhi, hsp, hv, hpw⟩ := hI
                have ih_64 := ih
                refine lv_iload hx hb dX3_binary_64 (lv_at hl 0 rfl) ?_
                refine lv_bipush (v := (nI 40)) hx hb dX3_binary_66 (by decide) ?_
                refine lv_icmp_ge (tgt := 181) hx hb dX3_binary_68 (by decide) (fun c_68 => ?_) (fun c_68 => ?_)
                · have c_68 : 40 ≤ sp9 := (nI_leI (a := 40) (b := sp9) (by omega) (by omega)).mp c_68
                  refine lv_iload hx hb dX3_binary_181 (lv_at hl 10 rfl) ?_
                  refine vp_callSi (W.runS (As := [.int (nI o9)]) (rest := []) ⟨hx, hb, hml, hown, hts⟩ (c_X3_noneAnswer l o9 (by omega)) (va_cwS 1 hts gX3_binary_X3_noneAnswer rfl rfl rfl (by decide +kernel) ⟨Nat.le_of_ble_eq_true rfl, Nat.le_of_ble_eq_true rfl⟩) ⟨fun a9 U g9 mk9 q9 => ⟨q9.1, trivial⟩, fun U hU hW => ⟨rfl, trivial⟩⟩ rfl rfl hl.1 rfl (lv_room (Nat.le_of_ble_eq_true rfl)) dX3_binary_183 ⟨Nat.zero_le _, Nat.zero_le _⟩) (fun r_183 hw => ?_)
                  try dsimp only at hw
                  subst hw
                  have e_kl : k9 = bnKl kl (nI k9) (nI x) (nI w) (nI n) (nI off) (nI o9) := by unfold bnKl; rw [if_neg hnb, show cl (nI k9) = k9 from nI_clamp (by omega)]
                  have e_kb : tkW sz mem p1 k9 o9 kb = bnW sz mem kb p1 (nI k9) (nI x) (nI w) (nI n) (nI off) (nI o9) := by unfold bnW; rw [if_neg hnb, show cl (nI k9) = k9 from nI_clamp (by omega), show cl (nI o9) = o9 from nI_clamp (by omega)]
                  have hP : va_P (dC, dI) vwCl (gw h kq sp k o b kp ga gl ++ kw cB k (bnKl kl (nI k9) (nI x) (nI w) (nI n) (nI off) (nI o9)) (bnW sz mem kb p1 (nI k9) (nI x) (nI w) (nI n) (nI off) (nI o9)) ++ ow cB o oz cs cd ++ sw cB cI b sz st us mem pl ln) H := by rw [← e_kl, ← e_kb]; exact hP
                  have hD : va_D A (gw h kq sp k o b kp ga gl ++ kw cB k (bnKl kl (nI k9) (nI x) (nI w) (nI n) (nI off) (nI o9)) (bnW sz mem kb p1 (nI k9) (nI x) (nI w) (nI n) (nI off) (nI o9)) ++ ow cB o oz cs cd ++ sw cB cI b sz st us mem pl ln) := by rw [← e_kl, ← e_kb]; exact hD
                  exact W.iret (v := (noA o9)) hx hb hr (fun t ht hW => ⟨⟨(noA o9), (), rfl, (show (noA o9) = bnR sz mem p1 (nI k9) (nI x) (nI w) (nI n) (nI off) (nI o9) from by rw [hR, hv, bnF, dif_pos (show hi ≤ lo by have q := hpw; rw [show 40 - sp9 = 0 by omega, Nat.pow_zero] at q; omega)]), by rw [ht]; exact hP, va_K.moved hW.alike hK, hD⟩, hS.F ht⟩) hS.2.2 dX3_binary_186
                · have c_68 : ¬ 40 ≤ sp9 := fun q => c_68 ((nI_leI (a := 40) (b := sp9) (by omega) (by omega)).mpr q)
                  refine lv_lload hx hb dX3_binary_71 (lv_at hl 2 rfl) ?_
                  refine lv_lload hx hb dX3_binary_73 (lv_at hl 1 rfl) ?_
                  refine W.lcmp hx hb dX3_binary_75 ?_
                  refine lv_if_ge (tgt := 181) hx hb dX3_binary_76 (by decide) (fun c_76 => ?_) (fun c_76 => ?_)
                  · have c_76 : hi ≤ lo := (pk_lLE (a := hi) (b := lo) (by omega) (by omega)).mp ((lg_cmp_ge _ _).mp c_76)
                    refine lv_iload hx hb dX3_binary_181 (lv_at hl 10 rfl) ?_
                    refine vp_callSi (W.runS (As := [.int (nI o9)]) (rest := []) ⟨hx, hb, hml, hown, hts⟩ (c_X3_noneAnswer l o9 (by omega)) (va_cwS 1 hts gX3_binary_X3_noneAnswer rfl rfl rfl (by decide +kernel) ⟨Nat.le_of_ble_eq_true rfl, Nat.le_of_ble_eq_true rfl⟩) ⟨fun a9 U g9 mk9 q9 => ⟨q9.1, trivial⟩, fun U hU hW => ⟨rfl, trivial⟩⟩ rfl rfl hl.1 rfl (lv_room (Nat.le_of_ble_eq_true rfl)) dX3_binary_183 ⟨Nat.zero_le _, Nat.zero_le _⟩) (fun r_183 hw => ?_)
                    try dsimp only at hw
                    subst hw
                    have e_kl : k9 = bnKl kl (nI k9) (nI x) (nI w) (nI n) (nI off) (nI o9) := by unfold bnKl; rw [if_neg hnb, show cl (nI k9) = k9 from nI_clamp (by omega)]
                    have e_kb : tkW sz mem p1 k9 o9 kb = bnW sz mem kb p1 (nI k9) (nI x) (nI w) (nI n) (nI off) (nI o9) := by unfold bnW; rw [if_neg hnb, show cl (nI k9) = k9 from nI_clamp (by omega), show cl (nI o9) = o9 from nI_clamp (by omega)]
                    have hP : va_P (dC, dI) vwCl (gw h kq sp k o b kp ga gl ++ kw cB k (bnKl kl (nI k9) (nI x) (nI w) (nI n) (nI off) (nI o9)) (bnW sz mem kb p1 (nI k9) (nI x) (nI w) (nI n) (nI off) (nI o9)) ++ ow cB o oz cs cd ++ sw cB cI b sz st us mem pl ln) H := by rw [← e_kl, ← e_kb]; exact hP
                    have hD : va_D A (gw h kq sp k o b kp ga gl ++ kw cB k (bnKl kl (nI k9) (nI x) (nI w) (nI n) (nI off) (nI o9)) (bnW sz mem kb p1 (nI k9) (nI x) (nI w) (nI n) (nI off) (nI o9)) ++ ow cB o oz cs cd ++ sw cB cI b sz st us mem pl ln) := by rw [← e_kl, ← e_kb]; exact hD
                    exact W.iret (v := (noA o9)) hx hb hr (fun t ht hW => ⟨⟨(noA o9), (), rfl, (show (noA o9) = bnR sz mem p1 (nI k9) (nI x) (nI w) (nI n) (nI off) (nI o9) from by rw [hR, hv, bnF, dif_pos (show hi ≤ lo by omega)]), by rw [ht]; exact hP, va_K.moved hW.alike hK, hD⟩, hS.F ht⟩) hS.2.2 dX3_binary_186
                  · have c_76 : ¬ hi ≤ lo := fun q => c_76 ((lg_cmp_ge _ _).mpr ((pk_lLE (a := hi) (b := lo) (by omega) (by omega)).mpr q))
                    refine lv_lload hx hb dX3_binary_79 (lv_at hl 2 rfl) ?_
                    refine lv_lload hx hb dX3_binary_81 (lv_at hl 1 rfl) ?_
                    refine lv_ladd hx hb dX3_binary_83 ?_
                    refine tpl (lN_add _ _) ?_
                    refine lv_ldc2 (own := RX3) (v := (2)) hx hb hown lk_3 dX3_binary_84 ?_
                    refine tpl (show (2 : Int64) = lN 2 from rfl) ?_
                    refine lv_ldiv hx hb dX3_binary_87 (by decide) ?_
                    refine tpl (pk_lDiv (by omega) (by decide) (by decide)) ?_
                    refine lv_lstore (lv' := [(13, .long (lN ((lo + hi) / 2))), (12, .int (nI sp9)), (10, .long (lN hi)), (8, .long (lN lo)), (0, .ref h), (1, .int p1), (2, .int (nI k9)), (3, .int (nI x)), (4, .int (nI w)), (5, .int (nI n)), (6, .int (nI off)), (7, .int (nI o9))]) hx hb dX3_binary_88 hl (by decide) rfl (fun ls hl => ?_)
                    obtain ⟨md, hmd⟩ : ∃ q : Nat, q = (lo + hi) / 2 := ⟨_, rfl⟩
                    rw [← hmd] at hl
                    have hmw : md * w ≤ 2147483647 * 2147483647 := Nat.mul_le_mul (by omega) (by omega)
                    refine lv_iload_n hx hb dX3_binary_90 rfl (lv_at hl 7 rfl) ?_
                    refine lv_i2l (v := lN x) hx hb dX3_binary_91 (nI_l (by omega)) ?_
                    refine lv_lload hx hb dX3_binary_92 (lv_at hl 0 rfl) ?_
                    refine lv_iload hx hb dX3_binary_94 (lv_at hl 8 rfl) ?_
                    refine lv_i2l (v := lN w) hx hb dX3_binary_96 (nI_l (by omega)) ?_
                    refine lv_lmul hx hb dX3_binary_97 ?_
                    refine tpl (lN_mul _ _) ?_
                    refine lv_ladd hx hb dX3_binary_98 ?_
                    refine tpl (lN_add _ _) ?_
                    refine lv_lstore (lv' := [(15, .long (lN (x + (md * w)))), (13, .long (lN md)), (12, .int (nI sp9)), (10, .long (lN hi)), (8, .long (lN lo)), (0, .ref h), (1, .int p1), (2, .int (nI k9)), (3, .int (nI x)), (4, .int (nI w)), (5, .int (nI n)), (6, .int (nI off)), (7, .int (nI o9))]) hx hb dX3_binary_99 hl (by decide) rfl (fun ls hl => ?_)
                    refine lv_aload_n hx hb dX3_binary_101 rfl (lv_at hl 5 rfl) ?_
                    refine va_get (D := (dC, dI)) (ci := 3) (v := .ref (b 0)) (C := RX3) (T := TX3) (N := 8) hx hb hts in_X3 hown hK hP 0 rfl rfl 3 (by decide) lk_2 (fun _ h9 => h9) rfl dX3_binary_102 ?_
                    refine lv_lload hx hb dX3_binary_105 (lv_at hl 0 rfl) ?_
                    refine lv_iload hx hb dX3_binary_107 (lv_at hl 11 rfl) ?_
                    refine lv_i2l (v := lN off) hx hb dX3_binary_109 (nI_l (by omega)) ?_
                    refine lv_ladd hx hb dX3_binary_110 ?_
                    refine tpl (lN_add _ _) ?_
                    refine lv_iload_n hx hb dX3_binary_111 rfl (lv_at hl 7 rfl) ?_
                    have hPc := hP.sub (ws' := sw cB cI b sz st us mem pl ln) [5, 6, 7, 8] rfl
                    have hKc := hK.sub (tys' := [(cI, .int), (cB, .byte)]) [0, 1] rfl
                    refine vp_callSi (W.runV (As := [.long (lN (x + (md * w) + off)), .int (nI k9)]) (rest := []) ⟨hx, hb, hml, hown, hts⟩ (c_X2_has l dC dI cB cI b sz st us mem pl ln (x + (md * w) + off) k9 (by omega) (by omega) (by omega)) (cwV 2 hts gX3_binary_X2_has rfl rfl rfl (by decide +kernel) ⟨Nat.le_of_ble_eq_true rfl, Nat.le_of_ble_eq_true rfl⟩) ⟨fun a9 U g9 mk9 q9 => by obtain ⟨q0, qP, qK⟩ := q9; exact ⟨q0, qP, va_K.moved (u := U) (U := U.calling g9 mk9 a9) (Vm.Alike.refl U.vm) qK⟩, va_recv hKc hPc (ci := 2) (q0 := 0) rfl rfl, fun U hU hW => ⟨rfl, by rw [hU]; exact hPc, va_K.moved hW.alike hKc⟩⟩ rfl rfl hl.1 rfl (lv_room (Nat.le_of_ble_eq_true rfl)) dX3_binary_112 ⟨Nat.zero_le _, Nat.zero_le _⟩) (fun r_112 hw => ?_)
                    try dsimp only at hw
                    rcases hw with ⟨hc_112, rfl⟩ | ⟨hc_112, rfl⟩
                    · skip
                      refine lv_if_ne (tgt := 121) hx hb dX3_binary_115 (by decide) (fun c_115 => ?_) (fun c_115 => ?_)
                      · have c_115 : ¬ 1 = 0 := fun q => c_115 ((nZ_eq (by omega)).mpr q)
                        refine lv_aload_n hx hb dX3_binary_121 rfl (lv_at hl 5 rfl) ?_
                        refine va_get (D := (dC, dI)) (ci := 3) (v := .ref (k 0)) (C := RX3) (T := TX3) (N := 8) hx hb hts in_X3 hown hK hP 0 rfl rfl 1 (by decide) lk_1 (fun _ h9 => h9) rfl dX3_binary_122 ?_
                        refine lv_aload_n hx hb dX3_binary_125 rfl (lv_at hl 5 rfl) ?_
                        refine va_get (D := (dC, dI)) (ci := 3) (v := .ref (b 0)) (C := RX3) (T := TX3) (N := 8) hx hb hts in_X3 hown hK hP 0 rfl rfl 3 (by decide) lk_2 (fun _ h9 => h9) rfl dX3_binary_126 ?_
                        refine lv_lload hx hb dX3_binary_129 (lv_at hl 0 rfl) ?_
                        refine lv_iload hx hb dX3_binary_131 (lv_at hl 11 rfl) ?_
                        refine lv_i2l (v := lN off) hx hb dX3_binary_133 (nI_l (by omega)) ?_
                        refine lv_ladd hx hb dX3_binary_134 ?_
                        refine tpl (lN_add _ _) ?_
                        refine lv_l2i (v := nI (x + (md * w) + off)) hx hb dX3_binary_135 (lN_i _) ?_
                        have hPc := hP.sub (ws' := kw cB k k9 (tkW sz mem p1 k9 o9 kb) ++ sw cB cI b sz st us mem pl ln) [1, 2, 5, 6, 7, 8] rfl
                        have hKc := hK.sub (tys' := [(cI, .int), (cB, .byte)]) [0, 1] rfl
                        refine vp_callSi (W.runV (As := [.ref (b 0), .int (nI (x + (md * w) + off))]) (rest := []) ⟨hx, hb, hml, hown, hts⟩ (c_X1_orderOf l dC dI cB cI k b k9 (tkW sz mem p1 k9 o9 kb) sz st us mem pl ln (x + (md * w) + off) (by omega) (by omega) bmem btk) (cwV 2 hts gX3_binary_X1_orderOf rfl rfl rfl (by decide +kernel) ⟨Nat.le_of_ble_eq_true rfl, Nat.le_of_ble_eq_true rfl⟩) ⟨fun a9 U g9 mk9 q9 => by obtain ⟨q0, qP, qK⟩ := q9; exact ⟨q0, qP, va_K.moved (u := U) (U := U.calling g9 mk9 a9) (Vm.Alike.refl U.vm) qK⟩, va_recv hKc hPc (ci := 1) (q0 := 0) rfl rfl, fun U hU hW => ⟨rfl, by rw [hU]; exact hPc, va_K.moved hW.alike hKc⟩⟩ rfl rfl hl.1 rfl (lv_room (Nat.le_of_ble_eq_true rfl)) dX3_binary_136 ⟨Nat.zero_le _, Nat.zero_le _⟩) (fun r_136 hw => ?_)
                        try dsimp only at hw
                        rcases hw with ⟨hc_136, rfl⟩ | ⟨hc_136, hs_136⟩ | ⟨hc_136, hs_136⟩
                        · rw [hcm] at hc_136
                          refine lv_istore (lv' := [(17, .int (nI 0)), (15, .long (lN (x + (md * w)))), (13, .long (lN md)), (12, .int (nI sp9)), (10, .long (lN hi)), (8, .long (lN lo)), (0, .ref h), (1, .int p1), (2, .int (nI k9)), (3, .int (nI x)), (4, .int (nI w)), (5, .int (nI n)), (6, .int (nI off)), (7, .int (nI o9))]) hx hb dX3_binary_139 hl (by decide) rfl (fun ls hl => ?_)
                          refine lv_iload hx hb dX3_binary_141 (lv_at hl 0 rfl) ?_
                          refine lv_if_ne (tgt := 157) hx hb dX3_binary_143 (by decide) (fun c_143 => ?_) (fun c_143 => ?_)
                          · exact absurd c_143 (by decide)
                          · have c_143 : 0 = 0 := (nZ_eq (by omega)).mp c_143
                            refine lv_lload hx hb dX3_binary_146 (lv_at hl 2 rfl) ?_
                            refine lv_l2i (v := nI md) hx hb dX3_binary_148 (lN_i _) ?_
                            refine lv_lload hx hb dX3_binary_149 (lv_at hl 1 rfl) ?_
                            refine lv_iload hx hb dX3_binary_151 (lv_at hl 13 rfl) ?_
                            refine vp_callSi (W.runS (As := [.int (nI md), .long (lN (x + (md * w))), .int (nI o9)]) (rest := []) ⟨hx, hb, hml, hown, hts⟩ (c_X3_foundAnswer l md (x + (md * w)) o9 (by omega)) (va_cwS 3 hts gX3_binary_X3_foundAnswer rfl rfl rfl (by decide +kernel) ⟨Nat.le_of_ble_eq_true rfl, Nat.le_of_ble_eq_true rfl⟩) ⟨fun a9 U g9 mk9 q9 => ⟨q9.1, trivial⟩, fun U hU hW => ⟨rfl, trivial⟩⟩ rfl rfl hl.1 rfl (lv_room (Nat.le_of_ble_eq_true rfl)) dX3_binary_153 ⟨Nat.zero_le _, Nat.zero_le _⟩) (fun r_153 hw => ?_)
                            try dsimp only at hw
                            subst hw
                            have e_kl : k9 = bnKl kl (nI k9) (nI x) (nI w) (nI n) (nI off) (nI o9) := by unfold bnKl; rw [if_neg hnb, show cl (nI k9) = k9 from nI_clamp (by omega)]
                            have e_kb : tkW sz mem p1 k9 o9 kb = bnW sz mem kb p1 (nI k9) (nI x) (nI w) (nI n) (nI off) (nI o9) := by unfold bnW; rw [if_neg hnb, show cl (nI k9) = k9 from nI_clamp (by omega), show cl (nI o9) = o9 from nI_clamp (by omega)]
                            have hP : va_P (dC, dI) vwCl (gw h kq sp k o b kp ga gl ++ kw cB k (bnKl kl (nI k9) (nI x) (nI w) (nI n) (nI off) (nI o9)) (bnW sz mem kb p1 (nI k9) (nI x) (nI w) (nI n) (nI off) (nI o9)) ++ ow cB o oz cs cd ++ sw cB cI b sz st us mem pl ln) H := by rw [← e_kl, ← e_kb]; exact hP
                            have hD : va_D A (gw h kq sp k o b kp ga gl ++ kw cB k (bnKl kl (nI k9) (nI x) (nI w) (nI n) (nI off) (nI o9)) (bnW sz mem kb p1 (nI k9) (nI x) (nI w) (nI n) (nI off) (nI o9)) ++ ow cB o oz cs cd ++ sw cB cI b sz st us mem pl ln) := by rw [← e_kl, ← e_kb]; exact hD
                            exact W.iret (v := (if 4 ≤ o9 then nI md else nI (x + (md * w)))) hx hb hr (fun t ht hW => ⟨⟨(if 4 ≤ o9 then nI md else nI (x + (md * w))), (), rfl, (show (if 4 ≤ o9 then nI md else nI (x + (md * w))) = bnR sz mem p1 (nI k9) (nI x) (nI w) (nI n) (nI off) (nI o9) from by rw [hR, hv, bnF, dif_neg (show ¬ hi ≤ lo by omega), ← hmd, if_neg (show ¬ ¬ x + md * w + off + k9 ≤ sz by omega), if_pos hc_136]), by rw [ht]; exact hP, va_K.moved hW.alike hK, hD⟩, hS.F ht⟩) hS.2.2 dX3_binary_156
                        · rw [hcm] at hc_136
                          refine lv_istore (lv' := [(17, .int r_136), (15, .long (lN (x + (md * w)))), (13, .long (lN md)), (12, .int (nI sp9)), (10, .long (lN hi)), (8, .long (lN lo)), (0, .ref h), (1, .int p1), (2, .int (nI k9)), (3, .int (nI x)), (4, .int (nI w)), (5, .int (nI n)), (6, .int (nI off)), (7, .int (nI o9))]) hx hb dX3_binary_139 hl (by decide) rfl (fun ls hl => ?_)
                          refine lv_iload hx hb dX3_binary_141 (lv_at hl 0 rfl) ?_
                          refine lv_if_ne (tgt := 157) hx hb dX3_binary_143 (by decide) (fun c_143 => ?_) (fun c_143 => ?_)
                          · refine lv_iload hx hb dX3_binary_157 (lv_at hl 0 rfl) ?_
                            refine lv_if_ge (tgt := 171) hx hb dX3_binary_159 (by decide) (fun c_159 => ?_) (fun c_159 => ?_)
                            · have c_159 : ¬ r_136 < 0 := i0_ge.mp c_159
                              exact absurd hs_136 c_159
                            · have c_159 : r_136 < 0 := i0_nge.mp c_159
                              refine lv_lload hx hb dX3_binary_162 (lv_at hl 2 rfl) ?_
                              refine lv_lconst (v := lN 1) hx hb dX3_binary_164 (by decide) ?_
                              refine lv_ladd hx hb dX3_binary_165 ?_
                              refine tpl (lN_add _ _) ?_
                              refine lv_lstore (lv' := [(8, .long (lN (md + 1))), (17, .int r_136), (15, .long (lN (x + (md * w)))), (13, .long (lN md)), (12, .int (nI sp9)), (10, .long (lN hi)), (0, .ref h), (1, .int p1), (2, .int (nI k9)), (3, .int (nI x)), (4, .int (nI w)), (5, .int (nI n)), (6, .int (nI off)), (7, .int (nI o9))]) hx hb dX3_binary_166 hl (by decide) rfl (fun ls hl => ?_)
                              refine lv_goto (tgt := 175) hx hb dX3_binary_168 (by decide) ?_
                              refine lv_iinc (v := (nI (sp9 + 1))) (lv' := [(12, .int (nI (sp9 + 1))), (8, .long (lN (md + 1))), (17, .int r_136), (15, .long (lN (x + (md * w)))), (13, .long (lN md)), (10, .long (lN hi)), (0, .ref h), (1, .int p1), (2, .int (nI k9)), (3, .int (nI x)), (4, .int (nI w)), (5, .int (nI n)), (6, .int (nI off)), (7, .int (nI o9))]) hx hb dX3_binary_175 hl (k := 4) rfl (nI_inc _) (by decide) rfl (fun ls hl => ?_)
                              refine lv_goto (tgt := 64) hx hb dX3_binary_178 (by decide) ?_
                              exact ih_64 (md + 1, hi, sp9 + 1) (⟨by omega, by omega, by omega, by rw [hv, bnF, dif_neg (show ¬ hi ≤ lo by omega), ← hmd, if_neg (show ¬ ¬ x + md * w + off + k9 ≤ sz by omega), if_neg (by rw [hc_136]; decide), if_pos hc_136], Nat.lt_of_le_of_lt (show _ ≤ (hi - lo) / 2 by omega) (half40 hpw (by omega))⟩) (show 41 - (sp9 + 1) < 41 - sp9 by omega) ls (lv_sub hl [0, 5, 1, 6, 7, 8, 9, 10, 11, 12, 13] rfl)
                          · skip
                            exact absurd (c_143 ▸ hs_136) (by decide)
                        · rw [hcm] at hc_136
                          refine lv_istore (lv' := [(17, .int r_136), (15, .long (lN (x + (md * w)))), (13, .long (lN md)), (12, .int (nI sp9)), (10, .long (lN hi)), (8, .long (lN lo)), (0, .ref h), (1, .int p1), (2, .int (nI k9)), (3, .int (nI x)), (4, .int (nI w)), (5, .int (nI n)), (6, .int (nI off)), (7, .int (nI o9))]) hx hb dX3_binary_139 hl (by decide) rfl (fun ls hl => ?_)
                          refine lv_iload hx hb dX3_binary_141 (lv_at hl 0 rfl) ?_
                          refine lv_if_ne (tgt := 157) hx hb dX3_binary_143 (by decide) (fun c_143 => ?_) (fun c_143 => ?_)
                          · refine lv_iload hx hb dX3_binary_157 (lv_at hl 0 rfl) ?_
                            refine lv_if_ge (tgt := 171) hx hb dX3_binary_159 (by decide) (fun c_159 => ?_) (fun c_159 => ?_)
                            · have c_159 : ¬ r_136 < 0 := i0_ge.mp c_159
                              refine lv_lload hx hb dX3_binary_171 (lv_at hl 2 rfl) ?_
                              refine lv_lstore (lv' := [(10, .long (lN md)), (17, .int r_136), (15, .long (lN (x + (md * w)))), (13, .long (lN md)), (12, .int (nI sp9)), (8, .long (lN lo)), (0, .ref h), (1, .int p1), (2, .int (nI k9)), (3, .int (nI x)), (4, .int (nI w)), (5, .int (nI n)), (6, .int (nI off)), (7, .int (nI o9))]) hx hb dX3_binary_173 hl (by decide) rfl (fun ls hl => ?_)
                              refine lv_iinc (v := (nI (sp9 + 1))) (lv' := [(12, .int (nI (sp9 + 1))), (10, .long (lN md)), (17, .int r_136), (15, .long (lN (x + (md * w)))), (13, .long (lN md)), (8, .long (lN lo)), (0, .ref h), (1, .int p1), (2, .int (nI k9)), (3, .int (nI x)), (4, .int (nI w)), (5, .int (nI n)), (6, .int (nI off)), (7, .int (nI o9))]) hx hb dX3_binary_175 hl (k := 4) rfl (nI_inc _) (by decide) rfl (fun ls hl => ?_)
                              refine lv_goto (tgt := 64) hx hb dX3_binary_178 (by decide) ?_
                              exact ih_64 (lo, md, sp9 + 1) (⟨by omega, by omega, by omega, by rw [hv, bnF, dif_neg (show ¬ hi ≤ lo by omega), ← hmd, if_neg (show ¬ ¬ x + md * w + off + k9 ≤ sz by omega), if_neg (by rw [hc_136]; decide), if_neg (by rw [hc_136]; decide)], Nat.lt_of_le_of_lt (show _ ≤ (hi - lo) / 2 by omega) (half40 hpw (by omega))⟩) (show 41 - (sp9 + 1) < 41 - sp9 by omega) ls (lv_sub hl [0, 1, 5, 6, 7, 8, 9, 10, 11, 12, 13] rfl)
                            · have c_159 : r_136 < 0 := i0_nge.mp c_159
                              exact absurd (Int32.lt_trans hs_136 c_159) (by decide)
                          · skip
                            exact absurd (c_143 ▸ hs_136) (by decide)
                      · exact absurd c_115 (by decide)
                    · skip
                      refine lv_if_ne (tgt := 121) hx hb dX3_binary_115 (by decide) (fun c_115 => ?_) (fun c_115 => ?_)
                      · exact absurd c_115 (by decide)
                      · have c_115 : 0 = 0 := (nZ_eq (by omega)).mp c_115
                        refine lv_bipush (v := ((-12))) hx hb dX3_binary_118 (by decide) ?_
                        have e_kl : k9 = bnKl kl (nI k9) (nI x) (nI w) (nI n) (nI off) (nI o9) := by unfold bnKl; rw [if_neg hnb, show cl (nI k9) = k9 from nI_clamp (by omega)]
                        have e_kb : tkW sz mem p1 k9 o9 kb = bnW sz mem kb p1 (nI k9) (nI x) (nI w) (nI n) (nI off) (nI o9) := by unfold bnW; rw [if_neg hnb, show cl (nI k9) = k9 from nI_clamp (by omega), show cl (nI o9) = o9 from nI_clamp (by omega)]
                        have hP : va_P (dC, dI) vwCl (gw h kq sp k o b kp ga gl ++ kw cB k (bnKl kl (nI k9) (nI x) (nI w) (nI n) (nI off) (nI o9)) (bnW sz mem kb p1 (nI k9) (nI x) (nI w) (nI n) (nI off) (nI o9)) ++ ow cB o oz cs cd ++ sw cB cI b sz st us mem pl ln) H := by rw [← e_kl, ← e_kb]; exact hP
                        have hD : va_D A (gw h kq sp k o b kp ga gl ++ kw cB k (bnKl kl (nI k9) (nI x) (nI w) (nI n) (nI off) (nI o9)) (bnW sz mem kb p1 (nI k9) (nI x) (nI w) (nI n) (nI off) (nI o9)) ++ ow cB o oz cs cd ++ sw cB cI b sz st us mem pl ln) := by rw [← e_kl, ← e_kb]; exact hD
                        exact W.iret (v := ((-12))) hx hb hr (fun t ht hW => ⟨⟨((-12)), (), rfl, (show ((-12)) = bnR sz mem p1 (nI k9) (nI x) (nI w) (nI n) (nI off) (nI o9) from by rw [hR, hv, bnF, dif_neg (show ¬ hi ≤ lo by omega), ← hmd, if_pos (by omega)]), by rw [ht]; exact hP, va_K.moved hW.alike hK, hD⟩, hS.F ht⟩) hS.2.2 dX3_binary_120
              · exact absurd c_47 (by decide)
            · skip
              refine lv_if_ne (tgt := 53) hx hb dX3_binary_47 (by decide) (fun c_47 => ?_) (fun c_47 => ?_)
              · exact absurd c_47 (by decide)
              · have c_47 : 0 = 0 := (nZ_eq (by omega)).mp c_47
                refine lv_bipush (v := ((-12))) hx hb dX3_binary_50 (by decide) ?_
                have e_kl : k9 = bnKl kl (nI k9) (nI x) (nI w) (nI n) (nI off) (nI o9) := by unfold bnKl; rw [if_neg hnb, show cl (nI k9) = k9 from nI_clamp (by omega)]
                have e_kb : tkW sz mem p1 k9 o9 kb = bnW sz mem kb p1 (nI k9) (nI x) (nI w) (nI n) (nI off) (nI o9) := by unfold bnW; rw [if_neg hnb, show cl (nI k9) = k9 from nI_clamp (by omega), show cl (nI o9) = o9 from nI_clamp (by omega)]
                have hP : va_P (dC, dI) vwCl (gw h kq sp k o b kp ga gl ++ kw cB k (bnKl kl (nI k9) (nI x) (nI w) (nI n) (nI off) (nI o9)) (bnW sz mem kb p1 (nI k9) (nI x) (nI w) (nI n) (nI off) (nI o9)) ++ ow cB o oz cs cd ++ sw cB cI b sz st us mem pl ln) H := by rw [← e_kl, ← e_kb]; exact hP
                have hD : va_D A (gw h kq sp k o b kp ga gl ++ kw cB k (bnKl kl (nI k9) (nI x) (nI w) (nI n) (nI off) (nI o9)) (bnW sz mem kb p1 (nI k9) (nI x) (nI w) (nI n) (nI off) (nI o9)) ++ ow cB o oz cs cd ++ sw cB cI b sz st us mem pl ln) := by rw [← e_kl, ← e_kb]; exact hD
                exact W.iret (v := ((-12))) hx hb hr (fun t ht hW => ⟨⟨((-12)), (), rfl, (show ((-12)) = bnR sz mem p1 (nI k9) (nI x) (nI w) (nI n) (nI off) (nI o9) from by unfold bnR; rw [if_neg hnb, show cl (nI k9) = k9 from nI_clamp (by omega), show cl (nI o9) = o9 from nI_clamp (by omega), if_pos htk]), by rw [ht]; exact hP, va_K.moved hW.alike hK, hD⟩, hS.F ht⟩) hS.2.2 dX3_binary_52
          · have c_26 : ¬ o9 / 2 % 2 * 2 = 0 := fun q => c_26 ((nZ_eq (by omega)).mpr q)
            refine lv_bipush (v := ((-11))) hx hb dX3_binary_29 (by decide) ?_
            have e_kl : kl = bnKl kl (nI k9) (nI x) (nI w) (nI n) (nI off) (nI o9) := by unfold bnKl; rw [if_pos (by first | exact Or.inl c_2 | exact Or.inr (Or.inl c_7) | exact badB_sr hc_16 | exact Or.inr (Or.inr (Or.inr (Or.inr (Or.inr (Or.inr (Or.inl (by rw [show cl (nI o9) = o9 from nI_clamp (by omega)]; omega))))))))]
            have e_kb : kb = bnW sz mem kb p1 (nI k9) (nI x) (nI w) (nI n) (nI off) (nI o9) := by unfold bnW; rw [if_pos (by first | exact Or.inl c_2 | exact Or.inr (Or.inl c_7) | exact badB_sr hc_16 | exact Or.inr (Or.inr (Or.inr (Or.inr (Or.inr (Or.inr (Or.inl (by rw [show cl (nI o9) = o9 from nI_clamp (by omega)]; omega))))))))]
            have hP : va_P (dC, dI) vwCl (gw h kq sp k o b kp ga gl ++ kw cB k (bnKl kl (nI k9) (nI x) (nI w) (nI n) (nI off) (nI o9)) (bnW sz mem kb p1 (nI k9) (nI x) (nI w) (nI n) (nI off) (nI o9)) ++ ow cB o oz cs cd ++ sw cB cI b sz st us mem pl ln) s.heap := by rw [← e_kl, ← e_kb]; exact hP
            have hD : va_D A (gw h kq sp k o b kp ga gl ++ kw cB k (bnKl kl (nI k9) (nI x) (nI w) (nI n) (nI off) (nI o9)) (bnW sz mem kb p1 (nI k9) (nI x) (nI w) (nI n) (nI off) (nI o9)) ++ ow cB o oz cs cd ++ sw cB cI b sz st us mem pl ln) := by rw [← e_kl, ← e_kb]; exact hD
            exact W.iret (v := ((-11))) hx hb hr (fun t ht hW => ⟨⟨((-11)), (), rfl, (show ((-11)) = bnR sz mem p1 (nI k9) (nI x) (nI w) (nI n) (nI off) (nI o9) from by unfold bnR; rw [if_pos (by first | exact Or.inl c_2 | exact Or.inr (Or.inl c_7) | exact badB_sr hc_16 | exact Or.inr (Or.inr (Or.inr (Or.inr (Or.inr (Or.inr (Or.inl (by rw [show cl (nI o9) = o9 from nI_clamp (by omega)]; omega))))))))]), by rw [ht]; exact hP, va_K.moved hW.alike hK, hD⟩, hS.F ht⟩) hS.2.2 dX3_binary_31
      · refine lv_if_eq (tgt := 29) hx hb dX3_binary_19 (by decide) (fun c_19 => ?_) (fun c_19 => ?_)
        · have c_19 : 0 = 0 := (nZ_eq (by omega)).mp c_19
          refine lv_bipush (v := ((-11))) hx hb dX3_binary_29 (by decide) ?_
          have e_kl : kl = bnKl kl p2 p3 (nI w) (nI n) p6 p7 := by unfold bnKl; rw [if_pos (by first | exact Or.inl c_2 | exact Or.inr (Or.inl c_7) | exact badB_sr hc_16 | exact Or.inr (Or.inr (Or.inr (Or.inr (Or.inr (Or.inr (Or.inl (by rw [show cl (nI o9) = o9 from nI_clamp (by omega)]; omega))))))))]
          have e_kb : kb = bnW sz mem kb p1 p2 p3 (nI w) (nI n) p6 p7 := by unfold bnW; rw [if_pos (by first | exact Or.inl c_2 | exact Or.inr (Or.inl c_7) | exact badB_sr hc_16 | exact Or.inr (Or.inr (Or.inr (Or.inr (Or.inr (Or.inr (Or.inl (by rw [show cl (nI o9) = o9 from nI_clamp (by omega)]; omega))))))))]
          have hP : va_P (dC, dI) vwCl (gw h kq sp k o b kp ga gl ++ kw cB k (bnKl kl p2 p3 (nI w) (nI n) p6 p7) (bnW sz mem kb p1 p2 p3 (nI w) (nI n) p6 p7) ++ ow cB o oz cs cd ++ sw cB cI b sz st us mem pl ln) s.heap := by rw [← e_kl, ← e_kb]; exact hP
          have hD : va_D A (gw h kq sp k o b kp ga gl ++ kw cB k (bnKl kl p2 p3 (nI w) (nI n) p6 p7) (bnW sz mem kb p1 p2 p3 (nI w) (nI n) p6 p7) ++ ow cB o oz cs cd ++ sw cB cI b sz st us mem pl ln) := by rw [← e_kl, ← e_kb]; exact hD
          exact W.iret (v := ((-11))) hx hb hr (fun t ht hW => ⟨⟨((-11)), (), rfl, (show ((-11)) = bnR sz mem p1 p2 p3 (nI w) (nI n) p6 p7 from by unfold bnR; rw [if_pos (by first | exact Or.inl c_2 | exact Or.inr (Or.inl c_7) | exact badB_sr hc_16 | exact Or.inr (Or.inr (Or.inr (Or.inr (Or.inr (Or.inr (Or.inl (by rw [show cl (nI o9) = o9 from nI_clamp (by omega)]; omega))))))))]), by rw [ht]; exact hP, va_K.moved hW.alike hK, hD⟩, hS.F ht⟩) hS.2.2 dX3_binary_31
        · exact absurd c_19 (by decide)
set_option maxHeartbeats 4000000 in
set_option maxRecDepth 100000 in
theorem c_X3_linked (l : Launch) (dC : Nat → ClassId) (dI : Nat → Nat → Nat) (cB cI : ClassId) (h kq : Nat) (sp : Option Nat) (k o b : Nat → Nat) (kp : Nat) (ga : Nat) (gl : Nat) (kl : Nat) (kb : Nat → Nat) (oz : Nat) (cs : Nat) (cd : Nat → Nat) (sz : Nat) (st : Nat) (us : Nat) (mem : Nat → Nat) (pl : Nat → Nat) (ln : Nat → Nat) (zz : Nat) (p1 p2 p3 p4 p5 p6 : Int32) (bmem : ∀ j, mem j < 256) (bkb : ∀ j, kb j < 256) (g3 : sz ≤ 8192) : Met l yX3_linked wsX3_linked ({ frames := 2, cells := 0, slots := 0, locals := 65 }) (va_Pc [.ref h, .int p1, .int p2, .int p3, .int p4, .int p5, .int p6] (fun U => U.heap.size = zz ∧ va_P (dC, dI) vwCl (gw h kq sp k o b kp ga gl ++ kw cB k kl kb ++ ow cB o oz cs cd ++ sw cB cI b sz st us mem pl ln) U.heap ∧ va_K (dC, dI) vwCl [(cI, .int), (cB, .byte)] U ∧ va_D (fun _ => True) (gw h kq sp k o b kp ga gl ++ kw cB k kl kb ++ ow cB o oz cs cd ++ sw cB cI b sz st us mem pl ln))) (va_Qi (fun r _ => r = lkR sz mem p1 p2 p3 p4 p5 p6) (fun (_ : Unit) t => va_P (dC, dI) vwCl (gw h kq sp k o b kp ga gl ++ kw cB k (lkKl kl p2 p3 p4 p5 p6) (lkW sz mem kb p1 p2 p3 p4 p5 p6) ++ ow cB o oz cs cd ++ sw cB cI b sz st us mem pl ln) t.heap ∧ va_K (dC, dI) vwCl [(cI, .int), (cB, .byte)] t ∧ va_D (va_A (gw h kq sp k o b kp ga gl ++ kw cB k kl kb ++ ow cB o oz cs cd ++ sw cB cI b sz st us mem pl ln) zz) (gw h kq sp k o b kp ga gl ++ kw cB k (lkKl kl p2 p3 p4 p5 p6) (lkW sz mem kb p1 p2 p3 p4 p5 p6) ++ ow cB o oz cs cd ++ sw cB cI b sz st us mem pl ln)) (va_A (gw h kq sp k o b kp ga gl ++ kw cB k kl kb ++ ow cB o oz cs cd ++ sw cB cI b sz st us mem pl ln) zz)) 0 0 (va_A (gw h kq sp k o b kp ga gl ++ kw cB k kl kb ++ ow cB o oz cs cd ++ sw cB cI b sz st us mem pl ln) zz) := by
  refine Met.ofW (cc := cX3_linked) (maxL := 11) (ret := (some .int)) (by decide) rfl ?_
  intro p e s m args below meth c s₁ B hml hv
  obtain ⟨rfl, hsz, hP, hK, hD0⟩ := hv
  have hx := B.exec
  have hb := B.bytes
  have hr := B.returns
  have hts := atoms_spec (ws := wsX3_linked) B.pre
  have hown : s.vm.findClass RX3 = some m.cls := findClass_of_methodNamed B.named
  have hlocks := B.notSynchronized
  subst hsz
  have hD := hD0.self (sz := s.heap.size)
  generalize hAe : va_A (gw h kq sp k o b kp ga gl ++ kw cB k kl kb ++ ow cB o oz cs cd ++ sw cB cI b sz st us mem pl ln) s.heap.size = A at hD ⊢
  have hA : ∀ q : Nat, s.heap.size ≤ q → A q := fun q h => by rw [← hAe]; exact Or.inr h
  have hS : va_S A s.heap s.heap [] := va_S.rf
  have hP : va_P (dC, dI) vwCl (gw h kq sp k o b kp ga gl ++ kw cB k kl kb ++ ow cB o oz cs cd ++ sw cB cI b sz st us mem pl ln) s.heap := hP
  have in_X3 : ∀ w ∈ wsX30, w ∈ wsX3_linked := fun _ h => List.mem_cons_of_mem _ (List.mem_append_left _ (List.mem_append_left _ (List.mem_append_right _ (h))))
  have lk_1 := hts (.fieldLink RX3 18 "GlulxHeap" "wanted" "LGlulxHeap$Key;") (List.mem_of_getElem? (i := 1) rfl)
  have lk_2 := hts (.fieldLink RX3 30 "GlulxHeap" "now" "LGlulxHeap$State;") (List.mem_of_getElem? (i := 2) rfl)
  have hl := lv_entry ([.ref h, .int p1, .int p2, .int p3, .int p4, .int p5, .int p6]) (n := 11) (Nat.le_of_ble_eq_true rfl)
  rw [lg_entry_eq]
  generalize (lg_sl ([.ref h, .int p1, .int p2, .int p3, .int p4, .int p5, .int p6]) ++ List.replicate (11 - (lg_sl ([.ref h, .int p1, .int p2, .int p3, .int p4, .int p5, .int p6])).length) Slot.unset).toArray = ls at hl ⊢
  have hl : lv_has ls 11 [(0, .ref h), (1, .int p1), (2, .int p2), (3, .int p3), (4, .int p4), (5, .int p5), (6, .int p6)] := hl
  refine lv_iload hx hb dX3_linked_0 (lv_at hl 5 rfl) ?_
  refine lv_if_lt (tgt := 24) hx hb dX3_linked_2 (by decide) (fun c_2 => ?_) (fun c_2 => ?_)
  · refine lv_bipush (v := ((-11))) hx hb dX3_linked_24 (by decide) ?_
    have e_kl : kl = lkKl kl p2 p3 p4 p5 p6 := by unfold lkKl; rw [if_pos (by first | exact Or.inr (Or.inr (Or.inl c_2)) | exact badK_sr hc_11 | exact Or.inr (Or.inr (Or.inr (Or.inr (Or.inl ((nI_ltI (by omega) (by omega)).mpr (by omega)))))))]
    have e_kb : kb = lkW sz mem kb p1 p2 p3 p4 p5 p6 := by unfold lkW; rw [if_pos (by first | exact Or.inr (Or.inr (Or.inl c_2)) | exact badK_sr hc_11 | exact Or.inr (Or.inr (Or.inr (Or.inr (Or.inl ((nI_ltI (by omega) (by omega)).mpr (by omega)))))))]
    have hP : va_P (dC, dI) vwCl (gw h kq sp k o b kp ga gl ++ kw cB k (lkKl kl p2 p3 p4 p5 p6) (lkW sz mem kb p1 p2 p3 p4 p5 p6) ++ ow cB o oz cs cd ++ sw cB cI b sz st us mem pl ln) s.heap := by rw [← e_kl, ← e_kb]; exact hP
    have hD : va_D A (gw h kq sp k o b kp ga gl ++ kw cB k (lkKl kl p2 p3 p4 p5 p6) (lkW sz mem kb p1 p2 p3 p4 p5 p6) ++ ow cB o oz cs cd ++ sw cB cI b sz st us mem pl ln) := by rw [← e_kl, ← e_kb]; exact hD
    exact W.iret (v := ((-11))) hx hb hr (fun t ht hW => ⟨⟨((-11)), (), rfl, (show ((-11)) = lkR sz mem p1 p2 p3 p4 p5 p6 from by unfold lkR; rw [if_pos (by first | exact Or.inr (Or.inr (Or.inl c_2)) | exact badK_sr hc_11 | exact Or.inr (Or.inr (Or.inr (Or.inr (Or.inl ((nI_ltI (by omega) (by omega)).mpr (by omega)))))))]), by rw [ht]; exact hP, va_K.moved hW.alike hK, hD⟩, hS.F ht⟩) hS.2.2 dX3_linked_26
  · obtain ⟨lk, n_lk, rfl⟩ := nI_of c_2
    refine lv_iload_n hx hb dX3_linked_5 rfl (lv_at hl 2 rfl) ?_
    refine lv_iload_n hx hb dX3_linked_6 rfl (lv_at hl 3 rfl) ?_
    refine lv_iload hx hb dX3_linked_7 (lv_at hl 4 rfl) ?_
    refine lv_iload hx hb dX3_linked_9 (lv_at hl 6 rfl) ?_
    refine vp_callSi (W.runS (As := [.int p2, .int p3, .int p4, .int p6]) (rest := []) ⟨hx, hb, hml, hown, hts⟩ (c_X3_isSearch l p2 p3 p4 p6) (va_cwS 4 hts gX3_linked_X3_isSearch rfl rfl rfl (by decide +kernel) ⟨Nat.le_of_ble_eq_true rfl, Nat.le_of_ble_eq_true rfl⟩) ⟨fun a9 U g9 mk9 q9 => ⟨q9.1, trivial⟩, fun U hU hW => ⟨rfl, trivial⟩⟩ rfl rfl hl.1 rfl (lv_room (Nat.le_of_ble_eq_true rfl)) dX3_linked_11 ⟨Nat.zero_le _, Nat.zero_le _⟩) (fun r_11 hw => ?_)
    try dsimp only at hw
    rcases hw with ⟨hc_11, rfl⟩ | ⟨hc_11, rfl⟩
    · obtain ⟨hs1, hs2, hs3, hs4, hs5⟩ := hc_11
      obtain ⟨x, n_x, rfl⟩ := nI_of hs1
      obtain ⟨off, n_off, rfl⟩ := nI_of hs2
      obtain ⟨o9, n_o9, rfl⟩ := nI_of hs3
      have ho7 : o9 ≤ 7 := Nat.not_lt.mp (fun q => hs4 ((nI_ltI (by omega) (by omega)).mpr q))
      rw [show cl (nI o9) = o9 from nI_clamp (by omega)] at hs5
      have hkb := isKb_t hs5
      obtain ⟨k9, hk1, hk2, rfl, hk4⟩ := isK_nat hs5
      refine lv_if_eq (tgt := 24) hx hb dX3_linked_14 (by decide) (fun c_14 => ?_) (fun c_14 => ?_)
      · exact absurd c_14 (by decide)
      · have c_14 : ¬ 1 = 0 := fun q => c_14 ((nZ_eq (by omega)).mpr q)
        refine lv_iload hx hb dX3_linked_17 (lv_at hl 6 rfl) ?_
        refine lv_iconst (v := (nI 4)) hx hb dX3_linked_19 (by decide) ?_
        refine lv_iand hx hb dX3_linked_20 ?_
        refine tpi (and4 (by omega)) ?_
        refine lv_if_eq (tgt := 27) hx hb dX3_linked_21 (by decide) (fun c_21 => ?_) (fun c_21 => ?_)
        · have c_21 : o9 / 4 * 4 = 0 := (nZ_eq (by omega)).mp c_21
          have hnb : ¬ badK (nI k9) (nI x) (nI off) (nI lk) (nI o9) := by
            rintro (q | q | q | q | q | q)
            · exact hs2 q
            · exact hs1 q
            · exact c_2 q
            · exact hs3 q
            · exact absurd ((nI_ltI (by omega) (by omega)).mp q) (by omega)
            · rw [show cl (nI o9) = o9 from nI_clamp (by omega), hkb] at q; exact absurd q (by decide)
          refine lv_aload_n hx hb dX3_linked_27 rfl (lv_at hl 0 rfl) ?_
          refine va_get (D := (dC, dI)) (ci := 3) (v := .ref (k 0)) (C := RX3) (T := TX3) (N := 8) hx hb hts in_X3 hown hK hP 0 rfl rfl 1 (by decide) lk_1 (fun _ h9 => h9) rfl dX3_linked_28 ?_
          refine lv_aload_n hx hb dX3_linked_31 rfl (lv_at hl 0 rfl) ?_
          refine va_get (D := (dC, dI)) (ci := 3) (v := .ref (b 0)) (C := RX3) (T := TX3) (N := 8) hx hb hts in_X3 hown hK hP 0 rfl rfl 3 (by decide) lk_2 (fun _ h9 => h9) rfl dX3_linked_32 ?_
          refine lv_iload_n hx hb dX3_linked_35 rfl (lv_at hl 1 rfl) ?_
          refine lv_iload_n hx hb dX3_linked_36 rfl (lv_at hl 2 rfl) ?_
          refine lv_iload hx hb dX3_linked_37 (lv_at hl 6 rfl) ?_
          have hPc := hP.sub (ws' := kw cB k kl kb ++ sw cB cI b sz st us mem pl ln) [1, 2, 5, 6, 7, 8] rfl
          have hKc := hK.sub (tys' := [(cI, .int), (cB, .byte)]) [0, 1] rfl
          have hDc := hD.sub (ws' := kw cB k kl kb ++ sw cB cI b sz st us mem pl ln) [1, 2, 5, 6, 7, 8] (by decide) rfl
          have hFc := va_free (wc := kw cB k kl kb ++ sw cB cI b sz st us mem pl ln) hD hS hA [1, 2, 5, 6, 7, 8] rfl
          refine va_calli (va_runV (As := [.ref (b 0), .int p1, .int (nI k9), .int (nI o9)]) (rest := []) ⟨hx, hb, hml, hown, hts⟩ (c_X1_load l dC dI cB cI k b kl kb sz st us mem pl ln s.heap.size p1 k9 o9 (by omega) (by omega) (by omega) hk4 (by omega)) (cwV 4 hts gX3_linked_X1_load rfl rfl rfl (by decide +kernel) ⟨Nat.le_of_ble_eq_true rfl, Nat.le_of_ble_eq_true rfl⟩) ⟨fun a9 U g9 mk9 q9 => by obtain ⟨q0, q1, qP, qK, qD⟩ := q9; exact ⟨q0, q1, qP, va_K.moved (u := U) (U := U.calling g9 mk9 a9) (Vm.Alike.refl U.vm) qK, qD⟩, va_recv hKc hPc (ci := 1) (q0 := 0) rfl rfl, fun U hU hW => ⟨rfl, by rw [hU], by rw [hU]; exact hPc, va_K.moved hW.alike hKc, hDc.weaken (fun _ _ _ _ => trivial)⟩⟩ rfl rfl hl.1 rfl (lv_room (Nat.le_of_ble_eq_true rfl)) dX3_linked_39 ⟨Nat.zero_le _, Nat.zero_le _⟩) hS (fun q _ h => hFc q h) hFc (fun r_39 u t H1 locs ht9 hvm9 hw hB hz9 hk9 hS => ?_)
          obtain ⟨hP1, hK1, hD1⟩ := hB
          rw [ht9] at hP1
          obtain ⟨hP, hD⟩ := va_join (wr := gw h kq sp k o b kp ga gl ++ ow cB o oz cs cd) (w1 := kw cB k k9 (tkW sz mem p1 k9 o9 kb) ++ sw cB cI b sz st us mem pl ln) hP hD [1, 2, 5, 6, 7, 8] [0, 3, 4] rfl rfl (by decide) (by decide) hk9 hFc hP1 hD1
          generalize H1 = H at hP hS ⊢
          have hP := hP.sub (ws' := gw h kq sp k o b kp ga gl ++ kw cB k k9 (tkW sz mem p1 k9 o9 kb) ++ ow cB o oz cs cd ++ sw cB cI b sz st us mem pl ln) [0, 3, 4, 1, 2, 5, 6, 7, 8] rfl
          have hD := hD.sub (ws' := gw h kq sp k o b kp ga gl ++ kw cB k k9 (tkW sz mem p1 k9 o9 kb) ++ ow cB o oz cs cd ++ sw cB cI b sz st us mem pl ln) [0, 3, 4, 1, 2, 5, 6, 7, 8] (by decide) rfl
          have hP : va_P (dC, dI) vwCl (gw h kq sp k o b kp ga gl ++ kw cB k k9 (tkW sz mem p1 k9 o9 kb) ++ ow cB o oz cs cd ++ sw cB cI b sz st us mem pl ln) H := hP
          have hD : va_D A (gw h kq sp k o b kp ga gl ++ kw cB k k9 (tkW sz mem p1 k9 o9 kb) ++ ow cB o oz cs cd ++ sw cB cI b sz st us mem pl ln) := hD
          have btk : ∀ j, (tkW sz mem p1 k9 o9 kb) j < 256 := fun j => tkW_lt bmem bkb _ _ _ j
          rcases hw with ⟨htk, rfl⟩ | ⟨htk, rfl⟩
          · have hcm := cmp_ky (wt := kb) (mem := mem) htk
            refine lv_if_ne (tgt := 48) hx hb dX3_linked_42 (by decide) (fun c_42 => ?_) (fun c_42 => ?_)
            · have c_42 : ¬ 1 = 0 := fun q => c_42 ((nZ_eq (by omega)).mpr q)
              have hR : lkR sz mem p1 (nI k9) (nI x) (nI off) (nI lk) (nI o9) = lkF sz mem (ky mem p1 k9 o9) k9 off lk o9 3000 x := by unfold lkR; rw [if_neg hnb, show cl (nI k9) = k9 from nI_clamp (by omega), show cl (nI x) = x from nI_clamp (by omega), show cl (nI off) = off from nI_clamp (by omega), show cl (nI lk) = lk from nI_clamp (by omega), show cl (nI o9) = o9 from nI_clamp (by omega), if_neg (fun q => q htk)]
              refine lv_iload_n hx hb dX3_linked_48 rfl (lv_at hl 3 rfl) ?_
              refine lv_i2l (v := lN x) hx hb dX3_linked_49 (nI_l (by omega)) ?_
              refine lv_lstore (lv' := [(7, .long (lN x)), (0, .ref h), (1, .int p1), (2, .int (nI k9)), (3, .int (nI x)), (4, .int (nI off)), (5, .int (nI lk)), (6, .int (nI o9))]) hx hb dX3_linked_50 hl (by decide) rfl (fun ls hl => ?_)
              refine lv_iconst (v := (nI 0)) hx hb dX3_linked_52 (by decide) ?_
              refine lv_istore (lv' := [(9, .int (nI 0)), (7, .long (lN x)), (0, .ref h), (1, .int p1), (2, .int (nI k9)), (3, .int (nI x)), (4, .int (nI off)), (5, .int (nI lk)), (6, .int (nI o9))]) hx hb dX3_linked_53 hl (by decide) rfl (fun ls hl => ?_)
              refine lp_still (σ := Nat × Nat) (fun ⟨z, i⟩ => i ≤ 3000 ∧ z < 2 ^ 32 ∧ lkF sz mem (ky mem p1 k9 o9) k9 off lk o9 3000 x = lkF sz mem (ky mem p1 k9 o9) k9 off lk o9 (3000 - i) z) (fun ⟨z, i⟩ => 3001 - i) (fun ⟨z, i⟩ => [(9, .int (nI i)), (7, .long (lN z)), (0, .ref h), (1, .int p1), (2, .int (nI k9)), (3, .int (nI x)), (4, .int (nI off)), (5, .int (nI lk)), (6, .int (nI o9))]) ?_ ((x, 0)) (⟨by omega, by omega, rfl⟩) (lv_sub hl [0, 1, 2, 3, 4, 5, 6, 7, 8] rfl)
              intro ⟨z, i⟩ hI ih ls hl
              have hl : lv_has ls 11 [(9, .int (nI i)), (7, .long (lN z)), (0, .ref h), (1, .int p1), (2, .int (nI k9)), (3, .int (nI x)), (4, .int (nI off)), (5, .int (nI lk)), (6, .int (nI o9))] := hl
              have hI : i ≤ 3000 ∧ z < 2 ^ 32 ∧ lkF sz mem (ky mem p1 k9 o9) k9 off lk o9 3000 x = lkF sz mem (ky mem p1 k9 o9) k9 off lk o9 (3000 - i) z := hI
              obtain ⟨hi, hz, hv⟩ := hI
              have ih_55 := ih
              refine lv_iload hx hb dX3_linked_55 (lv_at hl 0 rfl) ?_
              refine lv_sipush (v := (nI 3000)) hx hb dX3_linked_57 (by decide) ?_
              refine lv_icmp_ge (tgt := 152) hx hb dX3_linked_60 (by decide) (fun c_60 => ?_) (fun c_60 => ?_)
              · have c_60 : 3000 ≤ i := (nI_leI (a := 3000) (b := i) (by omega) (by omega)).mp c_60
                refine lv_lload hx hb dX3_linked_152 (lv_at hl 1 rfl) ?_
                refine lv_lconst (v := lN 0) hx hb dX3_linked_154 (by decide) ?_
                refine W.lcmp hx hb dX3_linked_155 ?_
                refine lv_if_ne (tgt := 163) hx hb dX3_linked_156 (by decide) (fun c_156 => ?_) (fun c_156 => ?_)
                · have c_156 : ¬ z = 0 := fun q => c_156 ((lg_cmp_eq _ _).mpr ((pk_lEQ (a := z) (b := 0) (by omega) (by omega)).mpr q))
                  refine lv_bipush (v := ((-16))) hx hb dX3_linked_163 (by decide) ?_
                  have e_kl : k9 = lkKl kl (nI k9) (nI x) (nI off) (nI lk) (nI o9) := by unfold lkKl; rw [if_neg hnb, show cl (nI k9) = k9 from nI_clamp (by omega)]
                  have e_kb : tkW sz mem p1 k9 o9 kb = lkW sz mem kb p1 (nI k9) (nI x) (nI off) (nI lk) (nI o9) := by unfold lkW; rw [if_neg hnb, show cl (nI k9) = k9 from nI_clamp (by omega), show cl (nI o9) = o9 from nI_clamp (by omega)]
                  have hP : va_P (dC, dI) vwCl (gw h kq sp k o b kp ga gl ++ kw cB k (lkKl kl (nI k9) (nI x) (nI off) (nI lk) (nI o9)) (lkW sz mem kb p1 (nI k9) (nI x) (nI off) (nI lk) (nI o9)) ++ ow cB o oz cs cd ++ sw cB cI b sz st us mem pl ln) H := by rw [← e_kl, ← e_kb]; exact hP
                  have hD : va_D A (gw h kq sp k o b kp ga gl ++ kw cB k (lkKl kl (nI k9) (nI x) (nI off) (nI lk) (nI o9)) (lkW sz mem kb p1 (nI k9) (nI x) (nI off) (nI lk) (nI o9)) ++ ow cB o oz cs cd ++ sw cB cI b sz st us mem pl ln) := by rw [← e_kl, ← e_kb]; exact hD
                  exact W.iret (v := ((-16))) hx hb hr (fun t ht hW => ⟨⟨((-16)), (), rfl, (show ((-16)) = lkR sz mem p1 (nI k9) (nI x) (nI off) (nI lk) (nI o9) from by rw [hR, hv, show 3000 - i = 0 by omega, lkF_e (by omega)]), by rw [ht]; exact hP, va_K.moved hW.alike hK, hD⟩, hS.F ht⟩) hS.2.2 dX3_linked_165
                · have c_156 : z = 0 := (pk_lEQ (a := z) (b := 0) (by omega) (by omega)).mp ((lg_cmp_eq _ _).mp c_156)
                  refine lv_iconst (v := (nI 0)) hx hb dX3_linked_159 (by decide) ?_
                  refine lv_goto (tgt := 165) hx hb dX3_linked_160 (by decide) ?_
                  have e_kl : k9 = lkKl kl (nI k9) (nI x) (nI off) (nI lk) (nI o9) := by unfold lkKl; rw [if_neg hnb, show cl (nI k9) = k9 from nI_clamp (by omega)]
                  have e_kb : tkW sz mem p1 k9 o9 kb = lkW sz mem kb p1 (nI k9) (nI x) (nI off) (nI lk) (nI o9) := by unfold lkW; rw [if_neg hnb, show cl (nI k9) = k9 from nI_clamp (by omega), show cl (nI o9) = o9 from nI_clamp (by omega)]
                  have hP : va_P (dC, dI) vwCl (gw h kq sp k o b kp ga gl ++ kw cB k (lkKl kl (nI k9) (nI x) (nI off) (nI lk) (nI o9)) (lkW sz mem kb p1 (nI k9) (nI x) (nI off) (nI lk) (nI o9)) ++ ow cB o oz cs cd ++ sw cB cI b sz st us mem pl ln) H := by rw [← e_kl, ← e_kb]; exact hP
                  have hD : va_D A (gw h kq sp k o b kp ga gl ++ kw cB k (lkKl kl (nI k9) (nI x) (nI off) (nI lk) (nI o9)) (lkW sz mem kb p1 (nI k9) (nI x) (nI off) (nI lk) (nI o9)) ++ ow cB o oz cs cd ++ sw cB cI b sz st us mem pl ln) := by rw [← e_kl, ← e_kb]; exact hD
                  exact W.iret (v := (nI 0)) hx hb hr (fun t ht hW => ⟨⟨(nI 0), (), rfl, (show (nI 0) = lkR sz mem p1 (nI k9) (nI x) (nI off) (nI lk) (nI o9) from by rw [hR, hv, show z = 0 by omega, lkF_z]), by rw [ht]; exact hP, va_K.moved hW.alike hK, hD⟩, hS.F ht⟩) hS.2.2 dX3_linked_165
              · have c_60 : ¬ 3000 ≤ i := fun q => c_60 ((nI_leI (a := 3000) (b := i) (by omega) (by omega)).mpr q)
                refine lv_lload hx hb dX3_linked_63 (lv_at hl 1 rfl) ?_
                refine lv_lconst (v := lN 0) hx hb dX3_linked_65 (by decide) ?_
                refine W.lcmp hx hb dX3_linked_66 ?_
                refine lv_if_eq (tgt := 152) hx hb dX3_linked_67 (by decide) (fun c_67 => ?_) (fun c_67 => ?_)
                · have c_67 : z = 0 := (pk_lEQ (a := z) (b := 0) (by omega) (by omega)).mp ((lg_cmp_eq _ _).mp c_67)
                  refine lv_lload hx hb dX3_linked_152 (lv_at hl 1 rfl) ?_
                  refine lv_lconst (v := lN 0) hx hb dX3_linked_154 (by decide) ?_
                  refine W.lcmp hx hb dX3_linked_155 ?_
                  refine lv_if_ne (tgt := 163) hx hb dX3_linked_156 (by decide) (fun c_156 => ?_) (fun c_156 => ?_)
                  · have c_156 : ¬ z = 0 := fun q => c_156 ((lg_cmp_eq _ _).mpr ((pk_lEQ (a := z) (b := 0) (by omega) (by omega)).mpr q))
                    omega
                  · have c_156 : z = 0 := (pk_lEQ (a := z) (b := 0) (by omega) (by omega)).mp ((lg_cmp_eq _ _).mp c_156)
                    refine lv_iconst (v := (nI 0)) hx hb dX3_linked_159 (by decide) ?_
                    refine lv_goto (tgt := 165) hx hb dX3_linked_160 (by decide) ?_
                    have e_kl : k9 = lkKl kl (nI k9) (nI x) (nI off) (nI lk) (nI o9) := by unfold lkKl; rw [if_neg hnb, show cl (nI k9) = k9 from nI_clamp (by omega)]
                    have e_kb : tkW sz mem p1 k9 o9 kb = lkW sz mem kb p1 (nI k9) (nI x) (nI off) (nI lk) (nI o9) := by unfold lkW; rw [if_neg hnb, show cl (nI k9) = k9 from nI_clamp (by omega), show cl (nI o9) = o9 from nI_clamp (by omega)]
                    have hP : va_P (dC, dI) vwCl (gw h kq sp k o b kp ga gl ++ kw cB k (lkKl kl (nI k9) (nI x) (nI off) (nI lk) (nI o9)) (lkW sz mem kb p1 (nI k9) (nI x) (nI off) (nI lk) (nI o9)) ++ ow cB o oz cs cd ++ sw cB cI b sz st us mem pl ln) H := by rw [← e_kl, ← e_kb]; exact hP
                    have hD : va_D A (gw h kq sp k o b kp ga gl ++ kw cB k (lkKl kl (nI k9) (nI x) (nI off) (nI lk) (nI o9)) (lkW sz mem kb p1 (nI k9) (nI x) (nI off) (nI lk) (nI o9)) ++ ow cB o oz cs cd ++ sw cB cI b sz st us mem pl ln) := by rw [← e_kl, ← e_kb]; exact hD
                    exact W.iret (v := (nI 0)) hx hb hr (fun t ht hW => ⟨⟨(nI 0), (), rfl, (show (nI 0) = lkR sz mem p1 (nI k9) (nI x) (nI off) (nI lk) (nI o9) from by rw [hR, hv, show z = 0 by omega, lkF_z]), by rw [ht]; exact hP, va_K.moved hW.alike hK, hD⟩, hS.F ht⟩) hS.2.2 dX3_linked_165
                · have c_67 : ¬ z = 0 := fun q => c_67 ((lg_cmp_eq _ _).mpr ((pk_lEQ (a := z) (b := 0) (by omega) (by omega)).mpr q))
                  refine lv_aload_n hx hb dX3_linked_70 rfl (lv_at hl 2 rfl) ?_
                  refine lv_lload hx hb dX3_linked_71 (lv_at hl 1 rfl) ?_
                  refine lv_iload hx hb dX3_linked_73 (lv_at hl 6 rfl) ?_
                  refine lv_i2l (v := lN off) hx hb dX3_linked_75 (nI_l (by omega)) ?_
                  refine lv_ladd hx hb dX3_linked_76 ?_
                  refine tpl (lN_add _ _) ?_
                  refine lv_iload hx hb dX3_linked_77 (lv_at hl 8 rfl) ?_
                  refine vp_callSi (W.runV (As := [.long (lN (z + off)), .int (nI o9)]) (rest := []) ⟨hx, hb, hml, hown, hts⟩ (c_X3_look l dC dI cB cI h kq sp k o b kp ga gl k9 (tkW sz mem p1 k9 o9 kb) oz cs cd sz st us mem pl ln (z + off) o9 (by omega) (by omega) (by omega) (by omega) bmem btk) (cwV 2 hts gX3_linked_X3_look rfl rfl rfl (by decide +kernel) ⟨Nat.le_of_ble_eq_true rfl, Nat.le_of_ble_eq_true rfl⟩) ⟨fun a9 U g9 mk9 q9 => by obtain ⟨q0, qP, qK⟩ := q9; exact ⟨q0, qP, va_K.moved (u := U) (U := U.calling g9 mk9 a9) (Vm.Alike.refl U.vm) qK⟩, va_recv hK hP (ci := 3) (q0 := 0) rfl rfl, fun U hU hW => ⟨rfl, by rw [hU]; exact hP, va_K.moved hW.alike hK⟩⟩ rfl rfl hl.1 rfl (lv_room (Nat.le_of_ble_eq_true rfl)) dX3_linked_79 ⟨Nat.zero_le _, Nat.zero_le _⟩) (fun r_79 hw => ?_)
                  try dsimp only at hw
                  rcases hw with ⟨hq1_79, rfl⟩ | ⟨hq1_79, hq2_79, rfl⟩ | ⟨hq1_79, hq2_79, hq3_79, rfl⟩ | ⟨hq1_79, hq2_79, hq3_79, rfl⟩
                  · skip
                    refine lv_istore (lv' := [(10, .int ((-12))), (9, .int (nI i)), (7, .long (lN z)), (0, .ref h), (1, .int p1), (2, .int (nI k9)), (3, .int (nI x)), (4, .int (nI off)), (5, .int (nI lk)), (6, .int (nI o9))]) hx hb dX3_linked_82 hl (by decide) rfl (fun ls hl => ?_)
                    refine lv_iload hx hb dX3_linked_84 (lv_at hl 0 rfl) ?_
                    refine lv_iconst (v := (nI 1)) hx hb dX3_linked_86 (by decide) ?_
                    refine lv_icmp_ne (tgt := 94) hx hb dX3_linked_87 (by decide) (fun c_87 => ?_) (fun c_87 => ?_)
                    · refine lv_iload hx hb dX3_linked_94 (lv_at hl 0 rfl) ?_
                      refine lv_iconst (v := (nI 2)) hx hb dX3_linked_96 (by decide) ?_
                      refine lv_icmp_ne (tgt := 102) hx hb dX3_linked_97 (by decide) (fun c_97 => ?_) (fun c_97 => ?_)
                      · refine lv_iload hx hb dX3_linked_102 (lv_at hl 0 rfl) ?_
                        refine lv_bipush (v := ((-12))) hx hb dX3_linked_104 (by decide) ?_
                        refine lv_icmp_eq (tgt := 126) hx hb dX3_linked_106 (by decide) (fun c_106 => ?_) (fun c_106 => ?_)
                        · refine lv_bipush (v := ((-12))) hx hb dX3_linked_126 (by decide) ?_
                          have e_kl : k9 = lkKl kl (nI k9) (nI x) (nI off) (nI lk) (nI o9) := by unfold lkKl; rw [if_neg hnb, show cl (nI k9) = k9 from nI_clamp (by omega)]
                          have e_kb : tkW sz mem p1 k9 o9 kb = lkW sz mem kb p1 (nI k9) (nI x) (nI off) (nI lk) (nI o9) := by unfold lkW; rw [if_neg hnb, show cl (nI k9) = k9 from nI_clamp (by omega), show cl (nI o9) = o9 from nI_clamp (by omega)]
                          have hP : va_P (dC, dI) vwCl (gw h kq sp k o b kp ga gl ++ kw cB k (lkKl kl (nI k9) (nI x) (nI off) (nI lk) (nI o9)) (lkW sz mem kb p1 (nI k9) (nI x) (nI off) (nI lk) (nI o9)) ++ ow cB o oz cs cd ++ sw cB cI b sz st us mem pl ln) H := by rw [← e_kl, ← e_kb]; exact hP
                          have hD : va_D A (gw h kq sp k o b kp ga gl ++ kw cB k (lkKl kl (nI k9) (nI x) (nI off) (nI lk) (nI o9)) (lkW sz mem kb p1 (nI k9) (nI x) (nI off) (nI lk) (nI o9)) ++ ow cB o oz cs cd ++ sw cB cI b sz st us mem pl ln) := by rw [← e_kl, ← e_kb]; exact hD
                          exact W.iret (v := ((-12))) hx hb hr (fun t ht hW => ⟨⟨((-12)), (), rfl, (show ((-12)) = lkR sz mem p1 (nI k9) (nI x) (nI off) (nI lk) (nI o9) from by rw [hR, hv, lkF_s (by omega) c_67, if_pos (by omega)]), by rw [ht]; exact hP, va_K.moved hW.alike hK, hD⟩, hS.F ht⟩) hS.2.2 dX3_linked_128
                        · exact absurd c_106 (by decide)
                      · exact absurd c_97 (by decide)
                    · exact absurd c_87 (by decide)
                  · rw [hcm] at hq2_79
                    refine lv_istore (lv' := [(10, .int (nI 1)), (9, .int (nI i)), (7, .long (lN z)), (0, .ref h), (1, .int p1), (2, .int (nI k9)), (3, .int (nI x)), (4, .int (nI off)), (5, .int (nI lk)), (6, .int (nI o9))]) hx hb dX3_linked_82 hl (by decide) rfl (fun ls hl => ?_)
                    refine lv_iload hx hb dX3_linked_84 (lv_at hl 0 rfl) ?_
                    refine lv_iconst (v := (nI 1)) hx hb dX3_linked_86 (by decide) ?_
                    refine lv_icmp_ne (tgt := 94) hx hb dX3_linked_87 (by decide) (fun c_87 => ?_) (fun c_87 => ?_)
                    · exact absurd c_87 (by decide)
                    · have c_87 : 1 = 1 := (nI_eq (a := 1) (b := 1) (by omega) (by omega)).mp c_87
                      refine lv_lload hx hb dX3_linked_90 (lv_at hl 2 rfl) ?_
                      refine lv_l2i (v := nI z) hx hb dX3_linked_92 (lN_i _) ?_
                      have e_kl : k9 = lkKl kl (nI k9) (nI x) (nI off) (nI lk) (nI o9) := by unfold lkKl; rw [if_neg hnb, show cl (nI k9) = k9 from nI_clamp (by omega)]
                      have e_kb : tkW sz mem p1 k9 o9 kb = lkW sz mem kb p1 (nI k9) (nI x) (nI off) (nI lk) (nI o9) := by unfold lkW; rw [if_neg hnb, show cl (nI k9) = k9 from nI_clamp (by omega), show cl (nI o9) = o9 from nI_clamp (by omega)]
                      have hP : va_P (dC, dI) vwCl (gw h kq sp k o b kp ga gl ++ kw cB k (lkKl kl (nI k9) (nI x) (nI off) (nI lk) (nI o9)) (lkW sz mem kb p1 (nI k9) (nI x) (nI off) (nI lk) (nI o9)) ++ ow cB o oz cs cd ++ sw cB cI b sz st us mem pl ln) H := by rw [← e_kl, ← e_kb]; exact hP
                      have hD : va_D A (gw h kq sp k o b kp ga gl ++ kw cB k (lkKl kl (nI k9) (nI x) (nI off) (nI lk) (nI o9)) (lkW sz mem kb p1 (nI k9) (nI x) (nI off) (nI lk) (nI o9)) ++ ow cB o oz cs cd ++ sw cB cI b sz st us mem pl ln) := by rw [← e_kl, ← e_kb]; exact hD
                      exact W.iret (v := (nI z)) hx hb hr (fun t ht hW => ⟨⟨(nI z), (), rfl, (show (nI z) = lkR sz mem p1 (nI k9) (nI x) (nI off) (nI lk) (nI o9) from by rw [hR, hv, lkF_s (by omega) c_67, if_neg (by omega), if_pos hq2_79]), by rw [ht]; exact hP, va_K.moved hW.alike hK, hD⟩, hS.F ht⟩) hS.2.2 dX3_linked_93
                  · rw [hcm] at hq2_79
                    refine lv_istore (lv' := [(10, .int (nI 2)), (9, .int (nI i)), (7, .long (lN z)), (0, .ref h), (1, .int p1), (2, .int (nI k9)), (3, .int (nI x)), (4, .int (nI off)), (5, .int (nI lk)), (6, .int (nI o9))]) hx hb dX3_linked_82 hl (by decide) rfl (fun ls hl => ?_)
                    refine lv_iload hx hb dX3_linked_84 (lv_at hl 0 rfl) ?_
                    refine lv_iconst (v := (nI 1)) hx hb dX3_linked_86 (by decide) ?_
                    refine lv_icmp_ne (tgt := 94) hx hb dX3_linked_87 (by decide) (fun c_87 => ?_) (fun c_87 => ?_)
                    · have c_87 : ¬ 2 = 1 := fun q => c_87 ((nI_eq (a := 2) (b := 1) (by omega) (by omega)).mpr q)
                      refine lv_iload hx hb dX3_linked_94 (lv_at hl 0 rfl) ?_
                      refine lv_iconst (v := (nI 2)) hx hb dX3_linked_96 (by decide) ?_
                      refine lv_icmp_ne (tgt := 102) hx hb dX3_linked_97 (by decide) (fun c_97 => ?_) (fun c_97 => ?_)
                      · exact absurd c_97 (by decide)
                      · have c_97 : 2 = 2 := (nI_eq (a := 2) (b := 2) (by omega) (by omega)).mp c_97
                        refine lv_iconst (v := (nI 0)) hx hb dX3_linked_100 (by decide) ?_
                        have e_kl : k9 = lkKl kl (nI k9) (nI x) (nI off) (nI lk) (nI o9) := by unfold lkKl; rw [if_neg hnb, show cl (nI k9) = k9 from nI_clamp (by omega)]
                        have e_kb : tkW sz mem p1 k9 o9 kb = lkW sz mem kb p1 (nI k9) (nI x) (nI off) (nI lk) (nI o9) := by unfold lkW; rw [if_neg hnb, show cl (nI k9) = k9 from nI_clamp (by omega), show cl (nI o9) = o9 from nI_clamp (by omega)]
                        have hP : va_P (dC, dI) vwCl (gw h kq sp k o b kp ga gl ++ kw cB k (lkKl kl (nI k9) (nI x) (nI off) (nI lk) (nI o9)) (lkW sz mem kb p1 (nI k9) (nI x) (nI off) (nI lk) (nI o9)) ++ ow cB o oz cs cd ++ sw cB cI b sz st us mem pl ln) H := by rw [← e_kl, ← e_kb]; exact hP
                        have hD : va_D A (gw h kq sp k o b kp ga gl ++ kw cB k (lkKl kl (nI k9) (nI x) (nI off) (nI lk) (nI o9)) (lkW sz mem kb p1 (nI k9) (nI x) (nI off) (nI lk) (nI o9)) ++ ow cB o oz cs cd ++ sw cB cI b sz st us mem pl ln) := by rw [← e_kl, ← e_kb]; exact hD
                        exact W.iret (v := (nI 0)) hx hb hr (fun t ht hW => ⟨⟨(nI 0), (), rfl, (show (nI 0) = lkR sz mem p1 (nI k9) (nI x) (nI off) (nI lk) (nI o9) from by rw [hR, hv, lkF_s (by omega) c_67, if_neg (by omega), if_neg hq2_79, if_pos ⟨hq3_79.1, allZb_t hq3_79.2⟩]), by rw [ht]; exact hP, va_K.moved hW.alike hK, hD⟩, hS.F ht⟩) hS.2.2 dX3_linked_101
                    · exact absurd c_87 (by decide)
                  · rw [hcm] at hq2_79
                    refine lv_istore (lv' := [(10, .int (nI 3)), (9, .int (nI i)), (7, .long (lN z)), (0, .ref h), (1, .int p1), (2, .int (nI k9)), (3, .int (nI x)), (4, .int (nI off)), (5, .int (nI lk)), (6, .int (nI o9))]) hx hb dX3_linked_82 hl (by decide) rfl (fun ls hl => ?_)
                    refine lv_iload hx hb dX3_linked_84 (lv_at hl 0 rfl) ?_
                    refine lv_iconst (v := (nI 1)) hx hb dX3_linked_86 (by decide) ?_
                    refine lv_icmp_ne (tgt := 94) hx hb dX3_linked_87 (by decide) (fun c_87 => ?_) (fun c_87 => ?_)
                    · have c_87 : ¬ 3 = 1 := fun q => c_87 ((nI_eq (a := 3) (b := 1) (by omega) (by omega)).mpr q)
                      refine lv_iload hx hb dX3_linked_94 (lv_at hl 0 rfl) ?_
                      refine lv_iconst (v := (nI 2)) hx hb dX3_linked_96 (by decide) ?_
                      refine lv_icmp_ne (tgt := 102) hx hb dX3_linked_97 (by decide) (fun c_97 => ?_) (fun c_97 => ?_)
                      · have c_97 : ¬ 3 = 2 := fun q => c_97 ((nI_eq (a := 3) (b := 2) (by omega) (by omega)).mpr q)
                        refine lv_iload hx hb dX3_linked_102 (lv_at hl 0 rfl) ?_
                        refine lv_bipush (v := ((-12))) hx hb dX3_linked_104 (by decide) ?_
                        refine lv_icmp_eq (tgt := 126) hx hb dX3_linked_106 (by decide) (fun c_106 => ?_) (fun c_106 => ?_)
                        · exact absurd c_106 (by decide)
                        · refine lv_aload_n hx hb dX3_linked_109 rfl (lv_at hl 3 rfl) ?_
                          refine va_get (D := (dC, dI)) (ci := 3) (v := .ref (b 0)) (C := RX3) (T := TX3) (N := 8) hx hb hts in_X3 hown hK hP 0 rfl rfl 3 (by decide) lk_2 (fun _ h9 => h9) rfl dX3_linked_110 ?_
                          refine lv_lload hx hb dX3_linked_113 (lv_at hl 2 rfl) ?_
                          refine lv_iload hx hb dX3_linked_115 (lv_at hl 8 rfl) ?_
                          refine lv_i2l (v := lN lk) hx hb dX3_linked_117 (nI_l (by omega)) ?_
                          refine lv_ladd hx hb dX3_linked_118 ?_
                          refine tpl (lN_add _ _) ?_
                          refine lv_iconst (v := (nI 4)) hx hb dX3_linked_119 (by decide) ?_
                          have hPc := hP.sub (ws' := sw cB cI b sz st us mem pl ln) [5, 6, 7, 8] rfl
                          have hKc := hK.sub (tys' := [(cI, .int), (cB, .byte)]) [0, 1] rfl
                          refine vp_callSi (W.runV (As := [.long (lN (z + lk)), .int (nI 4)]) (rest := []) ⟨hx, hb, hml, hown, hts⟩ (c_X2_has l dC dI cB cI b sz st us mem pl ln (z + lk) 4 (by omega) (by omega) (by omega)) (cwV 2 hts gX3_linked_X2_has rfl rfl rfl (by decide +kernel) ⟨Nat.le_of_ble_eq_true rfl, Nat.le_of_ble_eq_true rfl⟩) ⟨fun a9 U g9 mk9 q9 => by obtain ⟨q0, qP, qK⟩ := q9; exact ⟨q0, qP, va_K.moved (u := U) (U := U.calling g9 mk9 a9) (Vm.Alike.refl U.vm) qK⟩, va_recv hKc hPc (ci := 2) (q0 := 0) rfl rfl, fun U hU hW => ⟨rfl, by rw [hU]; exact hPc, va_K.moved hW.alike hKc⟩⟩ rfl rfl hl.1 rfl (lv_room (Nat.le_of_ble_eq_true rfl)) dX3_linked_120 ⟨Nat.zero_le _, Nat.zero_le _⟩) (fun r_120 hw => ?_)
                          try dsimp only at hw
                          rcases hw with ⟨hc_120, rfl⟩ | ⟨hc_120, rfl⟩
                          · skip
                            refine lv_if_ne (tgt := 129) hx hb dX3_linked_123 (by decide) (fun c_123 => ?_) (fun c_123 => ?_)
                            · have c_123 : ¬ 1 = 0 := fun q => c_123 ((nZ_eq (by omega)).mpr q)
                              refine lv_aload_n hx hb dX3_linked_129 rfl (lv_at hl 3 rfl) ?_
                              refine va_get (D := (dC, dI)) (ci := 3) (v := .ref (b 0)) (C := RX3) (T := TX3) (N := 8) hx hb hts in_X3 hown hK hP 0 rfl rfl 3 (by decide) lk_2 (fun _ h9 => h9) rfl dX3_linked_130 ?_
                              refine lv_lload hx hb dX3_linked_133 (lv_at hl 2 rfl) ?_
                              refine lv_iload hx hb dX3_linked_135 (lv_at hl 8 rfl) ?_
                              refine lv_i2l (v := lN lk) hx hb dX3_linked_137 (nI_l (by omega)) ?_
                              refine lv_ladd hx hb dX3_linked_138 ?_
                              refine tpl (lN_add _ _) ?_
                              refine lv_l2i (v := nI (z + lk)) hx hb dX3_linked_139 (lN_i _) ?_
                              refine lv_iconst (v := (nI 4)) hx hb dX3_linked_140 (by decide) ?_
                              have hPc := hP.sub (ws' := sw cB cI b sz st us mem pl ln) [5, 6, 7, 8] rfl
                              have hKc := hK.sub (tys' := [(cI, .int), (cB, .byte)]) [0, 1] rfl
                              refine vp_callSl (W.runV (As := [.int (nI (z + lk)), .int (nI 4)]) (rest := []) ⟨hx, hb, hml, hown, hts⟩ (c_X2_number l dC dI cB cI b sz st us mem pl ln (z + lk) 4 (by omega) (by omega) bmem) (cwV 2 hts gX3_linked_X2_number rfl rfl rfl (by decide +kernel) ⟨Nat.le_of_ble_eq_true rfl, Nat.le_of_ble_eq_true rfl⟩) ⟨fun a9 U g9 mk9 q9 => by obtain ⟨q0, qP, qK⟩ := q9; exact ⟨q0, qP, va_K.moved (u := U) (U := U.calling g9 mk9 a9) (Vm.Alike.refl U.vm) qK⟩, va_recv hKc hPc (ci := 2) (q0 := 0) rfl rfl, fun U hU hW => ⟨rfl, by rw [hU]; exact hPc, va_K.moved hW.alike hKc⟩⟩ rfl rfl hl.1 rfl (lv_room (Nat.le_of_ble_eq_true rfl)) dX3_linked_141 ⟨Nat.zero_le _, Nat.zero_le _⟩) (fun r_141 hw => ?_)
                              try dsimp only at hw
                              subst hw
                              refine lv_lstore (lv' := [(7, .long (lN (num mem (z + lk) 4))), (10, .int (nI 3)), (9, .int (nI i)), (0, .ref h), (1, .int p1), (2, .int (nI k9)), (3, .int (nI x)), (4, .int (nI off)), (5, .int (nI lk)), (6, .int (nI o9))]) hx hb dX3_linked_144 hl (by decide) rfl (fun ls hl => ?_)
                              refine lv_iinc (v := (nI (i + 1))) (lv' := [(9, .int (nI (i + 1))), (7, .long (lN (num mem (z + lk) 4))), (10, .int (nI 3)), (0, .ref h), (1, .int p1), (2, .int (nI k9)), (3, .int (nI x)), (4, .int (nI off)), (5, .int (nI lk)), (6, .int (nI o9))]) hx hb dX3_linked_146 hl (k := 2) rfl (nI_inc _) (by decide) rfl (fun ls hl => ?_)
                              refine lv_goto (tgt := 55) hx hb dX3_linked_149 (by decide) ?_
                              exact ih_55 (num mem (z + lk) 4, i + 1) (⟨by omega, by have := num_lt4 (f := mem) (x := z + lk) (k := 4) bmem (by omega); omega, by rw [hv, lkF_s (by omega) c_67, if_neg (by omega), if_neg hq2_79, if_neg (fun q => hq3_79 ⟨q.1, Classical.not_not.mp (fun z9 => by rw [allZb_f z9] at q; exact absurd q.2 (by decide))⟩), if_neg (by omega)]⟩) (show 3001 - (i + 1) < 3001 - i by omega) ls (lv_sub hl [0, 1, 3, 4, 5, 6, 7, 8, 9] rfl)
                            · exact absurd c_123 (by decide)
                          · skip
                            refine lv_if_ne (tgt := 129) hx hb dX3_linked_123 (by decide) (fun c_123 => ?_) (fun c_123 => ?_)
                            · exact absurd c_123 (by decide)
                            · have c_123 : 0 = 0 := (nZ_eq (by omega)).mp c_123
                              refine lv_bipush (v := ((-12))) hx hb dX3_linked_126 (by decide) ?_
                              have e_kl : k9 = lkKl kl (nI k9) (nI x) (nI off) (nI lk) (nI o9) := by unfold lkKl; rw [if_neg hnb, show cl (nI k9) = k9 from nI_clamp (by omega)]
                              have e_kb : tkW sz mem p1 k9 o9 kb = lkW sz mem kb p1 (nI k9) (nI x) (nI off) (nI lk) (nI o9) := by unfold lkW; rw [if_neg hnb, show cl (nI k9) = k9 from nI_clamp (by omega), show cl (nI o9) = o9 from nI_clamp (by omega)]
                              have hP : va_P (dC, dI) vwCl (gw h kq sp k o b kp ga gl ++ kw cB k (lkKl kl (nI k9) (nI x) (nI off) (nI lk) (nI o9)) (lkW sz mem kb p1 (nI k9) (nI x) (nI off) (nI lk) (nI o9)) ++ ow cB o oz cs cd ++ sw cB cI b sz st us mem pl ln) H := by rw [← e_kl, ← e_kb]; exact hP
                              have hD : va_D A (gw h kq sp k o b kp ga gl ++ kw cB k (lkKl kl (nI k9) (nI x) (nI off) (nI lk) (nI o9)) (lkW sz mem kb p1 (nI k9) (nI x) (nI off) (nI lk) (nI o9)) ++ ow cB o oz cs cd ++ sw cB cI b sz st us mem pl ln) := by rw [← e_kl, ← e_kb]; exact hD
                              exact W.iret (v := ((-12))) hx hb hr (fun t ht hW => ⟨⟨((-12)), (), rfl, (show ((-12)) = lkR sz mem p1 (nI k9) (nI x) (nI off) (nI lk) (nI o9) from by rw [hR, hv, lkF_s (by omega) c_67, if_neg (by omega), if_neg hq2_79, if_neg (fun q => hq3_79 ⟨q.1, Classical.not_not.mp (fun z9 => by rw [allZb_f z9] at q; exact absurd q.2 (by decide))⟩), if_pos (by omega)]), by rw [ht]; exact hP, va_K.moved hW.alike hK, hD⟩, hS.F ht⟩) hS.2.2 dX3_linked_128
                      · exact absurd c_97 (by decide)
                    · exact absurd c_87 (by decide)
            · exact absurd c_42 (by decide)
          · skip
            refine lv_if_ne (tgt := 48) hx hb dX3_linked_42 (by decide) (fun c_42 => ?_) (fun c_42 => ?_)
            · exact absurd c_42 (by decide)
            · have c_42 : 0 = 0 := (nZ_eq (by omega)).mp c_42
              refine lv_bipush (v := ((-12))) hx hb dX3_linked_45 (by decide) ?_
              have e_kl : k9 = lkKl kl (nI k9) (nI x) (nI off) (nI lk) (nI o9) := by unfold lkKl; rw [if_neg hnb, show cl (nI k9) = k9 from nI_clamp (by omega)]
              have e_kb : tkW sz mem p1 k9 o9 kb = lkW sz mem kb p1 (nI k9) (nI x) (nI off) (nI lk) (nI o9) := by unfold lkW; rw [if_neg hnb, show cl (nI k9) = k9 from nI_clamp (by omega), show cl (nI o9) = o9 from nI_clamp (by omega)]
              have hP : va_P (dC, dI) vwCl (gw h kq sp k o b kp ga gl ++ kw cB k (lkKl kl (nI k9) (nI x) (nI off) (nI lk) (nI o9)) (lkW sz mem kb p1 (nI k9) (nI x) (nI off) (nI lk) (nI o9)) ++ ow cB o oz cs cd ++ sw cB cI b sz st us mem pl ln) H := by rw [← e_kl, ← e_kb]; exact hP
              have hD : va_D A (gw h kq sp k o b kp ga gl ++ kw cB k (lkKl kl (nI k9) (nI x) (nI off) (nI lk) (nI o9)) (lkW sz mem kb p1 (nI k9) (nI x) (nI off) (nI lk) (nI o9)) ++ ow cB o oz cs cd ++ sw cB cI b sz st us mem pl ln) := by rw [← e_kl, ← e_kb]; exact hD
              exact W.iret (v := ((-12))) hx hb hr (fun t ht hW => ⟨⟨((-12)), (), rfl, (show ((-12)) = lkR sz mem p1 (nI k9) (nI x) (nI off) (nI lk) (nI o9) from by unfold lkR; rw [if_neg hnb, show cl (nI k9) = k9 from nI_clamp (by omega), show cl (nI o9) = o9 from nI_clamp (by omega), if_pos htk]), by rw [ht]; exact hP, va_K.moved hW.alike hK, hD⟩, hS.F ht⟩) hS.2.2 dX3_linked_47
        · have c_21 : ¬ o9 / 4 * 4 = 0 := fun q => c_21 ((nZ_eq (by omega)).mpr q)
          refine lv_bipush (v := ((-11))) hx hb dX3_linked_24 (by decide) ?_
          have e_kl : kl = lkKl kl (nI k9) (nI x) (nI off) (nI lk) (nI o9) := by unfold lkKl; rw [if_pos (by first | exact Or.inr (Or.inr (Or.inl c_2)) | exact badK_sr hc_11 | exact Or.inr (Or.inr (Or.inr (Or.inr (Or.inl ((nI_ltI (by omega) (by omega)).mpr (by omega)))))))]
          have e_kb : kb = lkW sz mem kb p1 (nI k9) (nI x) (nI off) (nI lk) (nI o9) := by unfold lkW; rw [if_pos (by first | exact Or.inr (Or.inr (Or.inl c_2)) | exact badK_sr hc_11 | exact Or.inr (Or.inr (Or.inr (Or.inr (Or.inl ((nI_ltI (by omega) (by omega)).mpr (by omega)))))))]
          have hP : va_P (dC, dI) vwCl (gw h kq sp k o b kp ga gl ++ kw cB k (lkKl kl (nI k9) (nI x) (nI off) (nI lk) (nI o9)) (lkW sz mem kb p1 (nI k9) (nI x) (nI off) (nI lk) (nI o9)) ++ ow cB o oz cs cd ++ sw cB cI b sz st us mem pl ln) s.heap := by rw [← e_kl, ← e_kb]; exact hP
          have hD : va_D A (gw h kq sp k o b kp ga gl ++ kw cB k (lkKl kl (nI k9) (nI x) (nI off) (nI lk) (nI o9)) (lkW sz mem kb p1 (nI k9) (nI x) (nI off) (nI lk) (nI o9)) ++ ow cB o oz cs cd ++ sw cB cI b sz st us mem pl ln) := by rw [← e_kl, ← e_kb]; exact hD
          exact W.iret (v := ((-11))) hx hb hr (fun t ht hW => ⟨⟨((-11)), (), rfl, (show ((-11)) = lkR sz mem p1 (nI k9) (nI x) (nI off) (nI lk) (nI o9) from by unfold lkR; rw [if_pos (by first | exact Or.inr (Or.inr (Or.inl c_2)) | exact badK_sr hc_11 | exact Or.inr (Or.inr (Or.inr (Or.inr (Or.inl ((nI_ltI (by omega) (by omega)).mpr (by omega)))))))]), by rw [ht]; exact hP, va_K.moved hW.alike hK, hD⟩, hS.F ht⟩) hS.2.2 dX3_linked_26
    · refine lv_if_eq (tgt := 24) hx hb dX3_linked_14 (by decide) (fun c_14 => ?_) (fun c_14 => ?_)
      · have c_14 : 0 = 0 := (nZ_eq (by omega)).mp c_14
        refine lv_bipush (v := ((-11))) hx hb dX3_linked_24 (by decide) ?_
        have e_kl : kl = lkKl kl p2 p3 p4 (nI lk) p6 := by unfold lkKl; rw [if_pos (by first | exact Or.inr (Or.inr (Or.inl c_2)) | exact badK_sr hc_11 | exact Or.inr (Or.inr (Or.inr (Or.inr (Or.inl ((nI_ltI (by omega) (by omega)).mpr (by omega)))))))]
        have e_kb : kb = lkW sz mem kb p1 p2 p3 p4 (nI lk) p6 := by unfold lkW; rw [if_pos (by first | exact Or.inr (Or.inr (Or.inl c_2)) | exact badK_sr hc_11 | exact Or.inr (Or.inr (Or.inr (Or.inr (Or.inl ((nI_ltI (by omega) (by omega)).mpr (by omega)))))))]
        have hP : va_P (dC, dI) vwCl (gw h kq sp k o b kp ga gl ++ kw cB k (lkKl kl p2 p3 p4 (nI lk) p6) (lkW sz mem kb p1 p2 p3 p4 (nI lk) p6) ++ ow cB o oz cs cd ++ sw cB cI b sz st us mem pl ln) s.heap := by rw [← e_kl, ← e_kb]; exact hP
        have hD : va_D A (gw h kq sp k o b kp ga gl ++ kw cB k (lkKl kl p2 p3 p4 (nI lk) p6) (lkW sz mem kb p1 p2 p3 p4 (nI lk) p6) ++ ow cB o oz cs cd ++ sw cB cI b sz st us mem pl ln) := by rw [← e_kl, ← e_kb]; exact hD
        exact W.iret (v := ((-11))) hx hb hr (fun t ht hW => ⟨⟨((-11)), (), rfl, (show ((-11)) = lkR sz mem p1 p2 p3 p4 (nI lk) p6 from by unfold lkR; rw [if_pos (by first | exact Or.inr (Or.inr (Or.inl c_2)) | exact badK_sr hc_11 | exact Or.inr (Or.inr (Or.inr (Or.inr (Or.inl ((nI_ltI (by omega) (by omega)).mpr (by omega)))))))]), by rw [ht]; exact hP, va_K.moved hW.alike hK, hD⟩, hS.F ht⟩) hS.2.2 dX3_linked_26
      · exact absurd c_14 (by decide)
