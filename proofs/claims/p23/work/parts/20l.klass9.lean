set_option maxHeartbeats 4000000 in
set_option maxRecDepth 100000 in
theorem c_X0_unfold (l : Launch) (dC : Nat → ClassId) (dI : Nat → Nat → Nat) (cB cI : ClassId) (o b : Nat → Nat) (oz : Nat) (cs : Nat) (cd : Nat → Nat) (sz : Nat) (st : Nat) (us : Nat) (mem : Nat → Nat) (pl : Nat → Nat) (ln : Nat → Nat) (zz : Nat)  (gz : cs ≤ oz) (g0 : oz ≤ 20000) (bcd : ∀ j, cd j < 256) (bmem : ∀ j, mem j < 256) (bpl : ∀ j, pl j < 2 ^ 31) (bln : ∀ j, ln j < 2 ^ 31) : Met l yX0_unfold wsX0_unfold ({ frames := 3, cells := 0, slots := 0, locals := 68 }) (va_Pc [.ref (o 0), .ref (b 0)] (fun U => U.heap.size = zz ∧ va_P (dC, dI) vwCl (ow cB o oz cs cd ++ sw cB cI b sz st us mem pl ln) U.heap ∧ va_K (dC, dI) vwCl [(cI, .int), (cB, .byte)] U ∧ va_D (fun _ => True) (ow cB o oz cs cd ++ sw cB cI b sz st us mem pl ln) ∧ va_Nw (.methodLinkNest RX0 79 yX3_isSize "GlulxHeap") U)) (va_Qi (fun (r : Int32) (u : Nat × Nat × Nat × (Nat → Nat) × (Nat → Nat) × (Nat → Nat)) => match u with | ⟨sz9, st9, us9, mem9, pl9, ln9⟩ => (match rdKS cs cd (outW (zr mem 0 8192) fst 0 64) with | .inl w => (r = nI w ∧ w ≤ 41000) | .inr g => (r = (-1) ∧ sz9 = tw cd 0 ∧ st9 = tw cd 2 ∧ us9 = tw cd 4 ∧ mem9 = g ∧ ∀ j, j < us9 → pl9 j = tw cd (6 + 4 * j) ∧ ln9 j = tw cd (6 + 4 * j + 2))) ∧ ∀ j, mem9 j < 256 ∧ pl9 j < 2 ^ 31 ∧ ln9 j < 2 ^ 31) (fun (u : Nat × Nat × Nat × (Nat → Nat) × (Nat → Nat) × (Nat → Nat)) t => match u with | ⟨sz9, st9, us9, mem9, pl9, ln9⟩ => va_P (dC, dI) vwCl (ow cB o oz cs cd ++ sw cB cI b sz9 st9 us9 mem9 pl9 ln9) t.heap ∧ va_K (dC, dI) vwCl [(cI, .int), (cB, .byte)] t ∧ va_D (va_A (ow cB o oz cs cd ++ sw cB cI b sz st us mem pl ln) zz) (ow cB o oz cs cd ++ sw cB cI b sz9 st9 us9 mem9 pl9 ln9)) (va_A (ow cB o oz cs cd ++ sw cB cI b sz st us mem pl ln) zz)) 0 0 (va_A (ow cB o oz cs cd ++ sw cB cI b sz st us mem pl ln) zz) := by
  refine Met.ofW (cc := cX0_unfold) (maxL := 3) (ret := (some .int)) (by decide) rfl ?_
  intro p e s m args below meth c s₁ B hml hv
  obtain ⟨rfl, hsz, hP, hK, hD0, hN0⟩ := hv
  have hx := B.exec
  have hb := B.bytes
  have hr := B.returns
  have hts := atoms_spec (ws := wsX0_unfold) B.pre
  have hown : s.vm.findClass RX0 = some m.cls := findClass_of_methodNamed B.named
  have hlocks := B.notSynchronized
  subst hsz
  have hD := hD0.self (sz := s.heap.size)
  generalize hAe : va_A (ow cB o oz cs cd ++ sw cB cI b sz st us mem pl ln) s.heap.size = A at hD ⊢
  have hA : ∀ q : Nat, s.heap.size ≤ q → A q := fun q h => by rw [← hAe]; exact Or.inr h
  have hS : va_S A s.heap s.heap [] := va_S.rf
  have hP : va_P (dC, dI) vwCl (ow cB o oz cs cd ++ sw cB cI b sz st us mem pl ln) s.heap := hP
  have hl := lv_entry ([.ref (o 0), .ref (b 0)]) (n := 3) (Nat.le_of_ble_eq_true rfl)
  rw [lg_entry_eq]
  generalize (lg_sl ([.ref (o 0), .ref (b 0)]) ++ List.replicate (3 - (lg_sl ([.ref (o 0), .ref (b 0)])).length) Slot.unset).toArray = ls at hl ⊢
  have hl : lv_has ls 3 [(0, .ref (o 0)), (1, .ref (b 0))] := hl
  have bm0 : ∀ j, (outW (zr mem 0 8192) fst 0 64) j < 256 := fun j => outW_lt (fun j => zr_lt bmem j) fst_lt j
  refine lv_aload_n hx hb dX0_unfold_0 rfl (lv_at hl 1 rfl) ?_
  have hPc := hP.sub (ws' := sw cB cI b sz st us mem pl ln) [2, 3, 4, 5] rfl
  have hKc := hK.sub (tys' := [(cI, .int), (cB, .byte)]) [0, 1] rfl
  have hDc := hD.sub (ws' := sw cB cI b sz st us mem pl ln) [2, 3, 4, 5] (by decide) rfl
  have hFc := va_free (wc := sw cB cI b sz st us mem pl ln) hD hS hA [2, 3, 4, 5] rfl
  refine va_callv (va_runV (As := []) (rest := []) ⟨hx, hb, hml, hown, hts⟩ (c_X2_begin l dC dI cB cI b sz st us mem pl ln s.heap.size ) (cwV 0 hts gX0_unfold_X2_begin rfl rfl rfl (by decide +kernel) ⟨Nat.le_of_ble_eq_true rfl, Nat.le_of_ble_eq_true rfl⟩) ⟨fun a9 U g9 mk9 q9 => by obtain ⟨q0, q1, qP, qK, qD⟩ := q9; exact ⟨q0, q1, qP, va_K.moved (u := U) (U := U.calling g9 mk9 a9) (Vm.Alike.refl U.vm) qK, qD⟩, va_recv hKc hPc (ci := 2) (q0 := 0) rfl rfl, fun U hU hW => ⟨rfl, by rw [hU], by rw [hU]; exact hPc, va_K.moved hW.alike hKc, hDc.weaken (fun _ _ _ _ => trivial)⟩⟩ rfl rfl hl.1 rfl (lv_room (Nat.le_of_ble_eq_true rfl)) dX0_unfold_1 ⟨Nat.zero_le _, Nat.zero_le _⟩) hS (fun q _ h => hFc q h) hFc (fun u t H1 locs ht9 hvm9 hw hB hz9 hk9 hS => ?_)
  obtain ⟨hP1, hK1, hD1⟩ := hB
  rw [ht9] at hP1
  obtain ⟨hP, hD⟩ := va_join (wr := ow cB o oz cs cd) (w1 := sw cB cI b 1024 0 0 (outW (zr mem 0 8192) fst 0 64) pl ln) hP hD [2, 3, 4, 5] [0, 1] rfl rfl (by decide) (by decide) hk9 hFc hP1 hD1
  generalize H1 = H at hP hS ⊢
  have hP := hP.sub (ws' := ow cB o oz cs cd ++ sw cB cI b 1024 0 0 (outW (zr mem 0 8192) fst 0 64) pl ln) [0, 1, 2, 3, 4, 5] rfl
  have hD := hD.sub (ws' := ow cB o oz cs cd ++ sw cB cI b 1024 0 0 (outW (zr mem 0 8192) fst 0 64) pl ln) [0, 1, 2, 3, 4, 5] (by decide) rfl
  have hP : va_P (dC, dI) vwCl (ow cB o oz cs cd ++ sw cB cI b 1024 0 0 (outW (zr mem 0 8192) fst 0 64) pl ln) H := hP
  have hD : va_D A (ow cB o oz cs cd ++ sw cB cI b 1024 0 0 (outW (zr mem 0 8192) fst 0 64) pl ln) := hD
  refine lv_aload_n hx hb dX0_unfold_4 rfl (lv_at hl 0 rfl) ?_
  refine lv_aload_n hx hb dX0_unfold_5 rfl (lv_at hl 1 rfl) ?_
  have hPc := hP.sub (ws' := ow cB o oz cs cd ++ sw cB cI b 1024 0 0 (outW (zr mem 0 8192) fst 0 64) pl ln) [0, 1, 2, 3, 4, 5] rfl
  have hKc := hK.sub (tys' := [(cI, .int), (cB, .byte)]) [0, 1] rfl
  have hDc := hD.sub (ws' := ow cB o oz cs cd ++ sw cB cI b 1024 0 0 (outW (zr mem 0 8192) fst 0 64) pl ln) [0, 1, 2, 3, 4, 5] (by decide) rfl
  have hFc := va_free (wc := ow cB o oz cs cd ++ sw cB cI b 1024 0 0 (outW (zr mem 0 8192) fst 0 64) pl ln) hD hS hA [0, 1, 2, 3, 4, 5] rfl
  refine va_calli (va_runV (As := [.ref (b 0)]) (rest := []) ⟨hx, hb, hml, hown, hts⟩ (c_X0_unfoldHead l dC dI cB cI o b oz cs cd 1024 0 0 (outW (zr mem 0 8192) fst 0 64) pl ln H.size (by omega) (by omega) bcd) (cwV 1 hts gX0_unfold_X0_unfoldHead rfl rfl rfl (by decide +kernel) ⟨Nat.le_of_ble_eq_true rfl, Nat.le_of_ble_eq_true rfl⟩) ⟨fun a9 U g9 mk9 q9 => by obtain ⟨q0, q1, qP, qK, qD, qN0⟩ := q9; exact ⟨q0, q1, qP, va_K.moved (u := U) (U := U.calling g9 mk9 a9) (Vm.Alike.refl U.vm) qK, qD, va_Nw.same rfl rfl qN0⟩, va_recv hKc hPc (ci := 0) (q0 := 0) rfl rfl, fun U hU hW => ⟨rfl, by rw [hU], by rw [hU]; exact hPc, va_K.moved hW.alike hKc, hDc.weaken (fun _ _ _ _ => trivial), va_Nw.warmM hW hN0⟩⟩ rfl rfl hl.1 rfl (lv_room (Nat.le_of_ble_eq_true rfl)) dX0_unfold_6 ⟨Nat.zero_le _, Nat.zero_le _⟩) hS (fun q _ h => hFc q h) hFc (fun r_6 u t H1 locs ht9 hvm9 hw hB hz9 hk9 hS => ?_)
  obtain ⟨sz2, st2, us2⟩ := u
  try dsimp only at hw
  obtain ⟨hP1, hK1, hD1⟩ := hB
  rw [ht9] at hP1
  obtain ⟨hP, hD⟩ := va_join (wr := []) (w1 := ow cB o oz cs cd ++ sw cB cI b sz2 st2 us2 (outW (zr mem 0 8192) fst 0 64) pl ln) hP hD [0, 1, 2, 3, 4, 5] [] rfl rfl (by decide) (by decide) hk9 hFc hP1 hD1
  generalize H1 = H at hP hS ⊢
  have hP := hP.sub (ws' := ow cB o oz cs cd ++ sw cB cI b sz2 st2 us2 (outW (zr mem 0 8192) fst 0 64) pl ln) [0, 1, 2, 3, 4, 5] rfl
  have hD := hD.sub (ws' := ow cB o oz cs cd ++ sw cB cI b sz2 st2 us2 (outW (zr mem 0 8192) fst 0 64) pl ln) [0, 1, 2, 3, 4, 5] (by decide) rfl
  have hP : va_P (dC, dI) vwCl (ow cB o oz cs cd ++ sw cB cI b sz2 st2 us2 (outW (zr mem 0 8192) fst 0 64) pl ln) H := hP
  have hD : va_D A (ow cB o oz cs cd ++ sw cB cI b sz2 st2 us2 (outW (zr mem 0 8192) fst 0 64) pl ln) := hD
  obtain ⟨hw1, hw2⟩ := hw
  rcases hh : hdH cs cd with _ | w
  · rw [hh] at hw1
    subst hw1
    obtain ⟨rfl, rfl, rfl⟩ := hw2 hh
    obtain ⟨ho1, ho2, ho3⟩ := hdH_ok hh
    have ht2 := tw_lt bcd 2
    refine lv_istore_n (lv' := [(2, .int ((-1))), (0, .ref (o 0)), (1, .ref (b 0))]) hx hb dX0_unfold_9 rfl hl (by decide) rfl (fun ls hl => ?_)
    refine lv_iload_n hx hb dX0_unfold_10 rfl (lv_at hl 0 rfl) ?_
    refine lv_iconst (v := ((-1))) hx hb dX0_unfold_11 (by decide) ?_
    refine lv_icmp_ne (tgt := 21) hx hb dX0_unfold_12 (by decide) (fun c_12 => ?_) (fun c_12 => ?_)
    · exact absurd c_12 (by decide)
    · refine lv_aload_n hx hb dX0_unfold_15 rfl (lv_at hl 1 rfl) ?_
      refine lv_aload_n hx hb dX0_unfold_16 rfl (lv_at hl 2 rfl) ?_
      have hPc := hP.sub (ws' := ow cB o oz cs cd ++ sw cB cI b (tw cd 0) (tw cd 2) (tw cd 4) (outW (zr mem 0 8192) fst 0 64) pl ln) [0, 1, 2, 3, 4, 5] rfl
      have hKc := hK.sub (tys' := [(cI, .int), (cB, .byte)]) [0, 1] rfl
      have hDc := hD.sub (ws' := ow cB o oz cs cd ++ sw cB cI b (tw cd 0) (tw cd 2) (tw cd 4) (outW (zr mem 0 8192) fst 0 64) pl ln) [0, 1, 2, 3, 4, 5] (by decide) rfl
      have hFc := va_free (wc := ow cB o oz cs cd ++ sw cB cI b (tw cd 0) (tw cd 2) (tw cd 4) (outW (zr mem 0 8192) fst 0 64) pl ln) hD hS hA [0, 1, 2, 3, 4, 5] rfl
      refine va_calli (va_runV (As := [.ref (b 0)]) (rest := []) ⟨hx, hb, hml, hown, hts⟩ (c_X0_unfoldBlocks l dC dI cB cI o b oz cs cd (tw cd 0) (tw cd 2) (tw cd 4) (outW (zr mem 0 8192) fst 0 64) pl ln H.size (by omega) (by omega) bcd (by omega) (by omega) (by omega) bpl bln) (cwV 1 hts gX0_unfold_X0_unfoldBlocks rfl rfl rfl (by decide +kernel) ⟨Nat.le_of_ble_eq_true rfl, Nat.le_of_ble_eq_true rfl⟩) ⟨fun a9 U g9 mk9 q9 => by obtain ⟨q0, q1, qP, qK, qD⟩ := q9; exact ⟨q0, q1, qP, va_K.moved (u := U) (U := U.calling g9 mk9 a9) (Vm.Alike.refl U.vm) qK, qD⟩, va_recv hKc hPc (ci := 0) (q0 := 0) rfl rfl, fun U hU hW => ⟨rfl, by rw [hU], by rw [hU]; exact hPc, va_K.moved hW.alike hKc, hDc.weaken (fun _ _ _ _ => trivial)⟩⟩ rfl rfl hl.1 rfl (lv_room (Nat.le_of_ble_eq_true rfl)) dX0_unfold_17 ⟨Nat.zero_le _, Nat.zero_le _⟩) hS (fun q _ h => hFc q h) hFc (fun r_17 u t H1 locs ht9 hvm9 hw hB hz9 hk9 hS => ?_)
      obtain ⟨pl2, ln2⟩ := u
      try dsimp only at hw
      obtain ⟨hP1, hK1, hD1⟩ := hB
      rw [ht9] at hP1
      obtain ⟨hP, hD⟩ := va_join (wr := []) (w1 := ow cB o oz cs cd ++ sw cB cI b (tw cd 0) (tw cd 2) (tw cd 4) (outW (zr mem 0 8192) fst 0 64) pl2 ln2) hP hD [0, 1, 2, 3, 4, 5] [] rfl rfl (by decide) (by decide) hk9 hFc hP1 hD1
      generalize H1 = H at hP hS ⊢
      have hP := hP.sub (ws' := ow cB o oz cs cd ++ sw cB cI b (tw cd 0) (tw cd 2) (tw cd 4) (outW (zr mem 0 8192) fst 0 64) pl2 ln2) [0, 1, 2, 3, 4, 5] rfl
      have hD := hD.sub (ws' := ow cB o oz cs cd ++ sw cB cI b (tw cd 0) (tw cd 2) (tw cd 4) (outW (zr mem 0 8192) fst 0 64) pl2 ln2) [0, 1, 2, 3, 4, 5] (by decide) rfl
      have hP : va_P (dC, dI) vwCl (ow cB o oz cs cd ++ sw cB cI b (tw cd 0) (tw cd 2) (tw cd 4) (outW (zr mem 0 8192) fst 0 64) pl2 ln2) H := hP
      have hD : va_D A (ow cB o oz cs cd ++ sw cB cI b (tw cd 0) (tw cd 2) (tw cd 4) (outW (zr mem 0 8192) fst 0 64) pl2 ln2) := hD
      obtain ⟨hw3, hb3, hw4⟩ := hw
      rcases hb9 : hdB cs cd (tw cd 0) (tw cd 4) 0 (tw cd 2) with _ | w
      · rw [hb9] at hw3
        subst hw3
        have hw4 := hw4 hb9
        refine lv_istore_n (lv' := [(2, .int ((-1))), (0, .ref (o 0)), (1, .ref (b 0))]) hx hb dX0_unfold_20 rfl hl (by decide) rfl (fun ls hl => ?_)
        refine lv_iload_n hx hb dX0_unfold_21 rfl (lv_at hl 0 rfl) ?_
        refine lv_iconst (v := ((-1))) hx hb dX0_unfold_22 (by decide) ?_
        refine lv_icmp_ne (tgt := 32) hx hb dX0_unfold_23 (by decide) (fun c_23 => ?_) (fun c_23 => ?_)
        · exact absurd c_23 (by decide)
        · refine lv_aload_n hx hb dX0_unfold_26 rfl (lv_at hl 1 rfl) ?_
          refine lv_aload_n hx hb dX0_unfold_27 rfl (lv_at hl 2 rfl) ?_
          have hPc := hP.sub (ws' := ow cB o oz cs cd ++ sw cB cI b (tw cd 0) (tw cd 2) (tw cd 4) (outW (zr mem 0 8192) fst 0 64) pl2 ln2) [0, 1, 2, 3, 4, 5] rfl
          have hKc := hK.sub (tys' := [(cI, .int), (cB, .byte)]) [0, 1] rfl
          have hDc := hD.sub (ws' := ow cB o oz cs cd ++ sw cB cI b (tw cd 0) (tw cd 2) (tw cd 4) (outW (zr mem 0 8192) fst 0 64) pl2 ln2) [0, 1, 2, 3, 4, 5] (by decide) rfl
          have hFc := va_free (wc := ow cB o oz cs cd ++ sw cB cI b (tw cd 0) (tw cd 2) (tw cd 4) (outW (zr mem 0 8192) fst 0 64) pl2 ln2) hD hS hA [0, 1, 2, 3, 4, 5] rfl
          refine va_calli (va_runV (As := [.ref (b 0)]) (rest := []) ⟨hx, hb, hml, hown, hts⟩ (c_X0_unfoldBytes l dC dI cB cI o b oz cs cd (tw cd 0) (tw cd 2) (tw cd 4) (outW (zr mem 0 8192) fst 0 64) pl2 ln2 H.size (by omega) (by omega) bcd (by omega) (by omega) bm0) (cwV 1 hts gX0_unfold_X0_unfoldBytes rfl rfl rfl (by decide +kernel) ⟨Nat.le_of_ble_eq_true rfl, Nat.le_of_ble_eq_true rfl⟩) ⟨fun a9 U g9 mk9 q9 => by obtain ⟨q0, q1, qP, qK, qD⟩ := q9; exact ⟨q0, q1, qP, va_K.moved (u := U) (U := U.calling g9 mk9 a9) (Vm.Alike.refl U.vm) qK, qD⟩, va_recv hKc hPc (ci := 0) (q0 := 0) rfl rfl, fun U hU hW => ⟨rfl, by rw [hU], by rw [hU]; exact hPc, va_K.moved hW.alike hKc, hDc.weaken (fun _ _ _ _ => trivial)⟩⟩ rfl rfl hl.1 rfl (lv_room (Nat.le_of_ble_eq_true rfl)) dX0_unfold_28 ⟨Nat.zero_le _, Nat.zero_le _⟩) hS (fun q _ h => hFc q h) hFc (fun r_28 u t H1 locs ht9 hvm9 hw hB hz9 hk9 hS => ?_)
          obtain ⟨mem2, rfl⟩ : ∃ z9, z9 = u := ⟨_, rfl⟩
          try dsimp only at hw
          obtain ⟨hP1, hK1, hD1⟩ := hB
          rw [ht9] at hP1
          obtain ⟨hP, hD⟩ := va_join (wr := []) (w1 := ow cB o oz cs cd ++ sw cB cI b (tw cd 0) (tw cd 2) (tw cd 4) mem2 pl2 ln2) hP hD [0, 1, 2, 3, 4, 5] [] rfl rfl (by decide) (by decide) hk9 hFc hP1 hD1
          generalize H1 = H at hP hS ⊢
          have hP := hP.sub (ws' := ow cB o oz cs cd ++ sw cB cI b (tw cd 0) (tw cd 2) (tw cd 4) mem2 pl2 ln2) [0, 1, 2, 3, 4, 5] rfl
          have hD := hD.sub (ws' := ow cB o oz cs cd ++ sw cB cI b (tw cd 0) (tw cd 2) (tw cd 4) mem2 pl2 ln2) [0, 1, 2, 3, 4, 5] (by decide) rfl
          have hP : va_P (dC, dI) vwCl (ow cB o oz cs cd ++ sw cB cI b (tw cd 0) (tw cd 2) (tw cd 4) mem2 pl2 ln2) H := hP
          have hD : va_D A (ow cB o oz cs cd ++ sw cB cI b (tw cd 0) (tw cd 2) (tw cd 4) mem2 pl2 ln2) := hD
          obtain ⟨hw5, hm2, hw6⟩ := hw
          rcases hr9 : rdK cs cd (tw cd 0) (6 + 4 * tw cd 4) 0 (outW (zr mem 0 8192) fst 0 64) with w | g
          · rw [hr9] at hw5
            subst hw5
            have hwl := rdK_lt cs _ _ _ w (by omega) hr9
            refine lv_istore_n (lv' := [(2, .int (nI w)), (0, .ref (o 0)), (1, .ref (b 0))]) hx hb dX0_unfold_31 rfl hl (by decide) rfl (fun ls hl => ?_)
            refine lv_iload_n hx hb dX0_unfold_32 rfl (lv_at hl 0 rfl) ?_
            exact W.iret (v := (nI w)) hx hb hr (fun t ht hW => ⟨⟨(nI w), (tw cd 0, tw cd 2, tw cd 4, mem2, pl2, ln2), rfl, ⟨by rw [rdKS_y hh hb9, hr9]; exact ⟨rfl, by omega⟩, fun j => ⟨hm2 j, (hb3 j).1, (hb3 j).2⟩⟩, by rw [ht]; exact hP, va_K.moved hW.alike hK, hD⟩, hS.F ht⟩) hS.2.2 dX0_unfold_33
          · rw [hr9] at hw5
            subst hw5
            obtain rfl := hw6 g hr9
            refine lv_istore_n (lv' := [(2, .int ((-1))), (0, .ref (o 0)), (1, .ref (b 0))]) hx hb dX0_unfold_31 rfl hl (by decide) rfl (fun ls hl => ?_)
            refine lv_iload_n hx hb dX0_unfold_32 rfl (lv_at hl 0 rfl) ?_
            exact W.iret (v := ((-1))) hx hb hr (fun t ht hW => ⟨⟨((-1)), (tw cd 0, tw cd 2, tw cd 4, mem2, pl2, ln2), rfl, ⟨by rw [rdKS_y hh hb9, hr9]; exact ⟨rfl, rfl, rfl, rfl, rfl, hw4⟩, fun j => ⟨hm2 j, (hb3 j).1, (hb3 j).2⟩⟩, by rw [ht]; exact hP, va_K.moved hW.alike hK, hD⟩, hS.F ht⟩) hS.2.2 dX0_unfold_33
      · rw [hb9] at hw3
        subst hw3
        have hwl := hdB_lt _ _ _ _ hb9
        refine lv_istore_n (lv' := [(2, .int (nI w)), (0, .ref (o 0)), (1, .ref (b 0))]) hx hb dX0_unfold_20 rfl hl (by decide) rfl (fun ls hl => ?_)
        refine lv_iload_n hx hb dX0_unfold_21 rfl (lv_at hl 0 rfl) ?_
        refine lv_iconst (v := ((-1))) hx hb dX0_unfold_22 (by decide) ?_
        refine lv_icmp_ne (tgt := 32) hx hb dX0_unfold_23 (by decide) (fun c_23 => ?_) (fun c_23 => ?_)
        · refine lv_iload_n hx hb dX0_unfold_32 rfl (lv_at hl 0 rfl) ?_
          exact W.iret (v := (nI w)) hx hb hr (fun t ht hW => ⟨⟨(nI w), (tw cd 0, tw cd 2, tw cd 4, outW (zr mem 0 8192) fst 0 64, pl2, ln2), rfl, ⟨by rw [rdKS_b hh hb9]; exact ⟨rfl, by omega⟩, fun j => ⟨bm0 j, (hb3 j).1, (hb3 j).2⟩⟩, by rw [ht]; exact hP, va_K.moved hW.alike hK, hD⟩, hS.F ht⟩) hS.2.2 dX0_unfold_33
        · skip
          exact absurd c_23 (nI_m1 (by omega))
  · rw [hh] at hw1
    subst hw1
    have hwl := hdH_lt hh
    refine lv_istore_n (lv' := [(2, .int (nI w)), (0, .ref (o 0)), (1, .ref (b 0))]) hx hb dX0_unfold_9 rfl hl (by decide) rfl (fun ls hl => ?_)
    refine lv_iload_n hx hb dX0_unfold_10 rfl (lv_at hl 0 rfl) ?_
    refine lv_iconst (v := ((-1))) hx hb dX0_unfold_11 (by decide) ?_
    refine lv_icmp_ne (tgt := 21) hx hb dX0_unfold_12 (by decide) (fun c_12 => ?_) (fun c_12 => ?_)
    · refine lv_iload_n hx hb dX0_unfold_21 rfl (lv_at hl 0 rfl) ?_
      refine lv_iconst (v := ((-1))) hx hb dX0_unfold_22 (by decide) ?_
      refine lv_icmp_ne (tgt := 32) hx hb dX0_unfold_23 (by decide) (fun c_23 => ?_) (fun c_23 => ?_)
      · refine lv_iload_n hx hb dX0_unfold_32 rfl (lv_at hl 0 rfl) ?_
        exact W.iret (v := (nI w)) hx hb hr (fun t ht hW => ⟨⟨(nI w), (sz2, st2, us2, outW (zr mem 0 8192) fst 0 64, pl, ln), rfl, ⟨by rw [rdKS_h hh]; exact ⟨rfl, by omega⟩, fun j => ⟨bm0 j, bpl j, bln j⟩⟩, by rw [ht]; exact hP, va_K.moved hW.alike hK, hD⟩, hS.F ht⟩) hS.2.2 dX0_unfold_33
      · skip
        exact absurd c_23 (nI_m1 (by omega))
    · skip
      exact absurd c_12 (nI_m1 (by omega))
