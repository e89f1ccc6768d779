set_option maxHeartbeats 4000000 in
set_option maxRecDepth 100000 in
theorem c_X0_tellBytes (l : Launch) (dC : Nat → ClassId) (dI : Nat → Nat → Nat) (cB cI : ClassId) (o b : Nat → Nat) (oz : Nat) (cs : Nat) (cd : Nat → Nat) (sz : Nat) (st : Nat) (us : Nat) (mem : Nat → Nat) (pl : Nat → Nat) (ln : Nat → Nat) (zz : Nat) (L0 : List Nat) (gp : Pre cs cd L0) (gc : cs ≤ 262) (g0 : oz = 12550) (g3 : sz ≤ 8192) (bmem : ∀ j, mem j < 256) (bcd : ∀ j, cd j < 256) : Met l yX0_tellBytes wsX0_tellBytes ({ frames := 3, cells := 0, slots := 0, locals := 65 }) (va_Pc [.ref (o 0), .ref (b 0)] (fun U => U.heap.size = zz ∧ va_P (dC, dI) vwCl (ow cB o oz cs cd ++ sw cB cI b sz st us mem pl ln) U.heap ∧ va_K (dC, dI) vwCl [(cI, .int), (cB, .byte)] U ∧ va_D (fun _ => True) (ow cB o oz cs cd ++ sw cB cI b sz st us mem pl ln))) (va_Qv (fun (u : Nat × (Nat → Nat)) => match u with | ⟨cs2, cd2⟩ => Pre cs2 cd2 (L0 ++ encF (dif mem) (endF (dif mem) sz) 0) ∧ cs2 ≤ oz ∧ ∀ j, cd2 j < 256) (fun (u : Nat × (Nat → Nat)) t => match u with | ⟨cs2, cd2⟩ => va_P (dC, dI) vwCl (ow cB o oz cs2 cd2 ++ sw cB cI b sz st us mem pl ln) t.heap ∧ va_K (dC, dI) vwCl [(cI, .int), (cB, .byte)] t ∧ va_D (va_A (ow cB o oz cs cd ++ sw cB cI b sz st us mem pl ln) zz) (ow cB o oz cs2 cd2 ++ sw cB cI b sz st us mem pl ln)) (va_A (ow cB o oz cs cd ++ sw cB cI b sz st us mem pl ln) zz)) 0 0 (va_A (ow cB o oz cs cd ++ sw cB cI b sz st us mem pl ln) zz) := by
  refine Met.ofW (cc := cX0_tellBytes) (maxL := 5) (ret := none) (by decide) rfl ?_
  intro p e s m args below meth c s₁ B hml hv
  obtain ⟨rfl, hsz, hP, hK, hD0⟩ := hv
  have hx := B.exec
  have hb := B.bytes
  have hr := B.returns
  have hts := atoms_spec (ws := wsX0_tellBytes) B.pre
  have hown : s.vm.findClass RX0 = some m.cls := findClass_of_methodNamed B.named
  have hlocks := B.notSynchronized
  subst hsz
  have hD := hD0.self (sz := s.heap.size)
  generalize hAe : va_A (ow cB o oz cs cd ++ sw cB cI b sz st us mem pl ln) s.heap.size = A at hD ⊢
  have hA : ∀ q : Nat, s.heap.size ≤ q → A q := fun q h => by rw [← hAe]; exact Or.inr h
  have hS : va_S A s.heap s.heap [] := va_S.rf
  have hP : va_P (dC, dI) vwCl (ow cB o oz cs cd ++ sw cB cI b sz st us mem pl ln) s.heap := hP
  have hl := lv_entry ([.ref (o 0), .ref (b 0)]) (n := 5) (Nat.le_of_ble_eq_true rfl)
  rw [lg_entry_eq]
  generalize (lg_sl ([.ref (o 0), .ref (b 0)]) ++ List.replicate (5 - (lg_sl ([.ref (o 0), .ref (b 0)])).length) Slot.unset).toArray = ls at hl ⊢
  have hl : lv_has ls 5 [(0, .ref (o 0)), (1, .ref (b 0))] := hl
  refine lv_aload_n hx hb dX0_tellBytes_0 rfl (lv_at hl 1 rfl) ?_
  have hPc := hP.sub (ws' := sw cB cI b sz st us mem pl ln) [2, 3, 4, 5] rfl
  have hKc := hK.sub (tys' := [(cI, .int), (cB, .byte)]) [0, 1] rfl
  refine vp_callSi (W.runV (As := []) (rest := []) ⟨hx, hb, hml, hown, hts⟩ (c_X2_changedEnd l dC dI cB cI b sz st us mem pl ln (by omega) bmem) (cwV 0 hts gX0_tellBytes_X2_changedEnd rfl rfl rfl (by decide +kernel) ⟨Nat.le_of_ble_eq_true rfl, Nat.le_of_ble_eq_true rfl⟩) ⟨fun a9 U g9 mk9 q9 => by obtain ⟨q0, qP, qK⟩ := q9; exact ⟨q0, qP, va_K.moved (u := U) (U := U.calling g9 mk9 a9) (Vm.Alike.refl U.vm) qK⟩, va_recv hKc hPc (ci := 2) (q0 := 0) rfl rfl, fun U hU hW => ⟨rfl, by rw [hU]; exact hPc, va_K.moved hW.alike hKc⟩⟩ rfl rfl hl.1 rfl (lv_room (Nat.le_of_ble_eq_true rfl)) dX0_tellBytes_1 ⟨Nat.zero_le _, Nat.zero_le _⟩) (fun r_1 hw => ?_)
  try dsimp only at hw
  subst hw
  refine lv_istore_n (lv' := [(2, .int (nI (endF (dif mem) sz))), (0, .ref (o 0)), (1, .ref (b 0))]) hx hb dX0_tellBytes_4 rfl hl (by decide) rfl (fun ls hl => ?_)
  obtain ⟨en, hen⟩ : ∃ q : Nat, q = endF (dif mem) sz := ⟨_, rfl⟩
  rw [← hen] at hl
  have hens : en ≤ sz := by rw [hen]; exact endF_le _ _
  have hene : 0 < en → ¬ dif mem (en - 1) = 0 := by rw [hen]; exact endF_ne _ _
  refine lv_iconst (v := (nI 0)) hx hb dX0_tellBytes_5 (by decide) ?_
  refine lv_istore_n (lv' := [(3, .int (nI 0)), (2, .int (nI en)), (0, .ref (o 0)), (1, .ref (b 0))]) hx hb dX0_tellBytes_6 rfl hl (by decide) rfl (fun ls hl => ?_)
  refine lp_world (σ := Nat × Nat × (Nat → Nat) × (List Nat)) (fun ⟨i, g, f, L⟩ => i ≤ en ∧ Pre g f L ∧ L ++ encF (dif mem) en i = L0 ++ encF (dif mem) en 0 ∧ (2 * g ≤ 2 * cs + 3 * i ∨ (2 * g ≤ 2 * cs + 3 * i + 1 ∧ i < en ∧ ¬ dif mem i = 0)) ∧ (∀ j, f j < 256)) (fun ⟨i, g, f, L⟩ => en - i) (fun ⟨i, g, f, L⟩ => [(3, .int (nI i)), (2, .int (nI en)), (0, .ref (o 0)), (1, .ref (b 0))]) (fun ⟨i, g, f, L⟩ => ow cB o oz g f ++ sw cB cI b sz st us mem pl ln) ?_ ((0, cs, cd, L0)) (⟨by omega, gp, rfl, Or.inl (by omega), bcd⟩) (hP) (hD) hS (lv_sub hl [0, 1, 2, 3] rfl)
  intro ⟨i, g, f, L⟩ hI ih H locs ls hP hD hS hl
  have hl : lv_has ls 5 [(3, .int (nI i)), (2, .int (nI en)), (0, .ref (o 0)), (1, .ref (b 0))] := hl
  have hP : va_P (dC, dI) vwCl (ow cB o oz g f ++ sw cB cI b sz st us mem pl ln) H := hP
  have hD : va_D A (ow cB o oz g f ++ sw cB cI b sz st us mem pl ln) := hD
  have hI : i ≤ en ∧ Pre g f L ∧ L ++ encF (dif mem) en i = L0 ++ encF (dif mem) en 0 ∧ (2 * g ≤ 2 * cs + 3 * i ∨ (2 * g ≤ 2 * cs + 3 * i + 1 ∧ i < en ∧ ¬ dif mem i = 0)) ∧ (∀ j, f j < 256) := hI
  obtain ⟨hi2, hp2, hL, hgb, hb2⟩ := hI
  have ih_7 := ih
  refine lv_iload_n hx hb dX0_tellBytes_7 rfl (lv_at hl 0 rfl) ?_
  refine lv_iload_n hx hb dX0_tellBytes_8 rfl (lv_at hl 1 rfl) ?_
  refine lv_icmp_ge (tgt := 61) hx hb dX0_tellBytes_9 (by decide) (fun c_9 => ?_) (fun c_9 => ?_)
  · have c_9 : en ≤ i := (nI_leI (a := en) (b := i) (by omega) (by omega)).mp c_9
    exact W.vret hx hb hr (fun t ht hW => ⟨⟨(g, f), rfl, ⟨by have q := hL; rw [encF_e (by omega), List.append_nil] at q; rw [← hen, ← q]; exact hp2, hgb.elim (fun q => by omega) (fun q => by omega), hb2⟩, by rw [ht]; exact hP, va_K.moved hW.alike hK, hD⟩, hS.F ht⟩) hS.2.2 dX0_tellBytes_61
  · have c_9 : ¬ en ≤ i := fun q => c_9 ((nI_leI (a := en) (b := i) (by omega) (by omega)).mpr q)
    refine lv_aload_n hx hb dX0_tellBytes_12 rfl (lv_at hl 3 rfl) ?_
    refine lv_iload_n hx hb dX0_tellBytes_13 rfl (lv_at hl 0 rfl) ?_
    refine lv_iload_n hx hb dX0_tellBytes_14 rfl (lv_at hl 1 rfl) ?_
    have hPc := hP.sub (ws' := sw cB cI b sz st us mem pl ln) [2, 3, 4, 5] rfl
    have hKc := hK.sub (tys' := [(cI, .int), (cB, .byte)]) [0, 1] rfl
    refine vp_callSi (W.runV (As := [.int (nI i), .int (nI en)]) (rest := []) ⟨hx, hb, hml, hown, hts⟩ (c_X2_unchangedRow l dC dI cB cI b sz st us mem pl ln i en (by omega) (by omega) bmem) (cwV 2 hts gX0_tellBytes_X2_unchangedRow rfl rfl rfl (by decide +kernel) ⟨Nat.le_of_ble_eq_true rfl, Nat.le_of_ble_eq_true rfl⟩) ⟨fun a9 U g9 mk9 q9 => by obtain ⟨q0, qP, qK⟩ := q9; exact ⟨q0, qP, va_K.moved (u := U) (U := U.calling g9 mk9 a9) (Vm.Alike.refl U.vm) qK⟩, va_recv hKc hPc (ci := 2) (q0 := 0) rfl rfl, fun U hU hW => ⟨rfl, by rw [hU]; exact hPc, va_K.moved hW.alike hKc⟩⟩ rfl rfl hl.1 rfl (lv_room (Nat.le_of_ble_eq_true rfl)) dX0_tellBytes_15 ⟨Nat.zero_le _, Nat.zero_le _⟩) (fun r_15 hw => ?_)
    try dsimp only at hw
    subst hw
    refine lv_istore (lv' := [(4, .int (nI (rowN (dif mem) en i))), (3, .int (nI i)), (2, .int (nI en)), (0, .ref (o 0)), (1, .ref (b 0))]) hx hb dX0_tellBytes_18 hl (by decide) rfl (fun ls hl => ?_)
    obtain ⟨rw9, hrw⟩ : ∃ q : Nat, q = rowN (dif mem) en i := ⟨_, rfl⟩
    rw [← hrw] at hl
    have hrl : i + rw9 < en := by rw [hrw]; exact rowN_lt (by omega) (hene (by omega))
    have hr6 : rw9 ≤ 256 := by rw [hrw]; exact rowN_le _ _ _
    have hst : rw9 < 256 → ¬ dif mem (i + rw9) = 0 := by rw [hrw]; exact fun q => rowN_stop q (rowN_lt (by omega) (hene (by omega)))
    refine lv_iload hx hb dX0_tellBytes_20 (lv_at hl 0 rfl) ?_
    refine lv_if_le (tgt := 46) hx hb dX0_tellBytes_22 (by decide) (fun c_22 => ?_) (fun c_22 => ?_)
    · have c_22 : rw9 ≤ 0 := (nZ_le (by omega)).mp c_22
      have hd0 : ¬ dif mem i = 0 := by have q := hst (by omega); rw [show i + rw9 = i by omega] at q; exact q
      have hg9 : 2 * g ≤ 2 * cs + 3 * i + 1 := hgb.elim (fun q => by omega) (fun q => q.1)
      refine lv_aload_n hx hb dX0_tellBytes_46 rfl (lv_at hl 3 rfl) ?_
      refine lv_aload_n hx hb dX0_tellBytes_47 rfl (lv_at hl 4 rfl) ?_
      refine lv_iload_n hx hb dX0_tellBytes_48 rfl (lv_at hl 1 rfl) ?_
      have hPc := hP.sub (ws' := sw cB cI b sz st us mem pl ln) [2, 3, 4, 5] rfl
      have hKc := hK.sub (tys' := [(cI, .int), (cB, .byte)]) [0, 1] rfl
      refine vp_callSi (W.runV (As := [.int (nI i)]) (rest := [.ref (o 0)]) ⟨hx, hb, hml, hown, hts⟩ (c_X2_difference l dC dI cB cI b sz st us mem pl ln i (by omega) bmem) (cwV 1 hts gX0_tellBytes_X2_difference rfl rfl rfl (by decide +kernel) ⟨Nat.le_of_ble_eq_true rfl, Nat.le_of_ble_eq_true rfl⟩) ⟨fun a9 U g9 mk9 q9 => by obtain ⟨q0, qP, qK⟩ := q9; exact ⟨q0, qP, va_K.moved (u := U) (U := U.calling g9 mk9 a9) (Vm.Alike.refl U.vm) qK⟩, va_recv hKc hPc (ci := 2) (q0 := 0) rfl rfl, fun U hU hW => ⟨rfl, by rw [hU]; exact hPc, va_K.moved hW.alike hKc⟩⟩ rfl rfl hl.1 rfl (lv_room (Nat.le_of_ble_eq_true rfl)) dX0_tellBytes_49 ⟨Nat.zero_le _, Nat.zero_le _⟩) (fun r_49 hw => ?_)
      try dsimp only at hw
      subst hw
      have wd_49 := dif_lt bmem i
      have hPc := hP.sub (ws' := ow cB o oz g f) [0, 1] rfl
      have hKc := hK.sub (tys' := [(cB, .byte)]) [1] rfl
      have hDc := hD.sub (ws' := ow cB o oz g f) [0, 1] (by decide) rfl
      have hFc := va_free (wc := ow cB o oz g f) hD hS hA [0, 1] rfl
      refine va_callv (va_runV (As := [.int (nI (dif mem i))]) (rest := []) ⟨hx, hb, hml, hown, hts⟩ (c_X0_append l dC dI cB o oz g f H.size (dif mem i) (by omega) (by omega)) (cwV 1 hts gX0_tellBytes_X0_append rfl rfl rfl (by decide +kernel) ⟨Nat.le_of_ble_eq_true rfl, Nat.le_of_ble_eq_true rfl⟩) ⟨fun a9 U g9 mk9 q9 => by obtain ⟨q0, q1, qP, qK, qD⟩ := q9; exact ⟨q0, q1, qP, va_K.moved (u := U) (U := U.calling g9 mk9 a9) (Vm.Alike.refl U.vm) qK, qD⟩, va_recv hKc hPc (ci := 0) (q0 := 0) rfl rfl, fun U hU hW => ⟨rfl, by rw [hU], by rw [hU]; exact hPc, va_K.moved hW.alike hKc, hDc.weaken (fun _ _ _ _ => trivial)⟩⟩ rfl rfl hl.1 rfl (lv_room (Nat.le_of_ble_eq_true rfl)) dX0_tellBytes_52 ⟨Nat.zero_le _, Nat.zero_le _⟩) hS (fun q _ h => hFc q h) hFc (fun u t H1 locs ht9 hvm9 hw hB hz9 hk9 hS => ?_)
      obtain ⟨hP1, hK1, hD1⟩ := hB
      rw [ht9] at hP1
      obtain ⟨hP, hD⟩ := va_join (wr := sw cB cI b sz st us mem pl ln) (w1 := ow cB o oz (g + 1) (va_up f g ((dif mem i) % 256))) hP hD [0, 1] [2, 3, 4, 5] rfl rfl (by decide) (by decide) hk9 hFc hP1 hD1
      generalize H1 = H at hP hS ⊢
      have hP := hP.sub (ws' := ow cB o oz (g + 1) (va_up f g ((dif mem i) % 256)) ++ sw cB cI b sz st us mem pl ln) [4, 5, 0, 1, 2, 3] rfl
      have hD := hD.sub (ws' := ow cB o oz (g + 1) (va_up f g ((dif mem i) % 256)) ++ sw cB cI b sz st us mem pl ln) [4, 5, 0, 1, 2, 3] (by decide) rfl
      have hP : va_P (dC, dI) vwCl (ow cB o oz (g + 1) (va_up f g ((dif mem i) % 256)) ++ sw cB cI b sz st us mem pl ln) H := hP
      have hD : va_D A (ow cB o oz (g + 1) (va_up f g ((dif mem i) % 256)) ++ sw cB cI b sz st us mem pl ln) := hD
      refine lv_iinc (v := (nI (i + 1))) (lv' := [(3, .int (nI (i + 1))), (4, .int (nI rw9)), (2, .int (nI en)), (0, .ref (o 0)), (1, .ref (b 0))]) hx hb dX0_tellBytes_55 hl (k := 1) rfl (nI_inc _) (by decide) rfl (fun ls hl => ?_)
      refine lv_goto (tgt := 7) hx hb dX0_tellBytes_58 (by decide) ?_
      exact ih_7 (i + 1, g + 1, va_up f g ((dif mem i) % 256), L ++ [dif mem i % 256]) (⟨by omega, Pre_put hp2 (dif mem i % 256), by rw [← hL, encF_n (by omega) hd0, List.append_assoc, show dif mem i % 256 = dif mem i by omega]; rfl, Or.inl (by omega), fun j => up_lt hb2 (Nat.mod_lt _ (by decide)) j⟩) (show en - (i + 1) < en - i by omega) H locs ls (hP) (hD) hS (lv_sub hl [0, 2, 3, 4] rfl)
    · have c_22 : ¬ rw9 ≤ 0 := fun q => c_22 ((nZ_le (by omega)).mpr q)
      have hd0 : dif mem i = 0 := rowN_0 (by rw [← hrw]; omega)
      have hg9 : 2 * g ≤ 2 * cs + 3 * i := hgb.elim id (fun q => absurd hd0 q.2.2)
      refine lv_aload_n hx hb dX0_tellBytes_25 rfl (lv_at hl 3 rfl) ?_
      refine lv_iconst (v := (nI 0)) hx hb dX0_tellBytes_26 (by decide) ?_
      have hPc := hP.sub (ws' := ow cB o oz g f) [0, 1] rfl
      have hKc := hK.sub (tys' := [(cB, .byte)]) [1] rfl
      have hDc := hD.sub (ws' := ow cB o oz g f) [0, 1] (by decide) rfl
      have hFc := va_free (wc := ow cB o oz g f) hD hS hA [0, 1] rfl
      refine va_callv (va_runV (As := [.int (nI 0)]) (rest := []) ⟨hx, hb, hml, hown, hts⟩ (c_X0_append l dC dI cB o oz g f H.size 0 (by omega) (by omega)) (cwV 1 hts gX0_tellBytes_X0_append rfl rfl rfl (by decide +kernel) ⟨Nat.le_of_ble_eq_true rfl, Nat.le_of_ble_eq_true rfl⟩) ⟨fun a9 U g9 mk9 q9 => by obtain ⟨q0, q1, qP, qK, qD⟩ := q9; exact ⟨q0, q1, qP, va_K.moved (u := U) (U := U.calling g9 mk9 a9) (Vm.Alike.refl U.vm) qK, qD⟩, va_recv hKc hPc (ci := 0) (q0 := 0) rfl rfl, fun U hU hW => ⟨rfl, by rw [hU], by rw [hU]; exact hPc, va_K.moved hW.alike hKc, hDc.weaken (fun _ _ _ _ => trivial)⟩⟩ rfl rfl hl.1 rfl (lv_room (Nat.le_of_ble_eq_true rfl)) dX0_tellBytes_27 ⟨Nat.zero_le _, Nat.zero_le _⟩) hS (fun q _ h => hFc q h) hFc (fun u t H1 locs ht9 hvm9 hw hB hz9 hk9 hS => ?_)
      obtain ⟨hP1, hK1, hD1⟩ := hB
      rw [ht9] at hP1
      obtain ⟨hP, hD⟩ := va_join (wr := sw cB cI b sz st us mem pl ln) (w1 := ow cB o oz (g + 1) (va_up f g (0 % 256))) hP hD [0, 1] [2, 3, 4, 5] rfl rfl (by decide) (by decide) hk9 hFc hP1 hD1
      generalize H1 = H at hP hS ⊢
      have hP := hP.sub (ws' := ow cB o oz (g + 1) (va_up f g (0 % 256)) ++ sw cB cI b sz st us mem pl ln) [4, 5, 0, 1, 2, 3] rfl
      have hD := hD.sub (ws' := ow cB o oz (g + 1) (va_up f g (0 % 256)) ++ sw cB cI b sz st us mem pl ln) [4, 5, 0, 1, 2, 3] (by decide) rfl
      have hP : va_P (dC, dI) vwCl (ow cB o oz (g + 1) (va_up f g (0 % 256)) ++ sw cB cI b sz st us mem pl ln) H := hP
      have hD : va_D A (ow cB o oz (g + 1) (va_up f g (0 % 256)) ++ sw cB cI b sz st us mem pl ln) := hD
      refine lv_aload_n hx hb dX0_tellBytes_30 rfl (lv_at hl 3 rfl) ?_
      refine lv_iload hx hb dX0_tellBytes_31 (lv_at hl 0 rfl) ?_
      refine lv_iconst (v := (nI 1)) hx hb dX0_tellBytes_33 (by decide) ?_
      refine lv_isub hx hb dX0_tellBytes_34 ?_
      refine tpi (pk_sub (by omega)) ?_
      have hPc := hP.sub (ws' := ow cB o oz (g + 1) (va_up f g (0 % 256))) [0, 1] rfl
      have hKc := hK.sub (tys' := [(cB, .byte)]) [1] rfl
      have hDc := hD.sub (ws' := ow cB o oz (g + 1) (va_up f g (0 % 256))) [0, 1] (by decide) rfl
      have hFc := va_free (wc := ow cB o oz (g + 1) (va_up f g (0 % 256))) hD hS hA [0, 1] rfl
      refine va_callv (va_runV (As := [.int (nI (rw9 - 1))]) (rest := []) ⟨hx, hb, hml, hown, hts⟩ (c_X0_append l dC dI cB o oz (g + 1) (va_up f g (0 % 256)) H.size (rw9 - 1) (by omega) (by omega)) (cwV 1 hts gX0_tellBytes_X0_append rfl rfl rfl (by decide +kernel) ⟨Nat.le_of_ble_eq_true rfl, Nat.le_of_ble_eq_true rfl⟩) ⟨fun a9 U g9 mk9 q9 => by obtain ⟨q0, q1, qP, qK, qD⟩ := q9; exact ⟨q0, q1, qP, va_K.moved (u := U) (U := U.calling g9 mk9 a9) (Vm.Alike.refl U.vm) qK, qD⟩, va_recv hKc hPc (ci := 0) (q0 := 0) rfl rfl, fun U hU hW => ⟨rfl, by rw [hU], by rw [hU]; exact hPc, va_K.moved hW.alike hKc, hDc.weaken (fun _ _ _ _ => trivial)⟩⟩ rfl rfl hl.1 rfl (lv_room (Nat.le_of_ble_eq_true rfl)) dX0_tellBytes_35 ⟨Nat.zero_le _, Nat.zero_le _⟩) hS (fun q _ h => hFc q h) hFc (fun u t H1 locs ht9 hvm9 hw hB hz9 hk9 hS => ?_)
      obtain ⟨hP1, hK1, hD1⟩ := hB
      rw [ht9] at hP1
      obtain ⟨hP, hD⟩ := va_join (wr := sw cB cI b sz st us mem pl ln) (w1 := ow cB o oz (g + 1 + 1) (va_up (va_up f g (0 % 256)) (g + 1) ((rw9 - 1) % 256))) hP hD [0, 1] [2, 3, 4, 5] rfl rfl (by decide) (by decide) hk9 hFc hP1 hD1
      generalize H1 = H at hP hS ⊢
      have hP := hP.sub (ws' := ow cB o oz (g + 1 + 1) (va_up (va_up f g (0 % 256)) (g + 1) ((rw9 - 1) % 256)) ++ sw cB cI b sz st us mem pl ln) [4, 5, 0, 1, 2, 3] rfl
      have hD := hD.sub (ws' := ow cB o oz (g + 1 + 1) (va_up (va_up f g (0 % 256)) (g + 1) ((rw9 - 1) % 256)) ++ sw cB cI b sz st us mem pl ln) [4, 5, 0, 1, 2, 3] (by decide) rfl
      have hP : va_P (dC, dI) vwCl (ow cB o oz (g + 1 + 1) (va_up (va_up f g (0 % 256)) (g + 1) ((rw9 - 1) % 256)) ++ sw cB cI b sz st us mem pl ln) H := hP
      have hD : va_D A (ow cB o oz (g + 1 + 1) (va_up (va_up f g (0 % 256)) (g + 1) ((rw9 - 1) % 256)) ++ sw cB cI b sz st us mem pl ln) := hD
      refine lv_iload_n hx hb dX0_tellBytes_38 rfl (lv_at hl 1 rfl) ?_
      refine lv_iload hx hb dX0_tellBytes_39 (lv_at hl 0 rfl) ?_
      refine lv_iadd hx hb dX0_tellBytes_41 ?_
      refine tpi (nI_add _ _) ?_
      refine lv_istore_n (lv' := [(3, .int (nI (i + rw9))), (4, .int (nI rw9)), (2, .int (nI en)), (0, .ref (o 0)), (1, .ref (b 0))]) hx hb dX0_tellBytes_42 rfl hl (by decide) rfl (fun ls hl => ?_)
      refine lv_goto (tgt := 58) hx hb dX0_tellBytes_43 (by decide) ?_
      refine lv_goto (tgt := 7) hx hb dX0_tellBytes_58 (by decide) ?_
      exact ih_7 (i + rw9, g + 1 + 1, va_up (va_up f g (0 % 256)) (g + 1) ((rw9 - 1) % 256), L ++ [0 % 256, (rw9 - 1) % 256]) (⟨by omega, by have q := Pre_put (Pre_put hp2 (0 % 256)) ((rw9 - 1) % 256); rw [List.append_assoc] at q; exact q, by rw [← hL, encF_z (by omega) hd0 hrw.symm, List.append_assoc, show (rw9 - 1) % 256 = rw9 - 1 by omega]; rfl, if q : rw9 = 1 then Or.inr ⟨by omega, by omega, hst (by omega)⟩ else Or.inl (by omega), fun j => up_lt (up_lt hb2 (Nat.mod_lt _ (by decide))) (Nat.mod_lt _ (by decide)) j⟩) (show en - (i + rw9) < en - i by omega) H locs ls (hP) (hD) hS (lv_sub hl [0, 2, 3, 4] rfl)
