/-- the array classes stand in the tables -/
theorem va_K_arr {D : va_G} {cl : List vw_C} {tys : List (ClassId × FieldType)} {U : State} {args : Array Value} {ty : FieldType} (h : (Cond.arrayClass ty).before args U = true) (hty : ty = .int ∨ ty = .byte) (hK : va_K D cl tys U) : ∃ cA, va_K D cl (tys ++ [(cA, ty)]) U := by
  obtain ⟨cA, kA, comp, h1, h2, h3⟩ := Cond.arrayClass_spec h
  refine ⟨cA, hK.app ⟨hK.1, fun k q hk => ?_⟩⟩
  have hz : k < 1 := (List.getElem?_eq_some_iff.mp hk).1
  rw [show k = 0 by omega] at hk
  cases hk
  exact ⟨fun n z => ⟨fun k h => (by cases h), kA, h2, comp, h3⟩, by rcases hty with rfl | rfl <;> exact h1⟩
set_option maxHeartbeats 4000000 in
set_option maxRecDepth 100000 in
theorem c_X0_tell0 (l : Launch) (dC : Nat → ClassId) (dI : Nat → Nat → Nat) (cB cI : ClassId) (o b : Nat → Nat) (oz : Nat) (cs : Nat) (cd : Nat → Nat) (sz : Nat) (st : Nat) (us : Nat) (mem : Nat → Nat) (pl : Nat → Nat) (ln : Nat → Nat) (zz : Nat)  (gw9 : wfB sz st us pl ln) (g00 : oz < 12550) (bmem : ∀ j, mem j < 256) (bpl : ∀ j, pl j < 2 ^ 31) (bln : ∀ j, ln j < 2 ^ 31) : Met l yX0_tell wsX0_tell ({ frames := 4, cells := 1, slots := 12550, locals := 89 }) (va_Pc [.ref (o 0), .ref (b 0)] (fun U => U.heap.size = zz ∧ va_P (dC, dI) vwCl (ow cB o oz cs cd ++ sw cB cI b sz st us mem pl ln) U.heap ∧ va_K (dC, dI) vwCl [(cI, .int), (cB, .byte)] U ∧ va_D (fun _ => True) (ow cB o oz cs cd ++ sw cB cI b sz st us mem pl ln))) (va_Qv (fun (u : (Nat → Nat) × Nat × (Nat → Nat)) => match u with | ⟨o2, cs2, cd2⟩ => o2 0 = o 0 ∧ Pre cs2 cd2 (wcode sz st us pl ln mem) ∧ cs2 ≤ 12550 ∧ ∀ j, cd2 j < 256) (fun (u : (Nat → Nat) × Nat × (Nat → Nat)) t => match u with | ⟨o2, cs2, cd2⟩ => va_P (dC, dI) vwCl (ow cB o2 12550 cs2 cd2 ++ sw cB cI b sz st us mem pl ln) t.heap ∧ va_K (dC, dI) vwCl [(cI, .int), (cB, .byte)] t ∧ va_D (va_A (ow cB o oz cs cd ++ sw cB cI b sz st us mem pl ln) zz) (ow cB o2 12550 cs2 cd2 ++ sw cB cI b sz st us mem pl ln)) (va_A (ow cB o oz cs cd ++ sw cB cI b sz st us mem pl ln) zz)) 1 12550 (va_A (ow cB o oz cs cd ++ sw cB cI b sz st us mem pl ln) zz) := by
  refine Met.ofW (cc := cX0_tell) (maxL := 3) (ret := none) (by decide) rfl ?_
  intro p e s m args below meth c s₁ B hml hv
  obtain ⟨rfl, hsz, hP, hK, hD0⟩ := hv
  have hx := B.exec
  have hb := B.bytes
  have hr := B.returns
  have hts := atoms_spec (ws := wsX0_tell) B.pre
  have hown : s.vm.findClass RX0 = some m.cls := findClass_of_methodNamed B.named
  have hlocks := B.notSynchronized
  subst hsz
  have hD := hD0.self (sz := s.heap.size)
  generalize hAe : va_A (ow cB o oz cs cd ++ sw cB cI b sz st us mem pl ln) s.heap.size = A at hD ⊢
  have hA : ∀ q : Nat, s.heap.size ≤ q → A q := fun q h => by rw [← hAe]; exact Or.inr h
  have hS : va_S A s.heap s.heap [] := va_S.rf
  have hP : va_P (dC, dI) vwCl (ow cB o oz cs cd ++ sw cB cI b sz st us mem pl ln) s.heap := hP
  have in_X0 : ∀ w ∈ wsX00, w ∈ wsX0_tell := fun _ h => List.mem_cons_of_mem _ (List.mem_append_left _ (List.mem_append_right _ (h)))
  have in_X2 : ∀ w ∈ wsX20, w ∈ wsX0_tell := fun _ h => List.mem_cons_of_mem _ (List.mem_append_right _ (h))
  have lk_1 := hts (.fieldLink RX0 9 "GlulxHeap$Code" "bytes" "[B") (List.mem_of_getElem? (i := 1) rfl)
  have lk_2 := hts (.arrayClass .byte) (List.mem_of_getElem? (i := 2) rfl)
  have lk_3 := hts (.fieldLink RX0 15 "GlulxHeap$Code" "length" "I") (List.mem_of_getElem? (i := 3) rfl)
  have lk_4 := hts (.fieldLink RX0 27 "GlulxHeap$State" "size" "I") (List.mem_of_getElem? (i := 4) rfl)
  have lk_5 := hts (.fieldLink RX0 35 "GlulxHeap$State" "start" "I") (List.mem_of_getElem? (i := 5) rfl)
  have lk_6 := hts (.fieldLink RX0 38 "GlulxHeap$State" "used" "I") (List.mem_of_getElem? (i := 6) rfl)
  have lk_7 := hts (.fieldLink RX0 41 "GlulxHeap$State" "places" "[I") (List.mem_of_getElem? (i := 7) rfl)
  have lk_8 := hts (.fieldLink RX0 45 "GlulxHeap$State" "lengths" "[I") (List.mem_of_getElem? (i := 8) rfl)
  have hl := lv_entry ([.ref (o 0), .ref (b 0)]) (n := 3) (Nat.le_of_ble_eq_true rfl)
  rw [lg_entry_eq]
  generalize (lg_sl ([.ref (o 0), .ref (b 0)]) ++ List.replicate (3 - (lg_sl ([.ref (o 0), .ref (b 0)])).length) Slot.unset).toArray = ls at hl ⊢
  have hl : lv_has ls 3 [(0, .ref (o 0)), (1, .ref (b 0))] := hl
  obtain ⟨gw1, gw2, gw3, gw4, gw5, gw6⟩ := id gw9
  refine lv_aload_n hx hb dX0_tell_0 rfl (lv_at hl 0 rfl) ?_
  refine va_get (D := (dC, dI)) (ci := 0) (v := .ref (o 1)) (C := RX0) (T := TX0) (N := 2) hx hb hts in_X0 hown hK hP 0 rfl rfl 0 (by decide) lk_1 (fun _ h9 => h9) rfl dX0_tell_1 ?_
  refine va_alen (v := nI oz) hx hb hK hP 1 1 rfl rfl rfl dX0_tell_4 ?_
  refine lv_sipush (v := (nI 12550)) hx hb dX0_tell_5 (by decide) ?_
  refine lv_icmp_ge (tgt := 20) hx hb dX0_tell_8 (by decide) (fun c_8 => ?_) (fun c_8 => ?_)
  · have c_8 : 12550 ≤ oz := (nI_leI (a := 12550) (b := oz) (by omega) (by omega)).mp c_8
    omega
  · have c_8 : ¬ 12550 ≤ oz := fun q => c_8 ((nI_leI (a := 12550) (b := oz) (by omega) (by omega)).mpr q)
    refine lv_aload_n hx hb dX0_tell_11 rfl (lv_at hl 0 rfl) ?_
    refine lv_sipush (v := (nI 12550)) hx hb dX0_tell_12 (by decide) ?_
    refine va_newa (atype := .byte) (ty := .byte) (N' := 12550) (a0 := (12550, .inl (bf zf))) hx hb lk_2 rfl hK hP hD hS hA (zrowB 12550) (nI_pos (by omega)) (nI_clamp (by omega)) (by show 12550 * 1 ≤ 536870912; omega) (Nat.le_of_ble_eq_true rfl) (Nat.le_of_ble_eq_true rfl) dX0_tell_15 (fun q9 y9 H hK hP hD hS => ?_)
    obtain rfl : cB = y9 := (va_oneB hK 1 2 rfl rfl).symm
    have hK := hK.sub (tys' := [(cI, .int), (cB, .byte)]) [0, 1] rfl
    have hP : va_P (dC, dI) vwCl (ow cB o oz cs cd ++ sw cB cI b sz st us mem pl ln ++ [(q9, .inl (cB, 12550, .inl (bf zf)))]) H := hP
    have hD : va_D A (ow cB o oz cs cd ++ sw cB cI b sz st us mem pl ln ++ [(q9, .inl (cB, 12550, .inl (bf zf)))]) := hD
    refine va_put (D := (dC, dI)) (ci := 0) (v := .ref q9) (ty := .array .byte) (C := RX0) (T := TX0) (N := 2) hx hb hts in_X0 tyX0 tyX0_ok nmX0 hown hK hP hD hS 0 rfl rfl 0 (by decide) lk_1 (fun _ h9 => h9) rfl (by decide +kernel) rfl rfl (Nat.le_of_ble_eq_true rfl) dX0_tell_17 (fun H locs hP hD hS => ?_)
    obtain ⟨o9, ho9⟩ : ∃ f : Nat → Nat, f = (fun k => match k with | 0 => o 0 | _ => q9) := ⟨_, rfl⟩
    have e0 : o9 0 = o 0 := congrFun ho9 0
    have e1 : o9 1 = q9 := congrFun ho9 1
    have hP := hP.sub (ws' := [(o 0, .inr (0, [.ref q9, .int (nI cs)])), (q9, .inl (cB, 12550, .inl (bf zf)))] ++ sw cB cI b sz st us mem pl ln) [0, 6, 2, 3, 4, 5] rfl
    have hD := hD.sub (ws' := [(o 0, .inr (0, [.ref q9, .int (nI cs)])), (q9, .inl (cB, 12550, .inl (bf zf)))] ++ sw cB cI b sz st us mem pl ln) [0, 6, 2, 3, 4, 5] (by decide) rfl
    rw [← e0, ← e1] at hP hD
    rw [← e0] at hl
    have hl : lv_has ls 3 [(0, .ref (o9 0)), (1, .ref (b 0))] := hl
    have hP : va_P (dC, dI) vwCl (ow cB o9 12550 cs zf ++ sw cB cI b sz st us mem pl ln) H := hP
    have hD : va_D A (ow cB o9 12550 cs zf ++ sw cB cI b sz st us mem pl ln) := hD
    have bcd : ∀ j, zf j < 256 := fun _ => by show (0 : Nat) < 256; decide
    have g0 : (12550 : Nat) = 12550 := rfl
    refine lv_aload_n hx hb dX0_tell_20 rfl (lv_at hl 0 rfl) ?_
    refine lv_iconst (v := (nI 0)) hx hb dX0_tell_21 (by decide) ?_
    refine va_put (D := (dC, dI)) (ci := 0) (v := .int (nI 0)) (ty := .int) (C := RX0) (T := TX0) (N := 2) hx hb hts in_X0 tyX0 tyX0_ok nmX0 hown hK hP hD hS 0 rfl rfl 1 (by decide) lk_3 (fun _ h9 => h9) rfl (by decide +kernel) rfl rfl (Nat.le_of_ble_eq_true rfl) dX0_tell_22 (fun H locs hP hD hS => ?_)
    have hP : va_P (dC, dI) vwCl (ow cB o9 12550 0 zf ++ sw cB cI b sz st us mem pl ln) H := hP
    have hD : va_D A (ow cB o9 12550 0 zf ++ sw cB cI b sz st us mem pl ln) := hD
    refine lv_aload_n hx hb dX0_tell_25 rfl (lv_at hl 0 rfl) ?_
    refine lv_aload_n hx hb dX0_tell_26 rfl (lv_at hl 1 rfl) ?_
    refine va_get (D := (dC, dI)) (ci := 2) (v := .int (nI sz)) (C := RX2) (T := TX2) (N := 6) hx hb hts in_X2 hown hK hP 2 rfl rfl 3 (by decide) lk_4 (fun _ h9 => h9) rfl dX0_tell_27 ?_
    have hPc := hP.sub (ws' := ow cB o9 12550 0 zf) [0, 1] rfl
    have hKc := hK.sub (tys' := [(cB, .byte)]) [1] rfl
    have hDc := hD.sub (ws' := ow cB o9 12550 0 zf) [0, 1] (by decide) rfl
    have hFc := va_free (wc := ow cB o9 12550 0 zf) hD hS hA [0, 1] rfl
    refine va_callv (va_runV (As := [.int (nI sz)]) (rest := []) ⟨hx, hb, hml, hown, hts⟩ (c_X0_appendPair l dC dI cB o9 12550 0 zf H.size sz (by omega) (by omega) (by omega)) (cwV 1 hts gX0_tell_X0_appendPair rfl rfl rfl (by decide +kernel) ⟨Nat.le_of_ble_eq_true rfl, Nat.le_of_ble_eq_true rfl⟩) ⟨fun a9 U g9 mk9 q9 => by obtain ⟨q0, q1, qP, qK, qD⟩ := q9; exact ⟨q0, q1, qP, va_K.moved (u := U) (U := U.calling g9 mk9 a9) (Vm.Alike.refl U.vm) qK, qD⟩, va_recv hKc hPc (ci := 0) (q0 := 0) rfl rfl, fun U hU hW => ⟨rfl, by rw [hU], by rw [hU]; exact hPc, va_K.moved hW.alike hKc, hDc.weaken (fun _ _ _ _ => trivial)⟩⟩ rfl rfl hl.1 rfl (lv_room (Nat.le_of_ble_eq_true rfl)) dX0_tell_30 ⟨Nat.le_of_ble_eq_true rfl, Nat.le_of_ble_eq_true rfl⟩) hS (fun q _ h => hFc q h) hFc (fun u t H1 locs ht9 hvm9 hw hB hz9 hk9 hS => ?_)
    obtain ⟨hP1, hK1, hD1⟩ := hB
    rw [ht9] at hP1
    obtain ⟨hP, hD⟩ := va_join (wr := sw cB cI b sz st us mem pl ln) (w1 := ow cB o9 12550 (0 + 1 + 1) (va_up (va_up zf 0 (sz / 2 ^ 8 % 256)) (0 + 1) (sz % 256))) hP hD [0, 1] [2, 3, 4, 5] rfl rfl (by decide) (by decide) hk9 hFc hP1 hD1
    generalize H1 = H at hP hS ⊢
    have hP := hP.sub (ws' := ow cB o9 12550 (0 + 1 + 1) (va_up (va_up zf 0 (sz / 2 ^ 8 % 256)) (0 + 1) (sz % 256)) ++ sw cB cI b sz st us mem pl ln) [4, 5, 0, 1, 2, 3] rfl
    have hD := hD.sub (ws' := ow cB o9 12550 (0 + 1 + 1) (va_up (va_up zf 0 (sz / 2 ^ 8 % 256)) (0 + 1) (sz % 256)) ++ sw cB cI b sz st us mem pl ln) [4, 5, 0, 1, 2, 3] (by decide) rfl
    have hP : va_P (dC, dI) vwCl (ow cB o9 12550 (0 + 1 + 1) (va_up (va_up zf 0 (sz / 2 ^ 8 % 256)) (0 + 1) (sz % 256)) ++ sw cB cI b sz st us mem pl ln) H := hP
    have hD : va_D A (ow cB o9 12550 (0 + 1 + 1) (va_up (va_up zf 0 (sz / 2 ^ 8 % 256)) (0 + 1) (sz % 256)) ++ sw cB cI b sz st us mem pl ln) := hD
    refine lv_aload_n hx hb dX0_tell_33 rfl (lv_at hl 0 rfl) ?_
    refine lv_aload_n hx hb dX0_tell_34 rfl (lv_at hl 1 rfl) ?_
    refine va_get (D := (dC, dI)) (ci := 2) (v := .int (nI st)) (C := RX2) (T := TX2) (N := 6) hx hb hts in_X2 hown hK hP 2 rfl rfl 4 (by decide) lk_5 (fun _ h9 => h9) rfl dX0_tell_35 ?_
    have hPc := hP.sub (ws' := ow cB o9 12550 (0 + 1 + 1) (va_up (va_up zf 0 (sz / 2 ^ 8 % 256)) (0 + 1) (sz % 256))) [0, 1] rfl
    have hKc := hK.sub (tys' := [(cB, .byte)]) [1] rfl
    have hDc := hD.sub (ws' := ow cB o9 12550 (0 + 1 + 1) (va_up (va_up zf 0 (sz / 2 ^ 8 % 256)) (0 + 1) (sz % 256))) [0, 1] (by decide) rfl
    have hFc := va_free (wc := ow cB o9 12550 (0 + 1 + 1) (va_up (va_up zf 0 (sz / 2 ^ 8 % 256)) (0 + 1) (sz % 256))) hD hS hA [0, 1] rfl
    refine va_callv (va_runV (As := [.int (nI st)]) (rest := []) ⟨hx, hb, hml, hown, hts⟩ (c_X0_appendPair l dC dI cB o9 12550 (0 + 1 + 1) (va_up (va_up zf 0 (sz / 2 ^ 8 % 256)) (0 + 1) (sz % 256)) H.size st (by omega) (by omega) (by omega)) (cwV 1 hts gX0_tell_X0_appendPair rfl rfl rfl (by decide +kernel) ⟨Nat.le_of_ble_eq_true rfl, Nat.le_of_ble_eq_true rfl⟩) ⟨fun a9 U g9 mk9 q9 => by obtain ⟨q0, q1, qP, qK, qD⟩ := q9; exact ⟨q0, q1, qP, va_K.moved (u := U) (U := U.calling g9 mk9 a9) (Vm.Alike.refl U.vm) qK, qD⟩, va_recv hKc hPc (ci := 0) (q0 := 0) rfl rfl, fun U hU hW => ⟨rfl, by rw [hU], by rw [hU]; exact hPc, va_K.moved hW.alike hKc, hDc.weaken (fun _ _ _ _ => trivial)⟩⟩ rfl rfl hl.1 rfl (lv_room (Nat.le_of_ble_eq_true rfl)) dX0_tell_38 ⟨Nat.le_of_ble_eq_true rfl, Nat.le_of_ble_eq_true rfl⟩) hS (fun q _ h => hFc q h) hFc (fun u t H1 locs ht9 hvm9 hw hB hz9 hk9 hS => ?_)
    obtain ⟨hP1, hK1, hD1⟩ := hB
    rw [ht9] at hP1
    obtain ⟨hP, hD⟩ := va_join (wr := sw cB cI b sz st us mem pl ln) (w1 := ow cB o9 12550 (0 + 1 + 1 + 1 + 1) (va_up (va_up (va_up (va_up zf 0 (sz / 2 ^ 8 % 256)) (0 + 1) (sz % 256)) (0 + 1 + 1) (st / 2 ^ 8 % 256)) (0 + 1 + 1 + 1) (st % 256))) hP hD [0, 1] [2, 3, 4, 5] rfl rfl (by decide) (by decide) hk9 hFc hP1 hD1
    generalize H1 = H at hP hS ⊢
    have hP := hP.sub (ws' := ow cB o9 12550 (0 + 1 + 1 + 1 + 1) (va_up (va_up (va_up (va_up zf 0 (sz / 2 ^ 8 % 256)) (0 + 1) (sz % 256)) (0 + 1 + 1) (st / 2 ^ 8 % 256)) (0 + 1 + 1 + 1) (st % 256)) ++ sw cB cI b sz st us mem pl ln) [4, 5, 0, 1, 2, 3] rfl
    have hD := hD.sub (ws' := ow cB o9 12550 (0 + 1 + 1 + 1 + 1) (va_up (va_up (va_up (va_up zf 0 (sz / 2 ^ 8 % 256)) (0 + 1) (sz % 256)) (0 + 1 + 1) (st / 2 ^ 8 % 256)) (0 + 1 + 1 + 1) (st % 256)) ++ sw cB cI b sz st us mem pl ln) [4, 5, 0, 1, 2, 3] (by decide) rfl
    have hP : va_P (dC, dI) vwCl (ow cB o9 12550 (0 + 1 + 1 + 1 + 1) (va_up (va_up (va_up (va_up zf 0 (sz / 2 ^ 8 % 256)) (0 + 1) (sz % 256)) (0 + 1 + 1) (st / 2 ^ 8 % 256)) (0 + 1 + 1 + 1) (st % 256)) ++ sw cB cI b sz st us mem pl ln) H := hP
    have hD : va_D A (ow cB o9 12550 (0 + 1 + 1 + 1 + 1) (va_up (va_up (va_up (va_up zf 0 (sz / 2 ^ 8 % 256)) (0 + 1) (sz % 256)) (0 + 1 + 1) (st / 2 ^ 8 % 256)) (0 + 1 + 1 + 1) (st % 256)) ++ sw cB cI b sz st us mem pl ln) := hD
    refine lv_aload_n hx hb dX0_tell_41 rfl (lv_at hl 0 rfl) ?_
    refine lv_aload_n hx hb dX0_tell_42 rfl (lv_at hl 1 rfl) ?_
    refine va_get (D := (dC, dI)) (ci := 2) (v := .int (nI us)) (C := RX2) (T := TX2) (N := 6) hx hb hts in_X2 hown hK hP 2 rfl rfl 5 (by decide) lk_6 (fun _ h9 => h9) rfl dX0_tell_43 ?_
    have hPc := hP.sub (ws' := ow cB o9 12550 (0 + 1 + 1 + 1 + 1) (va_up (va_up (va_up (va_up zf 0 (sz / 2 ^ 8 % 256)) (0 + 1) (sz % 256)) (0 + 1 + 1) (st / 2 ^ 8 % 256)) (0 + 1 + 1 + 1) (st % 256))) [0, 1] rfl
    have hKc := hK.sub (tys' := [(cB, .byte)]) [1] rfl
    have hDc := hD.sub (ws' := ow cB o9 12550 (0 + 1 + 1 + 1 + 1) (va_up (va_up (va_up (va_up zf 0 (sz / 2 ^ 8 % 256)) (0 + 1) (sz % 256)) (0 + 1 + 1) (st / 2 ^ 8 % 256)) (0 + 1 + 1 + 1) (st % 256))) [0, 1] (by decide) rfl
    have hFc := va_free (wc := ow cB o9 12550 (0 + 1 + 1 + 1 + 1) (va_up (va_up (va_up (va_up zf 0 (sz / 2 ^ 8 % 256)) (0 + 1) (sz % 256)) (0 + 1 + 1) (st / 2 ^ 8 % 256)) (0 + 1 + 1 + 1) (st % 256))) hD hS hA [0, 1] rfl
    refine va_callv (va_runV (As := [.int (nI us)]) (rest := []) ⟨hx, hb, hml, hown, hts⟩ (c_X0_appendPair l dC dI cB o9 12550 (0 + 1 + 1 + 1 + 1) (va_up (va_up (va_up (va_up zf 0 (sz / 2 ^ 8 % 256)) (0 + 1) (sz % 256)) (0 + 1 + 1) (st / 2 ^ 8 % 256)) (0 + 1 + 1 + 1) (st % 256)) H.size us (by omega) (by omega) (by omega)) (cwV 1 hts gX0_tell_X0_appendPair rfl rfl rfl (by decide +kernel) ⟨Nat.le_of_ble_eq_true rfl, Nat.le_of_ble_eq_true rfl⟩) ⟨fun a9 U g9 mk9 q9 => by obtain ⟨q0, q1, qP, qK, qD⟩ := q9; exact ⟨q0, q1, qP, va_K.moved (u := U) (U := U.calling g9 mk9 a9) (Vm.Alike.refl U.vm) qK, qD⟩, va_recv hKc hPc (ci := 0) (q0 := 0) rfl rfl, fun U hU hW => ⟨rfl, by rw [hU], by rw [hU]; exact hPc, va_K.moved hW.alike hKc, hDc.weaken (fun _ _ _ _ => trivial)⟩⟩ rfl rfl hl.1 rfl (lv_room (Nat.le_of_ble_eq_true rfl)) dX0_tell_46 ⟨Nat.le_of_ble_eq_true rfl, Nat.le_of_ble_eq_true rfl⟩) hS (fun q _ h => hFc q h) hFc (fun u t H1 locs ht9 hvm9 hw hB hz9 hk9 hS => ?_)
    obtain ⟨hP1, hK1, hD1⟩ := hB
    rw [ht9] at hP1
    obtain ⟨hP, hD⟩ := va_join (wr := sw cB cI b sz st us mem pl ln) (w1 := ow cB o9 12550 (0 + 1 + 1 + 1 + 1 + 1 + 1) (va_up (va_up (va_up (va_up (va_up (va_up zf 0 (sz / 2 ^ 8 % 256)) (0 + 1) (sz % 256)) (0 + 1 + 1) (st / 2 ^ 8 % 256)) (0 + 1 + 1 + 1) (st % 256)) (0 + 1 + 1 + 1 + 1) (us / 2 ^ 8 % 256)) (0 + 1 + 1 + 1 + 1 + 1) (us % 256))) hP hD [0, 1] [2, 3, 4, 5] rfl rfl (by decide) (by decide) hk9 hFc hP1 hD1
    generalize H1 = H at hP hS ⊢
    have hP := hP.sub (ws' := ow cB o9 12550 (0 + 1 + 1 + 1 + 1 + 1 + 1) (va_up (va_up (va_up (va_up (va_up (va_up zf 0 (sz / 2 ^ 8 % 256)) (0 + 1) (sz % 256)) (0 + 1 + 1) (st / 2 ^ 8 % 256)) (0 + 1 + 1 + 1) (st % 256)) (0 + 1 + 1 + 1 + 1) (us / 2 ^ 8 % 256)) (0 + 1 + 1 + 1 + 1 + 1) (us % 256)) ++ sw cB cI b sz st us mem pl ln) [4, 5, 0, 1, 2, 3] rfl
    have hD := hD.sub (ws' := ow cB o9 12550 (0 + 1 + 1 + 1 + 1 + 1 + 1) (va_up (va_up (va_up (va_up (va_up (va_up zf 0 (sz / 2 ^ 8 % 256)) (0 + 1) (sz % 256)) (0 + 1 + 1) (st / 2 ^ 8 % 256)) (0 + 1 + 1 + 1) (st % 256)) (0 + 1 + 1 + 1 + 1) (us / 2 ^ 8 % 256)) (0 + 1 + 1 + 1 + 1 + 1) (us % 256)) ++ sw cB cI b sz st us mem pl ln) [4, 5, 0, 1, 2, 3] (by decide) rfl
    have hP : va_P (dC, dI) vwCl (ow cB o9 12550 (0 + 1 + 1 + 1 + 1 + 1 + 1) (va_up (va_up (va_up (va_up (va_up (va_up zf 0 (sz / 2 ^ 8 % 256)) (0 + 1) (sz % 256)) (0 + 1 + 1) (st / 2 ^ 8 % 256)) (0 + 1 + 1 + 1) (st % 256)) (0 + 1 + 1 + 1 + 1) (us / 2 ^ 8 % 256)) (0 + 1 + 1 + 1 + 1 + 1) (us % 256)) ++ sw cB cI b sz st us mem pl ln) H := hP
    have hD : va_D A (ow cB o9 12550 (0 + 1 + 1 + 1 + 1 + 1 + 1) (va_up (va_up (va_up (va_up (va_up (va_up zf 0 (sz / 2 ^ 8 % 256)) (0 + 1) (sz % 256)) (0 + 1 + 1) (st / 2 ^ 8 % 256)) (0 + 1 + 1 + 1) (st % 256)) (0 + 1 + 1 + 1 + 1) (us / 2 ^ 8 % 256)) (0 + 1 + 1 + 1 + 1 + 1) (us % 256)) ++ sw cB cI b sz st us mem pl ln) := hD
    have pr0 := Pre_two (Pre_two (Pre_two (Pre_0 zf) sz) st) us
    have bc0 : ∀ j, (va_up (va_up (va_up (va_up (va_up (va_up zf 0 (sz / 2 ^ 8 % 256)) (0 + 1) (sz % 256)) (0 + 1 + 1) (st / 2 ^ 8 % 256)) (0 + 1 + 1 + 1) (st % 256)) (0 + 1 + 1 + 1 + 1) (us / 2 ^ 8 % 256)) (0 + 1 + 1 + 1 + 1 + 1) (us % 256)) j < 256 := fun j => up_lt (up_lt (up_lt (up_lt (up_lt (up_lt bcd (Nat.mod_lt _ (by decide))) (Nat.mod_lt _ (by decide))) (Nat.mod_lt _ (by decide))) (Nat.mod_lt _ (by decide))) (Nat.mod_lt _ (by decide))) (Nat.mod_lt _ (by decide)) j
    refine lv_iconst (v := (nI 0)) hx hb dX0_tell_49 (by decide) ?_
    refine lv_istore_n (lv' := [(2, .int (nI 0)), (0, .ref (o9 0)), (1, .ref (b 0))]) hx hb dX0_tell_50 rfl hl (by decide) rfl (fun ls hl => ?_)
    refine lp_world (σ := Nat × Nat × (Nat → Nat)) (fun ⟨i, g, f⟩ => i ≤ us ∧ Pre g f ([] ++ twoL sz ++ twoL st ++ twoL us ++ blkL pl ln i) ∧ g = 6 + 4 * i ∧ (∀ j, f j < 256)) (fun ⟨i, g, f⟩ => us - i) (fun ⟨i, g, f⟩ => [(2, .int (nI i)), (0, .ref (o9 0)), (1, .ref (b 0))]) (fun ⟨i, g, f⟩ => ow cB o9 12550 g f ++ sw cB cI b sz st us mem pl ln) ?_ ((0, 0 + 1 + 1 + 1 + 1 + 1 + 1, va_up (va_up (va_up (va_up (va_up (va_up zf 0 (sz / 2 ^ 8 % 256)) (0 + 1) (sz % 256)) (0 + 1 + 1) (st / 2 ^ 8 % 256)) (0 + 1 + 1 + 1) (st % 256)) (0 + 1 + 1 + 1 + 1) (us / 2 ^ 8 % 256)) (0 + 1 + 1 + 1 + 1 + 1) (us % 256))) (⟨by omega, by rw [show blkL pl ln 0 = [] from rfl, List.append_nil]; exact pr0, rfl, bc0⟩) (hP) (hD) hS (lv_sub hl [0, 1, 2] rfl)
    intro ⟨i, g, f⟩ hI ih H locs ls hP hD hS hl
    have hl : lv_has ls 3 [(2, .int (nI i)), (0, .ref (o9 0)), (1, .ref (b 0))] := hl
    have hP : va_P (dC, dI) vwCl (ow cB o9 12550 g f ++ sw cB cI b sz st us mem pl ln) H := hP
    have hD : va_D A (ow cB o9 12550 g f ++ sw cB cI b sz st us mem pl ln) := hD
    have hI : i ≤ us ∧ Pre g f ([] ++ twoL sz ++ twoL st ++ twoL us ++ blkL pl ln i) ∧ g = 6 + 4 * i ∧ (∀ j, f j < 256) := hI
    obtain ⟨hi, hpr, hg6, hbf⟩ := hI
    have ih_51 := ih
    refine lv_iload_n hx hb dX0_tell_51 rfl (lv_at hl 0 rfl) ?_
    refine lv_aload_n hx hb dX0_tell_52 rfl (lv_at hl 2 rfl) ?_
    refine va_get (D := (dC, dI)) (ci := 2) (v := .int (nI us)) (C := RX2) (T := TX2) (N := 6) hx hb hts in_X2 hown hK hP 2 rfl rfl 5 (by decide) lk_6 (fun _ h9 => h9) rfl dX0_tell_53 ?_
    refine lv_icmp_ge (tgt := 85) hx hb dX0_tell_56 (by decide) (fun c_56 => ?_) (fun c_56 => ?_)
    · have c_56 : us ≤ i := (nI_leI (a := us) (b := i) (by omega) (by omega)).mp c_56
      have hiu : i = us := by omega
      have pr1 : Pre g f ([] ++ twoL sz ++ twoL st ++ twoL us ++ blkL pl ln us) := by have q := hpr; rw [hiu] at q; exact q
      refine lv_aload_n hx hb dX0_tell_85 rfl (lv_at hl 1 rfl) ?_
      refine lv_aload_n hx hb dX0_tell_86 rfl (lv_at hl 2 rfl) ?_
      have hPc := hP.sub (ws' := ow cB o9 12550 g f ++ sw cB cI b sz st us mem pl ln) [0, 1, 2, 3, 4, 5] rfl
      have hKc := hK.sub (tys' := [(cI, .int), (cB, .byte)]) [0, 1] rfl
      have hDc := hD.sub (ws' := ow cB o9 12550 g f ++ sw cB cI b sz st us mem pl ln) [0, 1, 2, 3, 4, 5] (by decide) rfl
      have hFc := va_free (wc := ow cB o9 12550 g f ++ sw cB cI b sz st us mem pl ln) hD hS hA [0, 1, 2, 3, 4, 5] rfl
      refine va_callv (va_runV (As := [.ref (b 0)]) (rest := []) ⟨hx, hb, hml, hown, hts⟩ (c_X0_tellBytes l dC dI cB cI o9 b 12550 g f sz st us mem pl ln H.size ([] ++ twoL sz ++ twoL st ++ twoL us ++ blkL pl ln us) pr1 (by omega) (by omega) (by omega) bmem hbf) (cwV 1 hts gX0_tell_X0_tellBytes rfl rfl rfl (by decide +kernel) ⟨Nat.le_of_ble_eq_true rfl, Nat.le_of_ble_eq_true rfl⟩) ⟨fun a9 U g9 mk9 q9 => by obtain ⟨q0, q1, qP, qK, qD⟩ := q9; exact ⟨q0, q1, qP, va_K.moved (u := U) (U := U.calling g9 mk9 a9) (Vm.Alike.refl U.vm) qK, qD⟩, va_recv hKc hPc (ci := 0) (q0 := 0) rfl rfl, fun U hU hW => ⟨rfl, by rw [hU], by rw [hU]; exact hPc, va_K.moved hW.alike hKc, hDc.weaken (fun _ _ _ _ => trivial)⟩⟩ rfl rfl hl.1 rfl (lv_room (Nat.le_of_ble_eq_true rfl)) dX0_tell_87 ⟨Nat.le_of_ble_eq_true rfl, Nat.le_of_ble_eq_true rfl⟩) hS (fun q _ h => hFc q h) hFc (fun u t H1 locs ht9 hvm9 hw hB hz9 hk9 hS => ?_)
      obtain ⟨cs2, cd2⟩ := u
      try dsimp only at hw
      obtain ⟨hP1, hK1, hD1⟩ := hB
      rw [ht9] at hP1
      obtain ⟨hP, hD⟩ := va_join (wr := []) (w1 := ow cB o9 12550 cs2 cd2 ++ sw cB cI b sz st us mem pl ln) hP hD [0, 1, 2, 3, 4, 5] [] rfl rfl (by decide) (by decide) hk9 hFc hP1 hD1
      generalize H1 = H at hP hS ⊢
      have hP := hP.sub (ws' := ow cB o9 12550 cs2 cd2 ++ sw cB cI b sz st us mem pl ln) [0, 1, 2, 3, 4, 5] rfl
      have hD := hD.sub (ws' := ow cB o9 12550 cs2 cd2 ++ sw cB cI b sz st us mem pl ln) [0, 1, 2, 3, 4, 5] (by decide) rfl
      have hP : va_P (dC, dI) vwCl (ow cB o9 12550 cs2 cd2 ++ sw cB cI b sz st us mem pl ln) H := hP
      have hD : va_D A (ow cB o9 12550 cs2 cd2 ++ sw cB cI b sz st us mem pl ln) := hD
      obtain ⟨hw1, hw2, hw3⟩ := hw
      refine W.widen (k := 1) (n := 12550) (Nat.le_of_ble_eq_true rfl) (Nat.le_of_ble_eq_true rfl) ?_
      exact W.vret hx hb hr (fun t ht hW => ⟨⟨(o9, cs2, cd2), rfl, ⟨e0, by unfold wcode; simpa [List.append_assoc] using hw1, hw2, hw3⟩, by rw [ht]; exact hP, va_K.moved hW.alike hK, hD⟩, hS.F ht⟩) hS.2.2 dX0_tell_90
    · have c_56 : ¬ us ≤ i := fun q => c_56 ((nI_leI (a := us) (b := i) (by omega) (by omega)).mpr q)
      refine lv_aload_n hx hb dX0_tell_59 rfl (lv_at hl 1 rfl) ?_
      refine lv_aload_n hx hb dX0_tell_60 rfl (lv_at hl 2 rfl) ?_
      refine va_get (D := (dC, dI)) (ci := 2) (v := .ref (b 2)) (C := RX2) (T := TX2) (N := 6) hx hb hts in_X2 hown hK hP 2 rfl rfl 1 (by decide) lk_7 (fun _ h9 => h9) rfl dX0_tell_61 ?_
      refine lv_iload_n hx hb dX0_tell_64 rfl (lv_at hl 0 rfl) ?_
      refine va_iald hx hb hK hP 4 0 rfl rfl (vp_in_nI (by omega) (by omega)) dX0_tell_65 ?_
      refine tpi (nf_at (by omega)) ?_
      have w_65 := bpl i
      have hPc := hP.sub (ws' := ow cB o9 12550 g f) [0, 1] rfl
      have hKc := hK.sub (tys' := [(cB, .byte)]) [1] rfl
      have hDc := hD.sub (ws' := ow cB o9 12550 g f) [0, 1] (by decide) rfl
      have hFc := va_free (wc := ow cB o9 12550 g f) hD hS hA [0, 1] rfl
      refine va_callv (va_runV (As := [.int (nI (pl i))]) (rest := []) ⟨hx, hb, hml, hown, hts⟩ (c_X0_appendPair l dC dI cB o9 12550 g f H.size (pl i) (by omega) (by omega) (by omega)) (cwV 1 hts gX0_tell_X0_appendPair rfl rfl rfl (by decide +kernel) ⟨Nat.le_of_ble_eq_true rfl, Nat.le_of_ble_eq_true rfl⟩) ⟨fun a9 U g9 mk9 q9 => by obtain ⟨q0, q1, qP, qK, qD⟩ := q9; exact ⟨q0, q1, qP, va_K.moved (u := U) (U := U.calling g9 mk9 a9) (Vm.Alike.refl U.vm) qK, qD⟩, va_recv hKc hPc (ci := 0) (q0 := 0) rfl rfl, fun U hU hW => ⟨rfl, by rw [hU], by rw [hU]; exact hPc, va_K.moved hW.alike hKc, hDc.weaken (fun _ _ _ _ => trivial)⟩⟩ rfl rfl hl.1 rfl (lv_room (Nat.le_of_ble_eq_true rfl)) dX0_tell_66 ⟨Nat.le_of_ble_eq_true rfl, Nat.le_of_ble_eq_true rfl⟩) hS (fun q _ h => hFc q h) hFc (fun u t H1 locs ht9 hvm9 hw hB hz9 hk9 hS => ?_)
      obtain ⟨hP1, hK1, hD1⟩ := hB
      rw [ht9] at hP1
      obtain ⟨hP, hD⟩ := va_join (wr := sw cB cI b sz st us mem pl ln) (w1 := ow cB o9 12550 (g + 1 + 1) (va_up (va_up f g ((pl i) / 2 ^ 8 % 256)) (g + 1) ((pl i) % 256))) hP hD [0, 1] [2, 3, 4, 5] rfl rfl (by decide) (by decide) hk9 hFc hP1 hD1
      generalize H1 = H at hP hS ⊢
      have hP := hP.sub (ws' := ow cB o9 12550 (g + 1 + 1) (va_up (va_up f g ((pl i) / 2 ^ 8 % 256)) (g + 1) ((pl i) % 256)) ++ sw cB cI b sz st us mem pl ln) [4, 5, 0, 1, 2, 3] rfl
      have hD := hD.sub (ws' := ow cB o9 12550 (g + 1 + 1) (va_up (va_up f g ((pl i) / 2 ^ 8 % 256)) (g + 1) ((pl i) % 256)) ++ sw cB cI b sz st us mem pl ln) [4, 5, 0, 1, 2, 3] (by decide) rfl
      have hP : va_P (dC, dI) vwCl (ow cB o9 12550 (g + 1 + 1) (va_up (va_up f g ((pl i) / 2 ^ 8 % 256)) (g + 1) ((pl i) % 256)) ++ sw cB cI b sz st us mem pl ln) H := hP
      have hD : va_D A (ow cB o9 12550 (g + 1 + 1) (va_up (va_up f g ((pl i) / 2 ^ 8 % 256)) (g + 1) ((pl i) % 256)) ++ sw cB cI b sz st us mem pl ln) := hD
      refine lv_aload_n hx hb dX0_tell_69 rfl (lv_at hl 1 rfl) ?_
      refine lv_aload_n hx hb dX0_tell_70 rfl (lv_at hl 2 rfl) ?_
      refine va_get (D := (dC, dI)) (ci := 2) (v := .ref (b 3)) (C := RX2) (T := TX2) (N := 6) hx hb hts in_X2 hown hK hP 2 rfl rfl 2 (by decide) lk_8 (fun _ h9 => h9) rfl dX0_tell_71 ?_
      refine lv_iload_n hx hb dX0_tell_74 rfl (lv_at hl 0 rfl) ?_
      refine va_iald hx hb hK hP 5 0 rfl rfl (vp_in_nI (by omega) (by omega)) dX0_tell_75 ?_
      refine tpi (nf_at (by omega)) ?_
      have w_75 := bln i
      have hPc := hP.sub (ws' := ow cB o9 12550 (g + 1 + 1) (va_up (va_up f g ((pl i) / 2 ^ 8 % 256)) (g + 1) ((pl i) % 256))) [0, 1] rfl
      have hKc := hK.sub (tys' := [(cB, .byte)]) [1] rfl
      have hDc := hD.sub (ws' := ow cB o9 12550 (g + 1 + 1) (va_up (va_up f g ((pl i) / 2 ^ 8 % 256)) (g + 1) ((pl i) % 256))) [0, 1] (by decide) rfl
      have hFc := va_free (wc := ow cB o9 12550 (g + 1 + 1) (va_up (va_up f g ((pl i) / 2 ^ 8 % 256)) (g + 1) ((pl i) % 256))) hD hS hA [0, 1] rfl
      refine va_callv (va_runV (As := [.int (nI (ln i))]) (rest := []) ⟨hx, hb, hml, hown, hts⟩ (c_X0_appendPair l dC dI cB o9 12550 (g + 1 + 1) (va_up (va_up f g ((pl i) / 2 ^ 8 % 256)) (g + 1) ((pl i) % 256)) H.size (ln i) (by omega) (by omega) (by omega)) (cwV 1 hts gX0_tell_X0_appendPair rfl rfl rfl (by decide +kernel) ⟨Nat.le_of_ble_eq_true rfl, Nat.le_of_ble_eq_true rfl⟩) ⟨fun a9 U g9 mk9 q9 => by obtain ⟨q0, q1, qP, qK, qD⟩ := q9; exact ⟨q0, q1, qP, va_K.moved (u := U) (U := U.calling g9 mk9 a9) (Vm.Alike.refl U.vm) qK, qD⟩, va_recv hKc hPc (ci := 0) (q0 := 0) rfl rfl, fun U hU hW => ⟨rfl, by rw [hU], by rw [hU]; exact hPc, va_K.moved hW.alike hKc, hDc.weaken (fun _ _ _ _ => trivial)⟩⟩ rfl rfl hl.1 rfl (lv_room (Nat.le_of_ble_eq_true rfl)) dX0_tell_76 ⟨Nat.le_of_ble_eq_true rfl, Nat.le_of_ble_eq_true rfl⟩) hS (fun q _ h => hFc q h) hFc (fun u t H1 locs ht9 hvm9 hw hB hz9 hk9 hS => ?_)
      obtain ⟨hP1, hK1, hD1⟩ := hB
      rw [ht9] at hP1
      obtain ⟨hP, hD⟩ := va_join (wr := sw cB cI b sz st us mem pl ln) (w1 := ow cB o9 12550 (g + 1 + 1 + 1 + 1) (va_up (va_up (va_up (va_up f g ((pl i) / 2 ^ 8 % 256)) (g + 1) ((pl i) % 256)) (g + 1 + 1) ((ln i) / 2 ^ 8 % 256)) (g + 1 + 1 + 1) ((ln i) % 256))) hP hD [0, 1] [2, 3, 4, 5] rfl rfl (by decide) (by decide) hk9 hFc hP1 hD1
      generalize H1 = H at hP hS ⊢
      have hP := hP.sub (ws' := ow cB o9 12550 (g + 1 + 1 + 1 + 1) (va_up (va_up (va_up (va_up f g ((pl i) / 2 ^ 8 % 256)) (g + 1) ((pl i) % 256)) (g + 1 + 1) ((ln i) / 2 ^ 8 % 256)) (g + 1 + 1 + 1) ((ln i) % 256)) ++ sw cB cI b sz st us mem pl ln) [4, 5, 0, 1, 2, 3] rfl
      have hD := hD.sub (ws' := ow cB o9 12550 (g + 1 + 1 + 1 + 1) (va_up (va_up (va_up (va_up f g ((pl i) / 2 ^ 8 % 256)) (g + 1) ((pl i) % 256)) (g + 1 + 1) ((ln i) / 2 ^ 8 % 256)) (g + 1 + 1 + 1) ((ln i) % 256)) ++ sw cB cI b sz st us mem pl ln) [4, 5, 0, 1, 2, 3] (by decide) rfl
      have hP : va_P (dC, dI) vwCl (ow cB o9 12550 (g + 1 + 1 + 1 + 1) (va_up (va_up (va_up (va_up f g ((pl i) / 2 ^ 8 % 256)) (g + 1) ((pl i) % 256)) (g + 1 + 1) ((ln i) / 2 ^ 8 % 256)) (g + 1 + 1 + 1) ((ln i) % 256)) ++ sw cB cI b sz st us mem pl ln) H := hP
      have hD : va_D A (ow cB o9 12550 (g + 1 + 1 + 1 + 1) (va_up (va_up (va_up (va_up f g ((pl i) / 2 ^ 8 % 256)) (g + 1) ((pl i) % 256)) (g + 1 + 1) ((ln i) / 2 ^ 8 % 256)) (g + 1 + 1 + 1) ((ln i) % 256)) ++ sw cB cI b sz st us mem pl ln) := hD
      refine lv_iinc (v := (nI (i + 1))) (lv' := [(2, .int (nI (i + 1))), (0, .ref (o9 0)), (1, .ref (b 0))]) hx hb dX0_tell_79 hl (k := 0) rfl (nI_inc _) (by decide) rfl (fun ls hl => ?_)
      refine lv_goto (tgt := 51) hx hb dX0_tell_82 (by decide) ?_
      exact ih_51 (i + 1, g + 1 + 1 + 1 + 1, va_up (va_up (va_up (va_up f g ((pl i) / 2 ^ 8 % 256)) (g + 1) ((pl i) % 256)) (g + 1 + 1) ((ln i) / 2 ^ 8 % 256)) (g + 1 + 1 + 1) ((ln i) % 256)) (⟨by omega, by have q := Pre_two (Pre_two hpr (pl i)) (ln i); rw [List.append_assoc, List.append_assoc] at q; exact q, by omega, fun j => up_lt (up_lt (up_lt (up_lt hbf (Nat.mod_lt _ (by decide))) (Nat.mod_lt _ (by decide))) (Nat.mod_lt _ (by decide))) (Nat.mod_lt _ (by decide)) j⟩) (show us - (i + 1) < us - i by omega) H locs ls (hP) (hD) hS (lv_sub hl [0, 1, 2] rfl)
set_option maxHeartbeats 4000000 in
set_option maxRecDepth 100000 in
theorem c_X3_writeO (l : Launch) (dC : Nat → ClassId) (dI : Nat → Nat → Nat) (cB cI cS : ClassId) (h kq : Nat) (sp : Option Nat) (k o b : Nat → Nat) (kp : Nat) (ga : Nat) (gl : Nat) (oz : Nat) (cs : Nat) (cd : Nat → Nat) (sz : Nat) (st : Nat) (us : Nat) (mem : Nat → Nat) (pl : Nat → Nat) (ln : Nat → Nat) (zz : Nat)  (gw9 : wfB sz st us pl ln) (bmem : ∀ j, mem j < 256) (bpl : ∀ j, pl j < 2 ^ 31) (bln : ∀ j, ln j < 2 ^ 31) (g0 : oz = 12550) (bcd : ∀ j, cd j < 256) : Met l yX3_write wsX3_write ({ frames := 5, cells := 0, slots := 0, locals := 111 }) (va_Pc [.ref h] (fun U => U.heap.size = zz ∧ va_P (dC, dI) vwCl (gw h kq sp k o b kp ga gl ++ ow cB o oz cs cd ++ sw cB cI b sz st us mem pl ln) U.heap ∧ va_K (dC, dI) vwCl [(cI, .int), (cB, .byte)] U ∧ va_D (fun _ => True) (gw h kq sp k o b kp ga gl ++ ow cB o oz cs cd ++ sw cB cI b sz st us mem pl ln))) (va_Qi (fun (r : Int32) (u : Nat × (Nat → Nat)) => match u with | ⟨cs2, cd2⟩ => r = nI cs2 ∧ Pre cs2 cd2 (wcode sz st us pl ln mem) ∧ cs2 ≤ oz ∧ ∀ j, cd2 j < 256) (fun (u : Nat × (Nat → Nat)) t => match u with | ⟨cs2, cd2⟩ => va_P (dC, dI) vwCl (gw h kq sp k o b kp ga gl ++ ow cB o oz cs2 cd2 ++ sw cB cI b sz st us mem pl ln) t.heap ∧ va_K (dC, dI) vwCl [(cI, .int), (cB, .byte)] t ∧ va_D (va_A (gw h kq sp k o b kp ga gl ++ ow cB o oz cs cd ++ sw cB cI b sz st us mem pl ln) zz) (gw h kq sp k o b kp ga gl ++ ow cB o oz cs2 cd2 ++ sw cB cI b sz st us mem pl ln)) (va_A (gw h kq sp k o b kp ga gl ++ ow cB o oz cs cd ++ sw cB cI b sz st us mem pl ln) zz)) 0 0 (va_A (gw h kq sp k o b kp ga gl ++ ow cB o oz cs cd ++ sw cB cI b sz st us mem pl ln) zz) := by
  refine Met.ofW (cc := cX3_write) (maxL := 1) (ret := (some .int)) (by decide) rfl ?_
  intro p e s m args below meth c s₁ B hml hv
  obtain ⟨rfl, hsz, hP, hK, hD0⟩ := hv
  have hx := B.exec
  have hb := B.bytes
  have hr := B.returns
  have hts := atoms_spec (ws := wsX3_write) B.pre
  have hown : s.vm.findClass RX3 = some m.cls := findClass_of_methodNamed B.named
  have hlocks := B.notSynchronized
  subst hsz
  have hD := hD0.self (sz := s.heap.size)
  generalize hAe : va_A (gw h kq sp k o b kp ga gl ++ ow cB o oz cs cd ++ sw cB cI b sz st us mem pl ln) s.heap.size = A at hD ⊢
  have hA : ∀ q : Nat, s.heap.size ≤ q → A q := fun q h => by rw [← hAe]; exact Or.inr h
  have hS : va_S A s.heap s.heap [] := va_S.rf
  have hP : va_P (dC, dI) vwCl (gw h kq sp k o b kp ga gl ++ ow cB o oz cs cd ++ sw cB cI b sz st us mem pl ln) s.heap := hP
  have in_X0 : ∀ w ∈ wsX00, w ∈ wsX3_write := fun _ h => List.mem_cons_of_mem _ (List.mem_append_left _ (List.mem_append_right _ (h)))
  have in_X3 : ∀ w ∈ wsX30, w ∈ wsX3_write := fun _ h => List.mem_cons_of_mem _ (List.mem_append_left _ (List.mem_append_left _ (List.mem_append_right _ (h))))
  have lk_1 := hts (.fieldLink RX3 25 "GlulxHeap" "script" "LGlulxHeap$Code;") (List.mem_of_getElem? (i := 1) rfl)
  have lk_2 := hts (.fieldLink RX3 30 "GlulxHeap" "now" "LGlulxHeap$State;") (List.mem_of_getElem? (i := 2) rfl)
  have lk_3 := hts (.fieldLink RX3 187 "GlulxHeap$Code" "length" "I") (List.mem_of_getElem? (i := 3) rfl)
  have hl := lv_entry ([.ref h]) (n := 1) (Nat.le_of_ble_eq_true rfl)
  rw [lg_entry_eq]
  generalize (lg_sl ([.ref h]) ++ List.replicate (1 - (lg_sl ([.ref h])).length) Slot.unset).toArray = ls at hl ⊢
  have hl : lv_has ls 1 [(0, .ref h)] := hl
  refine lv_aload_n hx hb dX3_write_0 rfl (lv_at hl 0 rfl) ?_
  refine va_get (D := (dC, dI)) (ci := 3) (v := .ref (o 0)) (C := RX3) (T := TX3) (N := 8) hx hb hts in_X3 hown hK hP 0 rfl rfl 2 (by decide) lk_1 (fun _ h9 => h9) rfl dX3_write_1 ?_
  refine lv_aload_n hx hb dX3_write_4 rfl (lv_at hl 0 rfl) ?_
  refine va_get (D := (dC, dI)) (ci := 3) (v := .ref (b 0)) (C := RX3) (T := TX3) (N := 8) hx hb hts in_X3 hown hK hP 0 rfl rfl 3 (by decide) lk_2 (fun _ h9 => h9) rfl dX3_write_5 ?_
  have hPc := hP.sub (ws' := ow cB o oz cs cd ++ sw cB cI b sz st us mem pl ln) [1, 2, 3, 4, 5, 6] rfl
  have hKc := hK.sub (tys' := [(cI, .int), (cB, .byte)]) [0, 1] rfl
  have hDc := hD.sub (ws' := ow cB o oz cs cd ++ sw cB cI b sz st us mem pl ln) [1, 2, 3, 4, 5, 6] (by decide) rfl
  have hFc := va_free (wc := ow cB o oz cs cd ++ sw cB cI b sz st us mem pl ln) hD hS hA [1, 2, 3, 4, 5, 6] rfl
  refine va_callv (va_runV (As := [.ref (b 0)]) (rest := []) ⟨hx, hb, hml, hown, hts⟩ (c_X0_tell l dC dI cB cI o b oz cs cd sz st us mem pl ln s.heap.size gw9 (by omega) bmem bpl bln bcd) (cwV 1 hts gX3_write_X0_tell rfl rfl rfl (by decide +kernel) ⟨Nat.le_of_ble_eq_true rfl, Nat.le_of_ble_eq_true rfl⟩) ⟨fun a9 U g9 mk9 q9 => by obtain ⟨q0, q1, qP, qK, qD⟩ := q9; exact ⟨q0, q1, qP, va_K.moved (u := U) (U := U.calling g9 mk9 a9) (Vm.Alike.refl U.vm) qK, qD⟩, va_recv hKc hPc (ci := 0) (q0 := 0) rfl rfl, fun U hU hW => ⟨rfl, by rw [hU], by rw [hU]; exact hPc, va_K.moved hW.alike hKc, hDc.weaken (fun _ _ _ _ => trivial)⟩⟩ rfl rfl hl.1 rfl (lv_room (Nat.le_of_ble_eq_true rfl)) dX3_write_8 ⟨Nat.zero_le _, Nat.zero_le _⟩) hS (fun q _ h => hFc q h) hFc (fun u t H1 locs ht9 hvm9 hw hB hz9 hk9 hS => ?_)
  obtain ⟨cs2, cd2⟩ := u
  try dsimp only at hw
  obtain ⟨hP1, hK1, hD1⟩ := hB
  rw [ht9] at hP1
  obtain ⟨hP, hD⟩ := va_join (wr := gw h kq sp k o b kp ga gl) (w1 := ow cB o oz cs2 cd2 ++ sw cB cI b sz st us mem pl ln) hP hD [1, 2, 3, 4, 5, 6] [0] rfl rfl (by decide) (by decide) hk9 hFc hP1 hD1
  generalize H1 = H at hP hS ⊢
  have hP := hP.sub (ws' := gw h kq sp k o b kp ga gl ++ ow cB o oz cs2 cd2 ++ sw cB cI b sz st us mem pl ln) [0, 1, 2, 3, 4, 5, 6] rfl
  have hD := hD.sub (ws' := gw h kq sp k o b kp ga gl ++ ow cB o oz cs2 cd2 ++ sw cB cI b sz st us mem pl ln) [0, 1, 2, 3, 4, 5, 6] (by decide) rfl
  have hP : va_P (dC, dI) vwCl (gw h kq sp k o b kp ga gl ++ ow cB o oz cs2 cd2 ++ sw cB cI b sz st us mem pl ln) H := hP
  have hD : va_D A (gw h kq sp k o b kp ga gl ++ ow cB o oz cs2 cd2 ++ sw cB cI b sz st us mem pl ln) := hD
  obtain ⟨hw1, hw2, hw3⟩ := hw
  refine lv_aload_n hx hb dX3_write_11 rfl (lv_at hl 0 rfl) ?_
  refine va_get (D := (dC, dI)) (ci := 3) (v := .ref (o 0)) (C := RX3) (T := TX3) (N := 8) hx hb hts in_X3 hown hK hP 0 rfl rfl 2 (by decide) lk_1 (fun _ h9 => h9) rfl dX3_write_12 ?_
  refine va_get (D := (dC, dI)) (ci := 0) (v := .int (nI cs2)) (C := RX0) (T := TX0) (N := 2) hx hb hts in_X0 hown hK hP 1 rfl rfl 1 (by decide) lk_3 (fun _ h9 => h9) rfl dX3_write_15 ?_
  exact W.iret (v := (nI cs2)) hx hb hr (fun t ht hW => ⟨⟨(nI cs2), (cs2, cd2), rfl, ⟨rfl, hw1, hw2, hw3⟩, by rw [ht]; exact hP, va_K.moved hW.alike hK, hD⟩, hS.F ht⟩) hS.2.2 dX3_write_18
set_option maxHeartbeats 4000000 in
set_option maxRecDepth 100000 in
theorem c_X3_writeN (l : Launch) (dC : Nat → ClassId) (dI : Nat → Nat → Nat) (cB cI cS : ClassId) (h kq : Nat) (sp : Option Nat) (k o b : Nat → Nat) (kp : Nat) (ga : Nat) (gl : Nat) (oz : Nat) (cs : Nat) (cd : Nat → Nat) (sz : Nat) (st : Nat) (us : Nat) (mem : Nat → Nat) (pl : Nat → Nat) (ln : Nat → Nat) (zz : Nat)  (gw9 : wfB sz st us pl ln) (bmem : ∀ j, mem j < 256) (bpl : ∀ j, pl j < 2 ^ 31) (bln : ∀ j, ln j < 2 ^ 31) (g00 : oz < 12550) : Met l yX3_write wsX3_write ({ frames := 5, cells := 1, slots := 12550, locals := 111 }) (va_Pc [.ref h] (fun U => U.heap.size = zz ∧ va_P (dC, dI) vwCl (gw h kq sp k o b kp ga gl ++ ow cB o oz cs cd ++ sw cB cI b sz st us mem pl ln) U.heap ∧ va_K (dC, dI) vwCl [(cI, .int), (cB, .byte)] U ∧ va_D (fun _ => True) (gw h kq sp k o b kp ga gl ++ ow cB o oz cs cd ++ sw cB cI b sz st us mem pl ln))) (va_Qi (fun (r : Int32) (u : (Nat → Nat) × Nat × (Nat → Nat)) => match u with | ⟨o2, cs2, cd2⟩ => (r = nI cs2 ∧ o2 0 = o 0) ∧ Pre cs2 cd2 (wcode sz st us pl ln mem) ∧ cs2 ≤ 12550 ∧ ∀ j, cd2 j < 256) (fun (u : (Nat → Nat) × Nat × (Nat → Nat)) t => match u with | ⟨o2, cs2, cd2⟩ => va_P (dC, dI) vwCl (gw h kq sp k o2 b kp ga gl ++ ow cB o2 12550 cs2 cd2 ++ sw cB cI b sz st us mem pl ln) t.heap ∧ va_K (dC, dI) vwCl [(cI, .int), (cB, .byte)] t ∧ va_D (va_A (gw h kq sp k o b kp ga gl ++ ow cB o oz cs cd ++ sw cB cI b sz st us mem pl ln) zz) (gw h kq sp k o2 b kp ga gl ++ ow cB o2 12550 cs2 cd2 ++ sw cB cI b sz st us mem pl ln)) (va_A (gw h kq sp k o b kp ga gl ++ ow cB o oz cs cd ++ sw cB cI b sz st us mem pl ln) zz)) 1 12550 (va_A (gw h kq sp k o b kp ga gl ++ ow cB o oz cs cd ++ sw cB cI b sz st us mem pl ln) zz) := by
  refine Met.ofW (cc := cX3_write) (maxL := 1) (ret := (some .int)) (by decide) rfl ?_
  intro p e s m args below meth c s₁ B hml hv
  obtain ⟨rfl, hsz, hP, hK, hD0⟩ := hv
  have hx := B.exec
  have hb := B.bytes
  have hr := B.returns
  have hts := atoms_spec (ws := wsX3_write) B.pre
  have hown : s.vm.findClass RX3 = some m.cls := findClass_of_methodNamed B.named
  have hlocks := B.notSynchronized
  subst hsz
  have hD := hD0.self (sz := s.heap.size)
  generalize hAe : va_A (gw h kq sp k o b kp ga gl ++ ow cB o oz cs cd ++ sw cB cI b sz st us mem pl ln) s.heap.size = A at hD ⊢
  have hA : ∀ q : Nat, s.heap.size ≤ q → A q := fun q h => by rw [← hAe]; exact Or.inr h
  have hS : va_S A s.heap s.heap [] := va_S.rf
  have hP : va_P (dC, dI) vwCl (gw h kq sp k o b kp ga gl ++ ow cB o oz cs cd ++ sw cB cI b sz st us mem pl ln) s.heap := hP
  have in_X0 : ∀ w ∈ wsX00, w ∈ wsX3_write := fun _ h => List.mem_cons_of_mem _ (List.mem_append_left _ (List.mem_append_right _ (h)))
  have in_X3 : ∀ w ∈ wsX30, w ∈ wsX3_write := fun _ h => List.mem_cons_of_mem _ (List.mem_append_left _ (List.mem_append_left _ (List.mem_append_right _ (h))))
  have lk_1 := hts (.fieldLink RX3 25 "GlulxHeap" "script" "LGlulxHeap$Code;") (List.mem_of_getElem? (i := 1) rfl)
  have lk_2 := hts (.fieldLink RX3 30 "GlulxHeap" "now" "LGlulxHeap$State;") (List.mem_of_getElem? (i := 2) rfl)
  have lk_3 := hts (.fieldLink RX3 187 "GlulxHeap$Code" "length" "I") (List.mem_of_getElem? (i := 3) rfl)
  have hl := lv_entry ([.ref h]) (n := 1) (Nat.le_of_ble_eq_true rfl)
  rw [lg_entry_eq]
  generalize (lg_sl ([.ref h]) ++ List.replicate (1 - (lg_sl ([.ref h])).length) Slot.unset).toArray = ls at hl ⊢
  have hl : lv_has ls 1 [(0, .ref h)] := hl
  refine lv_aload_n hx hb dX3_write_0 rfl (lv_at hl 0 rfl) ?_
  refine va_get (D := (dC, dI)) (ci := 3) (v := .ref (o 0)) (C := RX3) (T := TX3) (N := 8) hx hb hts in_X3 hown hK hP 0 rfl rfl 2 (by decide) lk_1 (fun _ h9 => h9) rfl dX3_write_1 ?_
  refine lv_aload_n hx hb dX3_write_4 rfl (lv_at hl 0 rfl) ?_
  refine va_get (D := (dC, dI)) (ci := 3) (v := .ref (b 0)) (C := RX3) (T := TX3) (N := 8) hx hb hts in_X3 hown hK hP 0 rfl rfl 3 (by decide) lk_2 (fun _ h9 => h9) rfl dX3_write_5 ?_
  have hPc := hP.sub (ws' := ow cB o oz cs cd ++ sw cB cI b sz st us mem pl ln) [1, 2, 3, 4, 5, 6] rfl
  have hKc := hK.sub (tys' := [(cI, .int), (cB, .byte)]) [0, 1] rfl
  have hDc := hD.sub (ws' := ow cB o oz cs cd ++ sw cB cI b sz st us mem pl ln) [1, 2, 3, 4, 5, 6] (by decide) rfl
  have hFc := va_free (wc := ow cB o oz cs cd ++ sw cB cI b sz st us mem pl ln) hD hS hA [1, 2, 3, 4, 5, 6] rfl
  refine va_callv (va_runV (As := [.ref (b 0)]) (rest := []) ⟨hx, hb, hml, hown, hts⟩ (c_X0_tell0 l dC dI cB cI o b oz cs cd sz st us mem pl ln s.heap.size gw9 (by omega) bmem bpl bln) (cwV 1 hts gX3_write_X0_tell rfl rfl rfl (by decide +kernel) ⟨Nat.le_of_ble_eq_true rfl, Nat.le_of_ble_eq_true rfl⟩) ⟨fun a9 U g9 mk9 q9 => by obtain ⟨q0, q1, qP, qK, qD⟩ := q9; exact ⟨q0, q1, qP, va_K.moved (u := U) (U := U.calling g9 mk9 a9) (Vm.Alike.refl U.vm) qK, qD⟩, va_recv hKc hPc (ci := 0) (q0 := 0) rfl rfl, fun U hU hW => ⟨rfl, by rw [hU], by rw [hU]; exact hPc, va_K.moved hW.alike hKc, hDc.weaken (fun _ _ _ _ => trivial)⟩⟩ rfl rfl hl.1 rfl (lv_room (Nat.le_of_ble_eq_true rfl)) dX3_write_8 ⟨Nat.le_of_ble_eq_true rfl, Nat.le_of_ble_eq_true rfl⟩) hS (fun q _ h => hFc q h) hFc (fun u t H1 locs ht9 hvm9 hw hB hz9 hk9 hS => ?_)
  obtain ⟨o2, cs2, cd2⟩ := u
  try dsimp only at hw
  obtain ⟨hP1, hK1, hD1⟩ := hB
  rw [ht9] at hP1
  obtain ⟨hP, hD⟩ := va_join (wr := gw h kq sp k o b kp ga gl) (w1 := ow cB o2 12550 cs2 cd2 ++ sw cB cI b sz st us mem pl ln) hP hD [1, 2, 3, 4, 5, 6] [0] rfl rfl (by decide) (by decide) hk9 hFc hP1 hD1
  generalize H1 = H at hP hS ⊢
  have hP := hP.sub (ws' := gw h kq sp k o b kp ga gl ++ ow cB o2 12550 cs2 cd2 ++ sw cB cI b sz st us mem pl ln) [0, 1, 2, 3, 4, 5, 6] rfl
  have hD := hD.sub (ws' := gw h kq sp k o b kp ga gl ++ ow cB o2 12550 cs2 cd2 ++ sw cB cI b sz st us mem pl ln) [0, 1, 2, 3, 4, 5, 6] (by decide) rfl
  have hP : va_P (dC, dI) vwCl (gw h kq sp k o b kp ga gl ++ ow cB o2 12550 cs2 cd2 ++ sw cB cI b sz st us mem pl ln) H := hP
  have hD : va_D A (gw h kq sp k o b kp ga gl ++ ow cB o2 12550 cs2 cd2 ++ sw cB cI b sz st us mem pl ln) := hD
  obtain ⟨e0, hw1, hw2, hw3⟩ := hw
  have eg : gw h kq sp k o b kp ga gl = gw h kq sp k o2 b kp ga gl := by unfold gw; rw [e0]
  rw [eg] at hP hD
  have hP : va_P (dC, dI) vwCl (gw h kq sp k o2 b kp ga gl ++ ow cB o2 12550 cs2 cd2 ++ sw cB cI b sz st us mem pl ln) H := hP
  have hD : va_D A (gw h kq sp k o2 b kp ga gl ++ ow cB o2 12550 cs2 cd2 ++ sw cB cI b sz st us mem pl ln) := hD
  refine lv_aload_n hx hb dX3_write_11 rfl (lv_at hl 0 rfl) ?_
  refine va_get (D := (dC, dI)) (ci := 3) (v := .ref (o2 0)) (C := RX3) (T := TX3) (N := 8) hx hb hts in_X3 hown hK hP 0 rfl rfl 2 (by decide) lk_1 (fun _ h9 => h9) rfl dX3_write_12 ?_
  refine va_get (D := (dC, dI)) (ci := 0) (v := .int (nI cs2)) (C := RX0) (T := TX0) (N := 2) hx hb hts in_X0 hown hK hP 1 rfl rfl 1 (by decide) lk_3 (fun _ h9 => h9) rfl dX3_write_15 ?_
  refine W.widen (k := 1) (n := 12550) (Nat.le_of_ble_eq_true rfl) (Nat.le_of_ble_eq_true rfl) ?_
  exact W.iret (v := (nI cs2)) hx hb hr (fun t ht hW => ⟨⟨(nI cs2), (o2, cs2, cd2), rfl, ⟨⟨rfl, e0⟩, hw1, hw2, hw3⟩, by rw [ht]; exact hP, va_K.moved hW.alike hK, hD⟩, hS.F ht⟩) hS.2.2 dX3_write_18
