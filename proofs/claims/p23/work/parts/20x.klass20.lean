set_option maxHeartbeats 4000000 in
set_option maxRecDepth 100000 in
theorem c_X3_init (l : Launch) (dC : Nat → ClassId) (dI : Nat → Nat → Nat) (h zz : Nat) : Met l yX3_init wsX3_init ({ frames := 2, cells := 9, slots := 8398, locals := 44 }) (va_Pc [.ref h] (fun U => U.heap.size = zz ∧ va_P (dC, dI) vwCl [(h, .inr (3, [.null, .null, .null, .null, .null, .int (nI 0), .int (nI 0), .int (nI 0)]))] U.heap ∧ va_K (dC, dI) vwCl [] U ∧ va_D (fun _ => True) [(h, .inr (3, [.null, .null, .null, .null, .null, .int (nI 0), .int (nI 0), .int (nI 0)]))] ∧ va_AO RX2 U ∧ va_Nw (.methodLinkNest RX3 17 yX1_init "GlulxHeap") U ∧ va_Nw (.methodLinkNest RX3 24 yX0_init "GlulxHeap") U ∧ va_Nw (.methodLinkNest RX3 29 yX2_init "GlulxHeap") U)) (va_Qv (fun (_ : ClassId × ClassId × ClassId × Nat × (Nat → Nat) × (Nat → Nat) × (Nat → Nat)) => True) (fun (u : ClassId × ClassId × ClassId × Nat × (Nat → Nat) × (Nat → Nat) × (Nat → Nat)) t => match u with | ⟨cB, cI, cS, kq, k, o, b⟩ => va_P (dC, dI) vwCl (gw h kq none k o b 0 0 0 ++ kw cB k 0 zf ++ ow cB o 0 0 zf ++ sw cB cI b 1024 0 0 (outW (zr zf 0 8192) fst 0 64) zf zf ++ krw cS kq (fun _ => none)) t.heap ∧ va_K (dC, dI) vwCl [(cI, .int), (cB, .byte), (cS, .object "GlulxHeap$State")] t ∧ va_D (va_A [(h, .inr (3, [.null, .null, .null, .null, .null, .int (nI 0), .int (nI 0), .int (nI 0)]))] zz) (gw h kq none k o b 0 0 0 ++ kw cB k 0 zf ++ ow cB o 0 0 zf ++ sw cB cI b 1024 0 0 (outW (zr zf 0 8192) fst 0 64) zf zf ++ krw cS kq (fun _ => none))) (va_A [(h, .inr (3, [.null, .null, .null, .null, .null, .int (nI 0), .int (nI 0), .int (nI 0)]))] zz)) 9 8398 (va_A [(h, .inr (3, [.null, .null, .null, .null, .null, .int (nI 0), .int (nI 0), .int (nI 0)]))] zz) := by
  refine Met.ofW (cc := cX3_init) (maxL := 1) (ret := none) (by decide) rfl ?_
  intro p e s m args below meth c s₁ B hml hv
  obtain ⟨rfl, hsz, hP, hK, hD0, hAO, hN0, hN1, hN2⟩ := hv
  have hx := B.exec
  have hb := B.bytes
  have hr := B.returns
  have hts := atoms_spec (ws := wsX3_init) B.pre
  have hown : s.vm.findClass RX3 = some m.cls := findClass_of_methodNamed B.named
  have hlocks := B.notSynchronized
  have hin : meth.name = "<init>" := (name_of_methodNamed B.named B.method).1
  subst hsz
  have hD := hD0.self (sz := s.heap.size)
  generalize hAe : va_A [(h, .inr (3, [.null, .null, .null, .null, .null, .int (nI 0), .int (nI 0), .int (nI 0)]))] s.heap.size = A at hD ⊢
  have hA : ∀ q : Nat, s.heap.size ≤ q → A q := fun q h => by rw [← hAe]; exact Or.inr h
  have hS : va_S A s.heap s.heap [] := va_S.rf
  have hP : va_P (dC, dI) vwCl [(h, .inr (3, [.null, .null, .null, .null, .null, .int (nI 0), .int (nI 0), .int (nI 0)]))] s.heap := hP
  have in_X0 : ∀ w ∈ wsX00, w ∈ wsX3_init := fun _ h => List.mem_cons_of_mem _ (List.mem_append_left _ (List.mem_append_right _ (h)))
  have in_X1 : ∀ w ∈ wsX10, w ∈ wsX3_init := fun _ h => List.mem_cons_of_mem _ (List.mem_append_left _ (List.mem_append_left _ (List.mem_append_right _ (h))))
  have in_X2 : ∀ w ∈ wsX20, w ∈ wsX3_init := fun _ h => List.mem_cons_of_mem _ (List.mem_append_right _ (h))
  have in_X3 : ∀ w ∈ wsX30, w ∈ wsX3_init := fun _ h => List.mem_cons_of_mem _ (List.mem_append_left _ (List.mem_append_left _ (List.mem_append_left _ (List.mem_append_right _ (h)))))
  have lk_1 := hts (.methodLink RX3 3 objectInit) (List.mem_of_getElem? (i := 1) rfl)
  have lk_2 := hts (.instanceMethod objectInit) (List.mem_of_getElem? (i := 2) rfl)
  have lk_3 := hts (.code objectInit ⟨#[0xb1]⟩ 1 none) (List.mem_of_getElem? (i := 3) rfl)
  have lk_4 := hts (.classLink RX3 9 RX2) (List.mem_of_getElem? (i := 4) rfl)
  have lk_5 := hts (.fieldLink RX3 11 "GlulxHeap" "kept" "[LGlulxHeap$State;") (List.mem_of_getElem? (i := 5) rfl)
  have lk_6 := hts (.classLink RX3 15 RX1) (List.mem_of_getElem? (i := 6) rfl)
  have lk_7 := hts (.instantiable RX1 2) (List.mem_of_getElem? (i := 7) rfl)
  have lk_8 := hts (.initialized RX1) (List.mem_of_getElem? (i := 8) rfl)
  have lk_9 := hts (.fieldLink RX3 18 "GlulxHeap" "wanted" "LGlulxHeap$Key;") (List.mem_of_getElem? (i := 9) rfl)
  have lk_10 := hts (.classLink RX3 22 RX0) (List.mem_of_getElem? (i := 10) rfl)
  have lk_11 := hts (.instantiable RX0 2) (List.mem_of_getElem? (i := 11) rfl)
  have lk_12 := hts (.initialized RX0) (List.mem_of_getElem? (i := 12) rfl)
  have lk_13 := hts (.fieldLink RX3 25 "GlulxHeap" "script" "LGlulxHeap$Code;") (List.mem_of_getElem? (i := 13) rfl)
  have lk_14 := hts (.instantiable RX2 6) (List.mem_of_getElem? (i := 14) rfl)
  have lk_15 := hts (.initialized RX2) (List.mem_of_getElem? (i := 15) rfl)
  have lk_16 := hts (.fieldLink RX3 30 "GlulxHeap" "now" "LGlulxHeap$State;") (List.mem_of_getElem? (i := 16) rfl)
  have lk_17 := hts (.instanceMethod yX1_init) (List.mem_of_getElem? (i := 17) rfl)
  have lk_20 := hts (.arrayClass .byte) (List.mem_of_getElem? (i := 20) rfl)
  have lk_22 := hts (.instanceMethod yX0_init) (List.mem_of_getElem? (i := 22) rfl)
  have lk_26 := hts (.instanceMethod yX2_init) (List.mem_of_getElem? (i := 26) rfl)
  have lk_30 := hts (.arrayClass .int) (List.mem_of_getElem? (i := 30) rfl)
  obtain ⟨cI, hK⟩ := va_K_arr lk_30 (Or.inl rfl) hK
  obtain ⟨cB, hK⟩ := va_K_arr lk_20 (Or.inr rfl) hK
  have hK : va_K (dC, dI) vwCl [(cI, .int), (cB, .byte)] s := hK
  have hl := lv_entry ([.ref h]) (n := 1) (Nat.le_of_ble_eq_true rfl)
  rw [lg_entry_eq]
  generalize (lg_sl ([.ref h]) ++ List.replicate (1 - (lg_sl ([.ref h])).length) Slot.unset).toArray = ls at hl ⊢
  have hl : lv_has ls 1 [(0, .ref h)] := hl
  refine lv_aload_n hx hb dX3_init_0 rfl (lv_at hl 0 rfl) ?_
  refine W.objInit hx hb hown lk_1 lk_2 lk_3 rfl (by rw [hml]; exact hl.1) rfl dX3_init_1 (Nat.le_of_ble_eq_true rfl) (Nat.le_of_ble_eq_true rfl) ?_
  refine W.eq (g2 := F0 m 4 ls []) rfl ?_
  refine lv_aload_n hx hb dX3_init_4 rfl (lv_at hl 0 rfl) ?_
  refine lv_iconst (v := (nI 4)) hx hb dX3_init_5 (by decide) ?_
  refine va_newq (N' := 4) (C := RX2) hx hb hown lk_4 hAO hK hP hD hS hA (nI_pos (by omega)) (nI_clamp (by omega)) (by decide) (Nat.le_of_ble_eq_true rfl) (Nat.le_of_ble_eq_true rfl) dX3_init_6 (fun kq cS H hK hP hD hS => ?_)
  have hK : va_K (dC, dI) vwCl [(cI, .int), (cB, .byte), (cS, .object "GlulxHeap$State")] s := hK
  have hP : va_P (dC, dI) vwCl ([(h, .inr (3, [.null, .null, .null, .null, .null, .int (nI 0), .int (nI 0), .int (nI 0)]))] ++ krw cS kq (fun _ => none)) H := hP
  have hD : va_D A ([(h, .inr (3, [.null, .null, .null, .null, .null, .int (nI 0), .int (nI 0), .int (nI 0)]))] ++ krw cS kq (fun _ => none)) := hD
  refine va_putF (D := (dC, dI)) (ci := 3) (v := .ref kq) (ty := .array (.object "GlulxHeap$State")) (C := RX3) (T := TX3) (N := 8) hx hb hts in_X3 tyX3 tyX3_ok nmX3 hown hK hP hD hS 0 rfl rfl 0 (by decide) lk_5 (fun _ h9 => h9) rfl hin rfl (by decide +kernel) rfl rfl (Nat.le_of_ble_eq_true rfl) dX3_init_9 (fun H locs hP hD hS => ?_)
  have hP : va_P (dC, dI) vwCl ([(h, .inr (3, [.ref kq, .null, .null, .null, .null, .int (nI 0), .int (nI 0), .int (nI 0)]))] ++ krw cS kq (fun _ => none)) H := hP
  have hD : va_D A ([(h, .inr (3, [.ref kq, .null, .null, .null, .null, .int (nI 0), .int (nI 0), .int (nI 0)]))] ++ krw cS kq (fun _ => none)) := hD
  refine lv_aload_n hx hb dX3_init_12 rfl (lv_at hl 0 rfl) ?_
  refine va_new (ci := 1) (fs := [.null, .int (nI 0)]) (C := RX1) (T := TX1) (N := 2) hx hb hts in_X1 tyX1 tyX1_ok hown lk_6 lk_7 lk_8 hK hP hD hS hA rfl (fun j hj => by rcases (show j = 0 ∨ j = 1 by omega) with rfl | rfl <;> rfl) (Nat.le_of_ble_eq_true rfl) (Nat.le_of_ble_eq_true rfl) dX3_init_13 (fun n13 H hP hD hS => ?_)
  have hP : va_P (dC, dI) vwCl ([(h, .inr (3, [.ref kq, .null, .null, .null, .null, .int (nI 0), .int (nI 0), .int (nI 0)]))] ++ krw cS kq (fun _ => none) ++ [(n13, .inr (1, [.null, .int (nI 0)]))]) H := hP
  have hD : va_D A ([(h, .inr (3, [.ref kq, .null, .null, .null, .null, .int (nI 0), .int (nI 0), .int (nI 0)]))] ++ krw cS kq (fun _ => none) ++ [(n13, .inr (1, [.null, .int (nI 0)]))]) := hD
  refine lv_dup hx hb dX3_init_16 rfl ?_
  have hPc := hP.sub (ws' := [(n13, .inr (1, [.null, .int (nI 0)]))]) [2] rfl
  have hKc := hK.sub (tys' := []) [] rfl
  have hDc := hD.sub (ws' := [(n13, .inr (1, [.null, .int (nI 0)]))]) [2] (by decide) rfl
  have hFc := va_free (wc := [(n13, .inr (1, [.null, .int (nI 0)]))]) hD hS hA [2] rfl
  refine va_callv (va_runIN (As := []) (rest := [.ref n13, .ref h]) ⟨hx, hb, hml, hown, hts⟩ (c_X1_init l dC dI n13 H.size) ⟨va_cnB 0 hts gX3_init_X1_init_n17 rfl rfl rfl hN0 lk_8 (by decide +kernel) ⟨Nat.le_of_ble_eq_true rfl, Nat.le_of_ble_eq_true rfl⟩, rfl, lk_17⟩ ⟨fun a9 U g9 mk9 q9 => by obtain ⟨q0, q1, qP, qK, qD⟩ := q9; exact ⟨q0, q1, qP, va_K.moved (u := U) (U := U.calling g9 mk9 a9) (Vm.Alike.refl U.vm) qK, qD⟩, fun U hU hW => ⟨rfl, by rw [hU], by rw [hU]; exact hPc, va_K.moved hW.alike hKc, hDc.weaken (fun _ _ _ _ => trivial)⟩⟩ rfl rfl hl.1 rfl (lv_room (Nat.le_of_ble_eq_true rfl)) dX3_init_17 ⟨Nat.le_of_ble_eq_true rfl, Nat.le_of_ble_eq_true rfl⟩) hS (fun q _ h => hFc q h) hFc (fun u t H1 locs ht9 hvm9 hw hB hz9 hk9 hS => ?_)
  obtain ⟨y1, k⟩ := u
  obtain ⟨hP1, hK1, hD1⟩ := hB
  rw [ht9] at hP1
  have hK1 := va_K.moved hvm9.symm hK1
  try dsimp only at hw hP1 hK1 hD1
  have hKK := hK.app hK1
  obtain rfl : cB = y1 := (va_oneB hKK 1 3 rfl rfl).symm
  subst hw
  obtain ⟨hP, hD⟩ := va_join (wr := [(h, .inr (3, [.ref kq, .null, .null, .null, .null, .int (nI 0), .int (nI 0), .int (nI 0)]))] ++ krw cS kq (fun _ => none)) (w1 := kw cB k 0 zf) hP hD [2] [0, 1] rfl rfl (by decide) (by decide) hk9 hFc hP1 hD1
  generalize H1 = H at hP hS ⊢
  have hP : va_P (dC, dI) vwCl ([(h, .inr (3, [.ref kq, .null, .null, .null, .null, .int (nI 0), .int (nI 0), .int (nI 0)]))] ++ krw cS kq (fun _ => none) ++ kw cB k 0 zf) H := hP
  have hD : va_D A ([(h, .inr (3, [.ref kq, .null, .null, .null, .null, .int (nI 0), .int (nI 0), .int (nI 0)]))] ++ krw cS kq (fun _ => none) ++ kw cB k 0 zf) := hD
  refine va_putF (D := (dC, dI)) (ci := 3) (v := .ref (k 0)) (ty := .object "GlulxHeap$Key") (C := RX3) (T := TX3) (N := 8) hx hb hts in_X3 tyX3 tyX3_ok nmX3 hown hK hP hD hS 0 rfl rfl 1 (by decide) lk_9 (fun _ h9 => h9) rfl hin rfl (by decide +kernel) rfl rfl (Nat.le_of_ble_eq_true rfl) dX3_init_20 (fun H locs hP hD hS => ?_)
  have hP : va_P (dC, dI) vwCl ([(h, .inr (3, [.ref kq, .ref (k 0), .null, .null, .null, .int (nI 0), .int (nI 0), .int (nI 0)]))] ++ krw cS kq (fun _ => none) ++ kw cB k 0 zf) H := hP
  have hD : va_D A ([(h, .inr (3, [.ref kq, .ref (k 0), .null, .null, .null, .int (nI 0), .int (nI 0), .int (nI 0)]))] ++ krw cS kq (fun _ => none) ++ kw cB k 0 zf) := hD
  refine lv_aload_n hx hb dX3_init_23 rfl (lv_at hl 0 rfl) ?_
  refine va_new (ci := 0) (fs := [.null, .int (nI 0)]) (C := RX0) (T := TX0) (N := 2) hx hb hts in_X0 tyX0 tyX0_ok hown lk_10 lk_11 lk_12 hK hP hD hS hA rfl (fun j hj => by rcases (show j = 0 ∨ j = 1 by omega) with rfl | rfl <;> rfl) (Nat.le_of_ble_eq_true rfl) (Nat.le_of_ble_eq_true rfl) dX3_init_24 (fun n24 H hP hD hS => ?_)
  have hP : va_P (dC, dI) vwCl ([(h, .inr (3, [.ref kq, .ref (k 0), .null, .null, .null, .int (nI 0), .int (nI 0), .int (nI 0)]))] ++ krw cS kq (fun _ => none) ++ kw cB k 0 zf ++ [(n24, .inr (0, [.null, .int (nI 0)]))]) H := hP
  have hD : va_D A ([(h, .inr (3, [.ref kq, .ref (k 0), .null, .null, .null, .int (nI 0), .int (nI 0), .int (nI 0)]))] ++ krw cS kq (fun _ => none) ++ kw cB k 0 zf ++ [(n24, .inr (0, [.null, .int (nI 0)]))]) := hD
  refine lv_dup hx hb dX3_init_27 rfl ?_
  have hPc := hP.sub (ws' := [(n24, .inr (0, [.null, .int (nI 0)]))]) [4] rfl
  have hKc := hK.sub (tys' := []) [] rfl
  have hDc := hD.sub (ws' := [(n24, .inr (0, [.null, .int (nI 0)]))]) [4] (by decide) rfl
  have hFc := va_free (wc := [(n24, .inr (0, [.null, .int (nI 0)]))]) hD hS hA [4] rfl
  refine va_callv (va_runIN (As := []) (rest := [.ref n24, .ref h]) ⟨hx, hb, hml, hown, hts⟩ (c_X0_init l dC dI n24 H.size) ⟨va_cnB 0 hts gX3_init_X0_init_n24 rfl rfl rfl hN1 lk_12 (by decide +kernel) ⟨Nat.le_of_ble_eq_true rfl, Nat.le_of_ble_eq_true rfl⟩, rfl, lk_22⟩ ⟨fun a9 U g9 mk9 q9 => by obtain ⟨q0, q1, qP, qK, qD⟩ := q9; exact ⟨q0, q1, qP, va_K.moved (u := U) (U := U.calling g9 mk9 a9) (Vm.Alike.refl U.vm) qK, qD⟩, fun U hU hW => ⟨rfl, by rw [hU], by rw [hU]; exact hPc, va_K.moved hW.alike hKc, hDc.weaken (fun _ _ _ _ => trivial)⟩⟩ rfl rfl hl.1 rfl (lv_room (Nat.le_of_ble_eq_true rfl)) dX3_init_28 ⟨Nat.le_of_ble_eq_true rfl, Nat.le_of_ble_eq_true rfl⟩) hS (fun q _ h => hFc q h) hFc (fun u t H1 locs ht9 hvm9 hw hB hz9 hk9 hS => ?_)
  obtain ⟨y1, o⟩ := u
  obtain ⟨hP1, hK1, hD1⟩ := hB
  rw [ht9] at hP1
  have hK1 := va_K.moved hvm9.symm hK1
  try dsimp only at hw hP1 hK1 hD1
  have hKK := hK.app hK1
  obtain rfl : cB = y1 := (va_oneB hKK 1 3 rfl rfl).symm
  subst hw
  obtain ⟨hP, hD⟩ := va_join (wr := [(h, .inr (3, [.ref kq, .ref (k 0), .null, .null, .null, .int (nI 0), .int (nI 0), .int (nI 0)]))] ++ krw cS kq (fun _ => none) ++ kw cB k 0 zf) (w1 := ow cB o 0 0 zf) hP hD [4] [0, 1, 2, 3] rfl rfl (by decide) (by decide) hk9 hFc hP1 hD1
  generalize H1 = H at hP hS ⊢
  have hP : va_P (dC, dI) vwCl ([(h, .inr (3, [.ref kq, .ref (k 0), .null, .null, .null, .int (nI 0), .int (nI 0), .int (nI 0)]))] ++ krw cS kq (fun _ => none) ++ kw cB k 0 zf ++ ow cB o 0 0 zf) H := hP
  have hD : va_D A ([(h, .inr (3, [.ref kq, .ref (k 0), .null, .null, .null, .int (nI 0), .int (nI 0), .int (nI 0)]))] ++ krw cS kq (fun _ => none) ++ kw cB k 0 zf ++ ow cB o 0 0 zf) := hD
  refine va_putF (D := (dC, dI)) (ci := 3) (v := .ref (o 0)) (ty := .object "GlulxHeap$Code") (C := RX3) (T := TX3) (N := 8) hx hb hts in_X3 tyX3 tyX3_ok nmX3 hown hK hP hD hS 0 rfl rfl 2 (by decide) lk_13 (fun _ h9 => h9) rfl hin rfl (by decide +kernel) rfl rfl (Nat.le_of_ble_eq_true rfl) dX3_init_31 (fun H locs hP hD hS => ?_)
  have hP : va_P (dC, dI) vwCl ([(h, .inr (3, [.ref kq, .ref (k 0), .ref (o 0), .null, .null, .int (nI 0), .int (nI 0), .int (nI 0)]))] ++ krw cS kq (fun _ => none) ++ kw cB k 0 zf ++ ow cB o 0 0 zf) H := hP
  have hD : va_D A ([(h, .inr (3, [.ref kq, .ref (k 0), .ref (o 0), .null, .null, .int (nI 0), .int (nI 0), .int (nI 0)]))] ++ krw cS kq (fun _ => none) ++ kw cB k 0 zf ++ ow cB o 0 0 zf) := hD
  refine lv_aload_n hx hb dX3_init_34 rfl (lv_at hl 0 rfl) ?_
  refine va_new (ci := 2) (fs := [.null, .null, .null, .int (nI 0), .int (nI 0), .int (nI 0)]) (C := RX2) (T := TX2) (N := 6) hx hb hts in_X2 tyX2 tyX2_ok hown lk_4 lk_14 lk_15 hK hP hD hS hA rfl (fun j hj => by rcases (show j = 0 ∨ j = 1 ∨ j = 2 ∨ j = 3 ∨ j = 4 ∨ j = 5 by omega) with rfl | rfl | rfl | rfl | rfl | rfl <;> rfl) (Nat.le_of_ble_eq_true rfl) (Nat.le_of_ble_eq_true rfl) dX3_init_35 (fun n35 H hP hD hS => ?_)
  have hP : va_P (dC, dI) vwCl ([(h, .inr (3, [.ref kq, .ref (k 0), .ref (o 0), .null, .null, .int (nI 0), .int (nI 0), .int (nI 0)]))] ++ krw cS kq (fun _ => none) ++ kw cB k 0 zf ++ ow cB o 0 0 zf ++ [(n35, .inr (2, [.null, .null, .null, .int (nI 0), .int (nI 0), .int (nI 0)]))]) H := hP
  have hD : va_D A ([(h, .inr (3, [.ref kq, .ref (k 0), .ref (o 0), .null, .null, .int (nI 0), .int (nI 0), .int (nI 0)]))] ++ krw cS kq (fun _ => none) ++ kw cB k 0 zf ++ ow cB o 0 0 zf ++ [(n35, .inr (2, [.null, .null, .null, .int (nI 0), .int (nI 0), .int (nI 0)]))]) := hD
  refine lv_dup hx hb dX3_init_38 rfl ?_
  have hPc := hP.sub (ws' := [(n35, .inr (2, [.null, .null, .null, .int (nI 0), .int (nI 0), .int (nI 0)]))]) [6] rfl
  have hKc := hK.sub (tys' := []) [] rfl
  have hDc := hD.sub (ws' := [(n35, .inr (2, [.null, .null, .null, .int (nI 0), .int (nI 0), .int (nI 0)]))]) [6] (by decide) rfl
  have hFc := va_free (wc := [(n35, .inr (2, [.null, .null, .null, .int (nI 0), .int (nI 0), .int (nI 0)]))]) hD hS hA [6] rfl
  refine va_callv (va_runIN (As := []) (rest := [.ref n35, .ref h]) ⟨hx, hb, hml, hown, hts⟩ (c_X2_init l dC dI n35 H.size) ⟨va_cnB 0 hts gX3_init_X2_init_n29 rfl rfl rfl hN2 lk_15 (by decide +kernel) ⟨Nat.le_of_ble_eq_true rfl, Nat.le_of_ble_eq_true rfl⟩, rfl, lk_26⟩ ⟨fun a9 U g9 mk9 q9 => by obtain ⟨q0, q1, qP, qK, qD⟩ := q9; exact ⟨q0, q1, qP, va_K.moved (u := U) (U := U.calling g9 mk9 a9) (Vm.Alike.refl U.vm) qK, qD⟩, fun U hU hW => ⟨rfl, by rw [hU], by rw [hU]; exact hPc, va_K.moved hW.alike hKc, hDc.weaken (fun _ _ _ _ => trivial)⟩⟩ rfl rfl hl.1 rfl (lv_room (Nat.le_of_ble_eq_true rfl)) dX3_init_39 ⟨Nat.le_of_ble_eq_true rfl, Nat.le_of_ble_eq_true rfl⟩) hS (fun q _ h => hFc q h) hFc (fun u t H1 locs ht9 hvm9 hw hB hz9 hk9 hS => ?_)
  obtain ⟨⟨y1, y2⟩, b⟩ := u
  obtain ⟨hP1, hK1, hD1⟩ := hB
  rw [ht9] at hP1
  have hK1 := va_K.moved hvm9.symm hK1
  try dsimp only at hw hP1 hK1 hD1
  have hKK := hK.app hK1
  obtain rfl : cI = y2 := (va_one hKK 0 3 rfl rfl).symm
  obtain rfl : cB = y1 := (va_oneB hKK 1 4 rfl rfl).symm
  subst hw
  obtain ⟨hP, hD⟩ := va_join (wr := [(h, .inr (3, [.ref kq, .ref (k 0), .ref (o 0), .null, .null, .int (nI 0), .int (nI 0), .int (nI 0)]))] ++ krw cS kq (fun _ => none) ++ kw cB k 0 zf ++ ow cB o 0 0 zf) (w1 := sw cB cI b 0 0 0 zf zf zf) hP hD [6] [0, 1, 2, 3, 4, 5] rfl rfl (by decide) (by decide) hk9 hFc hP1 hD1
  generalize H1 = H at hP hS ⊢
  have hP : va_P (dC, dI) vwCl ([(h, .inr (3, [.ref kq, .ref (k 0), .ref (o 0), .null, .null, .int (nI 0), .int (nI 0), .int (nI 0)]))] ++ krw cS kq (fun _ => none) ++ kw cB k 0 zf ++ ow cB o 0 0 zf ++ sw cB cI b 0 0 0 zf zf zf) H := hP
  have hD : va_D A ([(h, .inr (3, [.ref kq, .ref (k 0), .ref (o 0), .null, .null, .int (nI 0), .int (nI 0), .int (nI 0)]))] ++ krw cS kq (fun _ => none) ++ kw cB k 0 zf ++ ow cB o 0 0 zf ++ sw cB cI b 0 0 0 zf zf zf) := hD
  refine va_put (D := (dC, dI)) (ci := 3) (v := .ref (b 0)) (ty := .object "GlulxHeap$State") (C := RX3) (T := TX3) (N := 8) hx hb hts in_X3 tyX3 tyX3_ok nmX3 hown hK hP hD hS 0 rfl rfl 3 (by decide) lk_16 (fun _ h9 => h9) rfl (by decide +kernel) rfl rfl (Nat.le_of_ble_eq_true rfl) dX3_init_42 (fun H locs hP hD hS => ?_)
  have hP : va_P (dC, dI) vwCl ([(h, .inr (3, [.ref kq, .ref (k 0), .ref (o 0), .ref (b 0), .null, .int (nI 0), .int (nI 0), .int (nI 0)]))] ++ krw cS kq (fun _ => none) ++ kw cB k 0 zf ++ ow cB o 0 0 zf ++ sw cB cI b 0 0 0 zf zf zf) H := hP
  have hD : va_D A ([(h, .inr (3, [.ref kq, .ref (k 0), .ref (o 0), .ref (b 0), .null, .int (nI 0), .int (nI 0), .int (nI 0)]))] ++ krw cS kq (fun _ => none) ++ kw cB k 0 zf ++ ow cB o 0 0 zf ++ sw cB cI b 0 0 0 zf zf zf) := hD
  refine lv_aload_n hx hb dX3_init_45 rfl (lv_at hl 0 rfl) ?_
  refine va_get (D := (dC, dI)) (ci := 3) (v := .ref (b 0)) (C := RX3) (T := TX3) (N := 8) hx hb hts in_X3 hown hK hP 0 rfl rfl 3 (by decide) lk_16 (fun _ h9 => h9) rfl dX3_init_46 ?_
  have hPc := hP.sub (ws' := sw cB cI b 0 0 0 zf zf zf) [6, 7, 8, 9] rfl
  have hKc := hK.sub (tys' := [(cI, .int), (cB, .byte)]) [0, 1] rfl
  have hDc := hD.sub (ws' := sw cB cI b 0 0 0 zf zf zf) [6, 7, 8, 9] (by decide) rfl
  have hFc := va_free (wc := sw cB cI b 0 0 0 zf zf zf) hD hS hA [6, 7, 8, 9] rfl
  refine va_callv (va_runV (As := []) (rest := []) ⟨hx, hb, hml, hown, hts⟩ (c_X2_begin l dC dI cB cI b 0 0 0 zf zf zf H.size ) (cwV 0 hts gX3_init_X2_begin rfl rfl rfl (by decide +kernel) ⟨Nat.le_of_ble_eq_true rfl, Nat.le_of_ble_eq_true rfl⟩) ⟨fun a9 U g9 mk9 q9 => by obtain ⟨q0, q1, qP, qK, qD⟩ := q9; exact ⟨q0, q1, qP, va_K.moved (u := U) (U := U.calling g9 mk9 a9) (Vm.Alike.refl U.vm) qK, qD⟩, va_recv hKc hPc (ci := 2) (q0 := 0) rfl rfl, fun U hU hW => ⟨rfl, by rw [hU], by rw [hU]; exact hPc, va_K.moved hW.alike hKc, hDc.weaken (fun _ _ _ _ => trivial)⟩⟩ rfl rfl hl.1 rfl (lv_room (Nat.le_of_ble_eq_true rfl)) dX3_init_49 ⟨Nat.le_of_ble_eq_true rfl, Nat.le_of_ble_eq_true rfl⟩) hS (fun q _ h => hFc q h) hFc (fun u t H1 locs ht9 hvm9 hw hB hz9 hk9 hS => ?_)
  obtain ⟨hP1, hK1, hD1⟩ := hB
  rw [ht9] at hP1
  obtain ⟨hP, hD⟩ := va_join (wr := [(h, .inr (3, [.ref kq, .ref (k 0), .ref (o 0), .ref (b 0), .null, .int (nI 0), .int (nI 0), .int (nI 0)]))] ++ krw cS kq (fun _ => none) ++ kw cB k 0 zf ++ ow cB o 0 0 zf) (w1 := sw cB cI b 1024 0 0 (outW (zr zf 0 8192) fst 0 64) zf zf) hP hD [6, 7, 8, 9] [0, 1, 2, 3, 4, 5] rfl rfl (by decide) (by decide) hk9 hFc hP1 hD1
  generalize H1 = H at hP hS ⊢
  have hP := hP.sub (ws' := [(h, .inr (3, [.ref kq, .ref (k 0), .ref (o 0), .ref (b 0), .null, .int (nI 0), .int (nI 0), .int (nI 0)]))] ++ krw cS kq (fun _ => none) ++ kw cB k 0 zf ++ ow cB o 0 0 zf ++ sw cB cI b 1024 0 0 (outW (zr zf 0 8192) fst 0 64) zf zf) [0, 1, 2, 3, 4, 5, 6, 7, 8, 9] rfl
  have hD := hD.sub (ws' := [(h, .inr (3, [.ref kq, .ref (k 0), .ref (o 0), .ref (b 0), .null, .int (nI 0), .int (nI 0), .int (nI 0)]))] ++ krw cS kq (fun _ => none) ++ kw cB k 0 zf ++ ow cB o 0 0 zf ++ sw cB cI b 1024 0 0 (outW (zr zf 0 8192) fst 0 64) zf zf) [0, 1, 2, 3, 4, 5, 6, 7, 8, 9] (by decide) rfl
  have hP : va_P (dC, dI) vwCl ([(h, .inr (3, [.ref kq, .ref (k 0), .ref (o 0), .ref (b 0), .null, .int (nI 0), .int (nI 0), .int (nI 0)]))] ++ krw cS kq (fun _ => none) ++ kw cB k 0 zf ++ ow cB o 0 0 zf ++ sw cB cI b 1024 0 0 (outW (zr zf 0 8192) fst 0 64) zf zf) H := hP
  have hD : va_D A ([(h, .inr (3, [.ref kq, .ref (k 0), .ref (o 0), .ref (b 0), .null, .int (nI 0), .int (nI 0), .int (nI 0)]))] ++ krw cS kq (fun _ => none) ++ kw cB k 0 zf ++ ow cB o 0 0 zf ++ sw cB cI b 1024 0 0 (outW (zr zf 0 8192) fst 0 64) zf zf) := hD
  refine W.widen (k := 9) (n := 8398) (Nat.le_of_ble_eq_true rfl) (Nat.le_of_ble_eq_true rfl) ?_
  have hP := hP.sub (ws' := gw h kq none k o b 0 0 0 ++ kw cB k 0 zf ++ ow cB o 0 0 zf ++ sw cB cI b 1024 0 0 (outW (zr zf 0 8192) fst 0 64) zf zf ++ krw cS kq (fun _ => none)) [0, 2, 3, 4, 5, 6, 7, 8, 9, 1] rfl
  have hD := hD.sub (ws' := gw h kq none k o b 0 0 0 ++ kw cB k 0 zf ++ ow cB o 0 0 zf ++ sw cB cI b 1024 0 0 (outW (zr zf 0 8192) fst 0 64) zf zf ++ krw cS kq (fun _ => none)) [0, 2, 3, 4, 5, 6, 7, 8, 9, 1] (by decide) rfl
  exact W.vret hx hb hr (fun t ht hW => ⟨⟨(cB, cI, cS, kq, k, o, b), rfl, trivial, by rw [ht]; exact hP, va_K.moved hW.alike hK, hD⟩, hS.F ht⟩) hS.2.2 dX3_init_52
