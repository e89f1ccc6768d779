theorem va_oneB {D : va_G} {cl : List vw_C} {tys : List (ClassId × FieldType)} {U : State} {c1 c2 : ClassId} (h : va_K D cl tys U) (i j : Nat) (hi : tys[i]? = some (c1, .byte)) (hj : tys[j]? = some (c2, .byte)) : c2 = c1 := Option.some.inj ((h.2 j _ hj).2.symm.trans (h.2 i _ hi).2)
theorem zrowB (N : Nat) (cA : ClassId) : vp_cell cA (N, .inl (bf zf)) = arrV cA N (fun _ => defaultValue .byte) := by
  rw [vp_cell_i]
  exact congrArg (arrV cA N) (funext fun _ => congrArg Value.int (show sb_b 0 = 0 by decide))
/-- a Key's cells -/
abbrev kw (cB : ClassId) (k : Nat → Nat) (kl : Nat) (kb : Nat → Nat) : va_W := [(k 0, .inr (1, [.ref (k 1), .int (nI kl)])), (k 1, .inl (cB, 64, .inl (bf kb)))]
/-- a Code's cells; its row has z places -/
abbrev ow (cB : ClassId) (o : Nat → Nat) (z cs : Nat) (cd : Nat → Nat) : va_W := [(o 0, .inr (0, [.ref (o 1), .int (nI cs)])), (o 1, .inl (cB, z, .inl (bf cd)))]

set_option maxHeartbeats 4000000 in
set_option maxRecDepth 100000 in
theorem c_X2_init (l : Launch) (dC : Nat → ClassId) (dI : Nat → Nat → Nat) (h0 zz : Nat) : Met l yX2_init wsX2_init ({ frames := 1, cells := 3, slots := 8320, locals := 12 }) (va_Pc [.ref h0] (fun U => U.heap.size = zz ∧ va_P (dC, dI) vwCl [(h0, .inr (2, [.null, .null, .null, .int (nI 0), .int (nI 0), .int (nI 0)]))] U.heap ∧ va_K (dC, dI) vwCl [] U ∧ va_D (fun _ => True) [(h0, .inr (2, [.null, .null, .null, .int (nI 0), .int (nI 0), .int (nI 0)]))])) (va_Qv (fun u : (ClassId × ClassId) × (Nat → Nat) => u.2 0 = h0) (fun u t => va_P (dC, dI) vwCl (sw u.1.1 u.1.2 u.2 0 0 0 zf zf zf) t.heap ∧ va_K (dC, dI) vwCl [(u.1.2, .int), (u.1.1, .byte)] t ∧ va_D (va_A [(h0, .inr (2, [.null, .null, .null, .int (nI 0), .int (nI 0), .int (nI 0)]))] zz) (sw u.1.1 u.1.2 u.2 0 0 0 zf zf zf)) (va_A [(h0, .inr (2, [.null, .null, .null, .int (nI 0), .int (nI 0), .int (nI 0)]))] zz)) 3 8320 (va_A [(h0, .inr (2, [.null, .null, .null, .int (nI 0), .int (nI 0), .int (nI 0)]))] zz) := by
  refine Met.ofW (cc := cX2_init) (maxL := 1) (ret := none) (by decide) rfl ?_
  intro p e s m args below meth c s₁ B hml hv
  obtain ⟨rfl, hsz, hP, hK, hD0⟩ := hv
  have hx := B.exec
  have hb := B.bytes
  have hr := B.returns
  have hts := atoms_spec (ws := wsX2_init) B.pre
  have hown : s.vm.findClass RX2 = some m.cls := findClass_of_methodNamed B.named
  have hlocks := B.notSynchronized
  have hin : meth.name = "<init>" := (name_of_methodNamed B.named B.method).1
  subst hsz
  have hD := hD0.self (sz := s.heap.size)
  generalize hAe : va_A [(h0, .inr (2, [.null, .null, .null, .int (nI 0), .int (nI 0), .int (nI 0)]))] s.heap.size = A at hD ⊢
  have hA : ∀ q : Nat, s.heap.size ≤ q → A q := fun q h => by rw [← hAe]; exact Or.inr h
  have hS : va_S A s.heap s.heap [] := va_S.rf
  have hP : va_P (dC, dI) vwCl [(h0, .inr (2, [.null, .null, .null, .int (nI 0), .int (nI 0), .int (nI 0)]))] s.heap := hP
  have in_X2 : ∀ w ∈ wsX20, w ∈ wsX2_init := fun _ h => List.mem_cons_of_mem _ (List.mem_append_right _ (h))
  have lk_1 := hts (.methodLink RX2 3 objectInit) (List.mem_of_getElem? (i := 1) rfl)
  have lk_2 := hts (.instanceMethod objectInit) (List.mem_of_getElem? (i := 2) rfl)
  have lk_3 := hts (.code objectInit ⟨#[0xb1]⟩ 1 none) (List.mem_of_getElem? (i := 3) rfl)
  have lk_4 := hts (.arrayClass .byte) (List.mem_of_getElem? (i := 4) rfl)
  have lk_5 := hts (.fieldLink RX2 9 "GlulxHeap$State" "bytes" "[B") (List.mem_of_getElem? (i := 5) rfl)
  have lk_6 := hts (.arrayClass .int) (List.mem_of_getElem? (i := 6) rfl)
  have lk_7 := hts (.fieldLink RX2 15 "GlulxHeap$State" "places" "[I") (List.mem_of_getElem? (i := 7) rfl)
  have lk_8 := hts (.fieldLink RX2 19 "GlulxHeap$State" "lengths" "[I") (List.mem_of_getElem? (i := 8) rfl)
  have hl := lv_entry ([.ref h0]) (n := 1) (Nat.le_of_ble_eq_true rfl)
  rw [lg_entry_eq]
  generalize (lg_sl ([.ref h0]) ++ List.replicate (1 - (lg_sl ([.ref h0])).length) Slot.unset).toArray = ls at hl ⊢
  have hl : lv_has ls 1 [(0, .ref h0)] := hl
  refine lv_aload_n hx hb dX2_init_0 rfl (lv_at hl 0 rfl) ?_
  refine W.objInit hx hb hown lk_1 lk_2 lk_3 rfl (by rw [hml]; exact hl.1) rfl dX2_init_1 (Nat.le_of_ble_eq_true rfl) (Nat.le_of_ble_eq_true rfl) ?_
  refine W.eq (g2 := F0 m 4 ls []) rfl ?_
  refine lv_aload_n hx hb dX2_init_4 rfl (lv_at hl 0 rfl) ?_
  refine lv_sipush (v := (nI 8192)) hx hb dX2_init_5 (by decide) ?_
  refine va_newa (atype := .byte) (ty := .byte) (N' := 8192) (a0 := (8192, .inl (bf zf))) hx hb lk_4 rfl hK hP hD hS hA (zrowB 8192) (nI_pos (by omega)) (nI_clamp (by omega)) (by show 8192 * 1 ≤ 536870912; omega) (Nat.le_of_ble_eq_true rfl) (Nat.le_of_ble_eq_true rfl) dX2_init_8 (fun q1 y1 H hK hP hD hS => ?_)
  have hK : va_K (dC, dI) vwCl [(y1, .byte)] s := hK
  have hP : va_P (dC, dI) vwCl ([(h0, .inr (2, [.null, .null, .null, .int (nI 0), .int (nI 0), .int (nI 0)])), (q1, .inl (y1, 8192, .inl (bf zf)))]) H := hP
  have hD : va_D A ([(h0, .inr (2, [.null, .null, .null, .int (nI 0), .int (nI 0), .int (nI 0)])), (q1, .inl (y1, 8192, .inl (bf zf)))]) := hD
  refine va_putF (D := (dC, dI)) (ci := 2) (v := .ref q1) (ty := .array .byte) (C := RX2) (T := TX2) (N := 6) hx hb hts in_X2 tyX2 tyX2_ok nmX2 hown hK hP hD hS 0 rfl rfl 0 (by decide) lk_5 (fun _ h9 => h9) rfl hin rfl (by decide +kernel) rfl rfl (Nat.le_of_ble_eq_true rfl) dX2_init_10 (fun H locs hP hD hS => ?_)
  have hP : va_P (dC, dI) vwCl ([(h0, .inr (2, [.ref q1, .null, .null, .int (nI 0), .int (nI 0), .int (nI 0)])), (q1, .inl (y1, 8192, .inl (bf zf)))]) H := hP
  have hD : va_D A ([(h0, .inr (2, [.ref q1, .null, .null, .int (nI 0), .int (nI 0), .int (nI 0)])), (q1, .inl (y1, 8192, .inl (bf zf)))]) := hD
  refine lv_aload_n hx hb dX2_init_13 rfl (lv_at hl 0 rfl) ?_
  refine lv_bipush (v := (nI 64)) hx hb dX2_init_14 (by decide) ?_
  refine va_newa (atype := .int) (ty := .int) (N' := 64) (a0 := (64, .inl (nf zf))) hx hb lk_6 rfl hK hP hD hS hA (zrow 64) (nI_pos (by omega)) (nI_clamp (by omega)) (by show 64 * 4 ≤ 536870912; omega) (Nat.le_of_ble_eq_true rfl) (Nat.le_of_ble_eq_true rfl) dX2_init_16 (fun q2 y2 H hK hP hD hS => ?_)
  have hK : va_K (dC, dI) vwCl [(y1, .byte), (y2, .int)] s := hK
  have hP : va_P (dC, dI) vwCl ([(h0, .inr (2, [.ref q1, .null, .null, .int (nI 0), .int (nI 0), .int (nI 0)])), (q1, .inl (y1, 8192, .inl (bf zf))), (q2, .inl (y2, 64, .inl (nf zf)))]) H := hP
  have hD : va_D A ([(h0, .inr (2, [.ref q1, .null, .null, .int (nI 0), .int (nI 0), .int (nI 0)])), (q1, .inl (y1, 8192, .inl (bf zf))), (q2, .inl (y2, 64, .inl (nf zf)))]) := hD
  refine va_putF (D := (dC, dI)) (ci := 2) (v := .ref q2) (ty := .array .int) (C := RX2) (T := TX2) (N := 6) hx hb hts in_X2 tyX2 tyX2_ok nmX2 hown hK hP hD hS 0 rfl rfl 1 (by decide) lk_7 (fun _ h9 => h9) rfl hin rfl (by decide +kernel) rfl rfl (Nat.le_of_ble_eq_true rfl) dX2_init_18 (fun H locs hP hD hS => ?_)
  have hP : va_P (dC, dI) vwCl ([(h0, .inr (2, [.ref q1, .ref q2, .null, .int (nI 0), .int (nI 0), .int (nI 0)])), (q1, .inl (y1, 8192, .inl (bf zf))), (q2, .inl (y2, 64, .inl (nf zf)))]) H := hP
  have hD : va_D A ([(h0, .inr (2, [.ref q1, .ref q2, .null, .int (nI 0), .int (nI 0), .int (nI 0)])), (q1, .inl (y1, 8192, .inl (bf zf))), (q2, .inl (y2, 64, .inl (nf zf)))]) := hD
  refine lv_aload_n hx hb dX2_init_21 rfl (lv_at hl 0 rfl) ?_
  refine lv_bipush (v := (nI 64)) hx hb dX2_init_22 (by decide) ?_
  refine va_newa (atype := .int) (ty := .int) (N' := 64) (a0 := (64, .inl (nf zf))) hx hb lk_6 rfl hK hP hD hS hA (zrow 64) (nI_pos (by omega)) (nI_clamp (by omega)) (by show 64 * 4 ≤ 536870912; omega) (Nat.le_of_ble_eq_true rfl) (Nat.le_of_ble_eq_true rfl) dX2_init_24 (fun q3 y3 H hK hP hD hS => ?_)
  obtain rfl : y2 = y3 := (va_one hK 1 2 rfl rfl).symm
  have hK := hK.sub (tys' := [(y1, .byte), (y2, .int)]) [0, 1] rfl
  have hK : va_K (dC, dI) vwCl [(y1, .byte), (y2, .int)] s := hK
  have hP : va_P (dC, dI) vwCl ([(h0, .inr (2, [.ref q1, .ref q2, .null, .int (nI 0), .int (nI 0), .int (nI 0)])), (q1, .inl (y1, 8192, .inl (bf zf))), (q2, .inl (y2, 64, .inl (nf zf))), (q3, .inl (y2, 64, .inl (nf zf)))]) H := hP
  have hD : va_D A ([(h0, .inr (2, [.ref q1, .ref q2, .null, .int (nI 0), .int (nI 0), .int (nI 0)])), (q1, .inl (y1, 8192, .inl (bf zf))), (q2, .inl (y2, 64, .inl (nf zf))), (q3, .inl (y2, 64, .inl (nf zf)))]) := hD
  refine va_putF (D := (dC, dI)) (ci := 2) (v := .ref q3) (ty := .array .int) (C := RX2) (T := TX2) (N := 6) hx hb hts in_X2 tyX2 tyX2_ok nmX2 hown hK hP hD hS 0 rfl rfl 2 (by decide) lk_8 (fun _ h9 => h9) rfl hin rfl (by decide +kernel) rfl rfl (Nat.le_of_ble_eq_true rfl) dX2_init_26 (fun H locs hP hD hS => ?_)
  have hP : va_P (dC, dI) vwCl ([(h0, .inr (2, [.ref q1, .ref q2, .ref q3, .int (nI 0), .int (nI 0), .int (nI 0)])), (q1, .inl (y1, 8192, .inl (bf zf))), (q2, .inl (y2, 64, .inl (nf zf))), (q3, .inl (y2, 64, .inl (nf zf)))]) H := hP
  have hD : va_D A ([(h0, .inr (2, [.ref q1, .ref q2, .ref q3, .int (nI 0), .int (nI 0), .int (nI 0)])), (q1, .inl (y1, 8192, .inl (bf zf))), (q2, .inl (y2, 64, .inl (nf zf))), (q3, .inl (y2, 64, .inl (nf zf)))]) := hD
  refine W.widen (k := 3) (n := 8320) (Nat.le_of_ble_eq_true rfl) (Nat.le_of_ble_eq_true rfl) ?_
  have hP : va_P (dC, dI) vwCl (sw y1 y2 (fun k => match k with | 0 => h0 | 1 => q1 | 2 => q2 | _ => q3) 0 0 0 zf zf zf) H := hP
  have hD : va_D A (sw y1 y2 (fun k => match k with | 0 => h0 | 1 => q1 | 2 => q2 | _ => q3) 0 0 0 zf zf zf) := hD
  have hK := hK.sub (tys' := [(y2, .int), (y1, .byte)]) [1, 0] rfl
  exact W.vret hx hb hr (fun t ht hW => ⟨⟨((y1, y2), (fun k => match k with | 0 => h0 | 1 => q1 | 2 => q2 | _ => q3)), rfl, rfl, by rw [ht]; exact hP, va_K.moved hW.alike hK, hD⟩, hS.F ht⟩) hS.2.2 dX2_init_29
set_option maxHeartbeats 4000000 in
set_option maxRecDepth 100000 in
theorem c_X1_init (l : Launch) (dC : Nat → ClassId) (dI : Nat → Nat → Nat) (h0 zz : Nat) : Met l yX1_init wsX1_init ({ frames := 1, cells := 1, slots := 64, locals := 12 }) (va_Pc [.ref h0] (fun U => U.heap.size = zz ∧ va_P (dC, dI) vwCl [(h0, .inr (1, [.null, .int (nI 0)]))] U.heap ∧ va_K (dC, dI) vwCl [] U ∧ va_D (fun _ => True) [(h0, .inr (1, [.null, .int (nI 0)]))])) (va_Qv (fun u : ClassId × (Nat → Nat) => u.2 0 = h0) (fun u t => va_P (dC, dI) vwCl (kw u.1 u.2 0 zf) t.heap ∧ va_K (dC, dI) vwCl [(u.1, .byte)] t ∧ va_D (va_A [(h0, .inr (1, [.null, .int (nI 0)]))] zz) (kw u.1 u.2 0 zf)) (va_A [(h0, .inr (1, [.null, .int (nI 0)]))] zz)) 1 64 (va_A [(h0, .inr (1, [.null, .int (nI 0)]))] zz) := by
  refine Met.ofW (cc := cX1_init) (maxL := 1) (ret := none) (by decide) rfl ?_
  intro p e s m args below meth c s₁ B hml hv
  obtain ⟨rfl, hsz, hP, hK, hD0⟩ := hv
  have hx := B.exec
  have hb := B.bytes
  have hr := B.returns
  have hts := atoms_spec (ws := wsX1_init) B.pre
  have hown : s.vm.findClass RX1 = some m.cls := findClass_of_methodNamed B.named
  have hlocks := B.notSynchronized
  have hin : meth.name = "<init>" := (name_of_methodNamed B.named B.method).1
  subst hsz
  have hD := hD0.self (sz := s.heap.size)
  generalize hAe : va_A [(h0, .inr (1, [.null, .int (nI 0)]))] s.heap.size = A at hD ⊢
  have hA : ∀ q : Nat, s.heap.size ≤ q → A q := fun q h => by rw [← hAe]; exact Or.inr h
  have hS : va_S A s.heap s.heap [] := va_S.rf
  have hP : va_P (dC, dI) vwCl [(h0, .inr (1, [.null, .int (nI 0)]))] s.heap := hP
  have in_X1 : ∀ w ∈ wsX10, w ∈ wsX1_init := fun _ h => List.mem_cons_of_mem _ (List.mem_append_right _ (h))
  have lk_1 := hts (.methodLink RX1 3 objectInit) (List.mem_of_getElem? (i := 1) rfl)
  have lk_2 := hts (.instanceMethod objectInit) (List.mem_of_getElem? (i := 2) rfl)
  have lk_3 := hts (.code objectInit ⟨#[0xb1]⟩ 1 none) (List.mem_of_getElem? (i := 3) rfl)
  have lk_4 := hts (.arrayClass .byte) (List.mem_of_getElem? (i := 4) rfl)
  have lk_5 := hts (.fieldLink RX1 9 "GlulxHeap$Key" "bytes" "[B") (List.mem_of_getElem? (i := 5) rfl)
  have hl := lv_entry ([.ref h0]) (n := 1) (Nat.le_of_ble_eq_true rfl)
  rw [lg_entry_eq]
  generalize (lg_sl ([.ref h0]) ++ List.replicate (1 - (lg_sl ([.ref h0])).length) Slot.unset).toArray = ls at hl ⊢
  have hl : lv_has ls 1 [(0, .ref h0)] := hl
  refine lv_aload_n hx hb dX1_init_0 rfl (lv_at hl 0 rfl) ?_
  refine W.objInit hx hb hown lk_1 lk_2 lk_3 rfl (by rw [hml]; exact hl.1) rfl dX1_init_1 (Nat.le_of_ble_eq_true rfl) (Nat.le_of_ble_eq_true rfl) ?_
  refine W.eq (g2 := F0 m 4 ls []) rfl ?_
  refine lv_aload_n hx hb dX1_init_4 rfl (lv_at hl 0 rfl) ?_
  refine lv_bipush (v := (nI 64)) hx hb dX1_init_5 (by decide) ?_
  refine va_newa (atype := .byte) (ty := .byte) (N' := 64) (a0 := (64, .inl (bf zf))) hx hb lk_4 rfl hK hP hD hS hA (zrowB 64) (nI_pos (by omega)) (nI_clamp (by omega)) (by show 64 * 1 ≤ 536870912; omega) (Nat.le_of_ble_eq_true rfl) (Nat.le_of_ble_eq_true rfl) dX1_init_7 (fun q1 y1 H hK hP hD hS => ?_)
  have hK : va_K (dC, dI) vwCl [(y1, .byte)] s := hK
  have hP : va_P (dC, dI) vwCl ([(h0, .inr (1, [.null, .int (nI 0)])), (q1, .inl (y1, 64, .inl (bf zf)))]) H := hP
  have hD : va_D A ([(h0, .inr (1, [.null, .int (nI 0)])), (q1, .inl (y1, 64, .inl (bf zf)))]) := hD
  refine va_putF (D := (dC, dI)) (ci := 1) (v := .ref q1) (ty := .array .byte) (C := RX1) (T := TX1) (N := 2) hx hb hts in_X1 tyX1 tyX1_ok nmX1 hown hK hP hD hS 0 rfl rfl 0 (by decide) lk_5 (fun _ h9 => h9) rfl hin rfl (by decide +kernel) rfl rfl (Nat.le_of_ble_eq_true rfl) dX1_init_9 (fun H locs hP hD hS => ?_)
  have hP : va_P (dC, dI) vwCl ([(h0, .inr (1, [.ref q1, .int (nI 0)])), (q1, .inl (y1, 64, .inl (bf zf)))]) H := hP
  have hD : va_D A ([(h0, .inr (1, [.ref q1, .int (nI 0)])), (q1, .inl (y1, 64, .inl (bf zf)))]) := hD
  refine W.widen (k := 1) (n := 64) (Nat.le_of_ble_eq_true rfl) (Nat.le_of_ble_eq_true rfl) ?_
  have hP : va_P (dC, dI) vwCl (kw y1 (fun k => match k with | 0 => h0 | _ => q1) 0 zf) H := hP
  have hD : va_D A (kw y1 (fun k => match k with | 0 => h0 | _ => q1) 0 zf) := hD
  have hK := hK.sub (tys' := [(y1, .byte)]) [0] rfl
  exact W.vret hx hb hr (fun t ht hW => ⟨⟨(y1, (fun k => match k with | 0 => h0 | _ => q1)), rfl, rfl, by rw [ht]; exact hP, va_K.moved hW.alike hK, hD⟩, hS.F ht⟩) hS.2.2 dX1_init_12
set_option maxHeartbeats 4000000 in
set_option maxRecDepth 100000 in
theorem c_X0_init (l : Launch) (dC : Nat → ClassId) (dI : Nat → Nat → Nat) (h0 zz : Nat) : Met l yX0_init wsX0_init ({ frames := 1, cells := 1, slots := 0, locals := 12 }) (va_Pc [.ref h0] (fun U => U.heap.size = zz ∧ va_P (dC, dI) vwCl [(h0, .inr (0, [.null, .int (nI 0)]))] U.heap ∧ va_K (dC, dI) vwCl [] U ∧ va_D (fun _ => True) [(h0, .inr (0, [.null, .int (nI 0)]))])) (va_Qv (fun u : ClassId × (Nat → Nat) => u.2 0 = h0) (fun u t => va_P (dC, dI) vwCl (ow u.1 u.2 0 0 zf) t.heap ∧ va_K (dC, dI) vwCl [(u.1, .byte)] t ∧ va_D (va_A [(h0, .inr (0, [.null, .int (nI 0)]))] zz) (ow u.1 u.2 0 0 zf)) (va_A [(h0, .inr (0, [.null, .int (nI 0)]))] zz)) 1 0 (va_A [(h0, .inr (0, [.null, .int (nI 0)]))] zz) := by
  refine Met.ofW (cc := cX0_init) (maxL := 1) (ret := none) (by decide) rfl ?_
  intro p e s m args below meth c s₁ B hml hv
  obtain ⟨rfl, hsz, hP, hK, hD0⟩ := hv
  have hx := B.exec
  have hb := B.bytes
  have hr := B.returns
  have hts := atoms_spec (ws := wsX0_init) B.pre
  have hown : s.vm.findClass RX0 = some m.cls := findClass_of_methodNamed B.named
  have hlocks := B.notSynchronized
  have hin : meth.name = "<init>" := (name_of_methodNamed B.named B.method).1
  subst hsz
  have hD := hD0.self (sz := s.heap.size)
  generalize hAe : va_A [(h0, .inr (0, [.null, .int (nI 0)]))] s.heap.size = A at hD ⊢
  have hA : ∀ q : Nat, s.heap.size ≤ q → A q := fun q h => by rw [← hAe]; exact Or.inr h
  have hS : va_S A s.heap s.heap [] := va_S.rf
  have hP : va_P (dC, dI) vwCl [(h0, .inr (0, [.null, .int (nI 0)]))] s.heap := hP
  have in_X0 : ∀ w ∈ wsX00, w ∈ wsX0_init := fun _ h => List.mem_cons_of_mem _ (List.mem_append_right _ (h))
  have lk_1 := hts (.methodLink RX0 3 objectInit) (List.mem_of_getElem? (i := 1) rfl)
  have lk_2 := hts (.instanceMethod objectInit) (List.mem_of_getElem? (i := 2) rfl)
  have lk_3 := hts (.code objectInit ⟨#[0xb1]⟩ 1 none) (List.mem_of_getElem? (i := 3) rfl)
  have lk_4 := hts (.arrayClass .byte) (List.mem_of_getElem? (i := 4) rfl)
  have lk_5 := hts (.fieldLink RX0 9 "GlulxHeap$Code" "bytes" "[B") (List.mem_of_getElem? (i := 5) rfl)
  have hl := lv_entry ([.ref h0]) (n := 1) (Nat.le_of_ble_eq_true rfl)
  rw [lg_entry_eq]
  generalize (lg_sl ([.ref h0]) ++ List.replicate (1 - (lg_sl ([.ref h0])).length) Slot.unset).toArray = ls at hl ⊢
  have hl : lv_has ls 1 [(0, .ref h0)] := hl
  refine lv_aload_n hx hb dX0_init_0 rfl (lv_at hl 0 rfl) ?_
  refine W.objInit hx hb hown lk_1 lk_2 lk_3 rfl (by rw [hml]; exact hl.1) rfl dX0_init_1 (Nat.le_of_ble_eq_true rfl) (Nat.le_of_ble_eq_true rfl) ?_
  refine W.eq (g2 := F0 m 4 ls []) rfl ?_
  refine lv_aload_n hx hb dX0_init_4 rfl (lv_at hl 0 rfl) ?_
  refine lv_iconst (v := (nI 0)) hx hb dX0_init_5 (by decide) ?_
  refine va_newa (atype := .byte) (ty := .byte) (N' := 0) (a0 := (0, .inl (bf zf))) hx hb lk_4 rfl hK hP hD hS hA (zrowB 0) (nI_pos (by omega)) (nI_clamp (by omega)) (by show 0 * 1 ≤ 536870912; omega) (Nat.le_of_ble_eq_true rfl) (Nat.le_of_ble_eq_true rfl) dX0_init_6 (fun q1 y1 H hK hP hD hS => ?_)
  have hK : va_K (dC, dI) vwCl [(y1, .byte)] s := hK
  have hP : va_P (dC, dI) vwCl ([(h0, .inr (0, [.null, .int (nI 0)])), (q1, .inl (y1, 0, .inl (bf zf)))]) H := hP
  have hD : va_D A ([(h0, .inr (0, [.null, .int (nI 0)])), (q1, .inl (y1, 0, .inl (bf zf)))]) := hD
  refine va_put (D := (dC, dI)) (ci := 0) (v := .ref q1) (ty := .array .byte) (C := RX0) (T := TX0) (N := 2) hx hb hts in_X0 tyX0 tyX0_ok nmX0 hown hK hP hD hS 0 rfl rfl 0 (by decide) lk_5 (fun _ h9 => h9) rfl (by decide +kernel) rfl rfl (Nat.le_of_ble_eq_true rfl) dX0_init_8 (fun H locs hP hD hS => ?_)
  have hP : va_P (dC, dI) vwCl ([(h0, .inr (0, [.ref q1, .int (nI 0)])), (q1, .inl (y1, 0, .inl (bf zf)))]) H := hP
  have hD : va_D A ([(h0, .inr (0, [.ref q1, .int (nI 0)])), (q1, .inl (y1, 0, .inl (bf zf)))]) := hD
  refine W.widen (k := 1) (n := 0) (Nat.le_of_ble_eq_true rfl) (Nat.le_of_ble_eq_true rfl) ?_
  have hP : va_P (dC, dI) vwCl (ow y1 (fun k => match k with | 0 => h0 | _ => q1) 0 0 zf) H := hP
  have hD : va_D A (ow y1 (fun k => match k with | 0 => h0 | _ => q1) 0 0 zf) := hD
  have hK := hK.sub (tys' := [(y1, .byte)]) [0] rfl
  exact W.vret hx hb hr (fun t ht hW => ⟨⟨(y1, (fun k => match k with | 0 => h0 | _ => q1)), rfl, rfl, by rw [ht]; exact hP, va_K.moved hW.alike hK, hD⟩, hS.F ht⟩) hS.2.2 dX0_init_11
