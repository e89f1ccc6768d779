/-- the row of the kept -/
abbrev krw (cS : ClassId) (kq : Nat) (kr : Nat → Option Nat) : va_W := [(kq, .inl (cS, 4, .inr (.inr (.inr (.inr kr)))))]
section TPV
variable {p : Program} {l : Launch} {e : Env} {R : Room} {s : State} {m : MethodId} {args : Array Value} {below : List Frame} {meth : Method} {c : Code} {H : Heap} {locs : List Loc} {cells slots : Nat} {Q : State → Prop}
theorem tpv {pc : Nat} {ls : Array Slot} {rest : List Value} {x y : Value} (h : x = y) (k : W p l e R s m args below meth c H locs cells slots Q (F0 m pc ls (y :: rest))) : W p l e R s m args below meth c H locs cells slots Q (F0 m pc ls (x :: rest)) := h ▸ k
end TPV
set_option maxHeartbeats 4000000 in
set_option maxRecDepth 100000 in
theorem c_X3_lastKept (l : Launch) (dC : Nat → ClassId) (dI : Nat → Nat → Nat) (cB cI cS : ClassId) (h kq : Nat) (sp : Option Nat) (k o b : Nat → Nat) (kp : Nat) (ga : Nat) (gl : Nat) (kr : Nat → Option Nat)  (g9 : kp ≤ 4) : Met l yX3_lastKept wsX3_lastKept ({ frames := 0, cells := 0, slots := 0, locals := 0 }) (va_Pc [.ref h] (fun U => va_P (dC, dI) vwCl (gw h kq sp k o b kp ga gl ++ krw cS kq kr) U.heap ∧ va_K (dC, dI) vwCl [(cI, .int), (cB, .byte), (cS, .object "GlulxHeap$State")] U)) (va_Sq (fun r => (kp = 0 ∧ r = none) ∨ (0 < kp ∧ r = kr (kp - 1)))) 0 0 (fun _ => False) := by
  refine Met.ofW (cc := cX3_lastKept) (maxL := 1) (ret := (some (.object "GlulxHeap$State"))) (by decide) rfl ?_
  intro p e s m args below meth c s₁ B hml hv
  obtain ⟨rfl, hP, hK⟩ := hv
  have hx := B.exec
  have hb := B.bytes
  have hr := B.returns
  have hts := atoms_spec (ws := wsX3_lastKept) B.pre
  have hown : s.vm.findClass RX3 = some m.cls := findClass_of_methodNamed B.named
  have hlocks := B.notSynchronized
  have in_X3 : ∀ w ∈ wsX30, w ∈ wsX3_lastKept := fun _ h => List.mem_cons_of_mem _ (List.mem_append_right _ (h))
  have lk_1 := hts (.fieldLink RX3 160 "GlulxHeap" "keptCount" "I") (List.mem_of_getElem? (i := 1) rfl)
  have lk_2 := hts (.fieldLink RX3 11 "GlulxHeap" "kept" "[LGlulxHeap$State;") (List.mem_of_getElem? (i := 2) rfl)
  have hl := lv_entry ([.ref h]) (n := 1) (Nat.le_of_ble_eq_true rfl)
  rw [lg_entry_eq]
  generalize (lg_sl ([.ref h]) ++ List.replicate (1 - (lg_sl ([.ref h])).length) Slot.unset).toArray = ls at hl ⊢
  have hl : lv_has ls 1 [(0, .ref h)] := hl
  refine lv_aload_n hx hb dX3_lastKept_0 rfl (lv_at hl 0 rfl) ?_
  refine va_get (D := (dC, dI)) (ci := 3) (v := .int (nI kp)) (C := RX3) (T := TX3) (N := 8) hx hb hts in_X3 hown hK hP 0 rfl rfl 5 (by decide) lk_1 (fun _ h9 => h9) rfl dX3_lastKept_1 ?_
  refine lv_if_le (tgt := 29) hx hb dX3_lastKept_4 (by decide) (fun c_4 => ?_) (fun c_4 => ?_)
  · have c_4 : kp ≤ 0 := (nZ_le (by omega)).mp c_4
    refine lv_null hx hb dX3_lastKept_29 ?_
    exact W.aret (v := .null) hx hb hr (Or.inl ⟨_, rfl⟩) (Or.inl rfl) (fun t ht hW => ⟨none, rfl, Or.inl ⟨by omega, rfl⟩, ht⟩) (fun _ h9 => absurd h9 List.not_mem_nil) dX3_lastKept_30
  · have c_4 : ¬ kp ≤ 0 := fun q => c_4 ((nZ_le (by omega)).mpr q)
    refine lv_aload_n hx hb dX3_lastKept_7 rfl (lv_at hl 0 rfl) ?_
    refine va_get (D := (dC, dI)) (ci := 3) (v := .int (nI kp)) (C := RX3) (T := TX3) (N := 8) hx hb hts in_X3 hown hK hP 0 rfl rfl 5 (by decide) lk_1 (fun _ h9 => h9) rfl dX3_lastKept_8 ?_
    refine lv_iconst (v := (nI 4)) hx hb dX3_lastKept_11 (by decide) ?_
    refine lv_icmp_gt (tgt := 29) hx hb dX3_lastKept_12 (by decide) (fun c_12 => ?_) (fun c_12 => ?_)
    · have c_12 : 4 < kp := (nI_ltI (a := 4) (b := kp) (by omega) (by omega)).mp c_12
      omega
    · have c_12 : ¬ 4 < kp := fun q => c_12 ((nI_ltI (a := 4) (b := kp) (by omega) (by omega)).mpr q)
      refine lv_aload_n hx hb dX3_lastKept_15 rfl (lv_at hl 0 rfl) ?_
      refine va_get (D := (dC, dI)) (ci := 3) (v := .ref kq) (C := RX3) (T := TX3) (N := 8) hx hb hts in_X3 hown hK hP 0 rfl rfl 0 (by decide) lk_2 (fun _ h9 => h9) rfl dX3_lastKept_16 ?_
      refine lv_aload_n hx hb dX3_lastKept_19 rfl (lv_at hl 0 rfl) ?_
      refine va_get (D := (dC, dI)) (ci := 3) (v := .int (nI kp)) (C := RX3) (T := TX3) (N := 8) hx hb hts in_X3 hown hK hP 0 rfl rfl 5 (by decide) lk_1 (fun _ h9 => h9) rfl dX3_lastKept_20 ?_
      refine lv_iconst (v := (nI 1)) hx hb dX3_lastKept_23 (by decide) ?_
      refine lv_isub hx hb dX3_lastKept_24 ?_
      refine tpi (pk_sub (by omega)) ?_
      refine va_aldq hx hb hK hP 1 2 rfl rfl (vp_in_nI (by omega) (by omega)) dX3_lastKept_25 ?_
      refine tpv (show va_rf (kr (nI (kp - 1)).toNatClampNeg) = va_rf (kr (kp - 1)) by rw [nI_clamp (by omega)]; first | done | rfl) ?_
      refine lv_goto (tgt := 30) hx hb dX3_lastKept_26 (by decide) ?_
      exact W.aret (v := va_rf (kr (kp - 1))) hx hb hr (Or.inl ⟨_, rfl⟩) (va_rf_or _) (fun t ht hW => ⟨kr (kp - 1), rfl, Or.inr ⟨by omega, rfl⟩, ht⟩) (fun _ h9 => absurd h9 List.not_mem_nil) dX3_lastKept_30
set_option maxHeartbeats 4000000 in
set_option maxRecDepth 100000 in
theorem c_X3_spareState (l : Launch) (dC : Nat → ClassId) (dI : Nat → Nat → Nat) (cB cI cS : ClassId) (h kq : Nat) (k o b d : Nat → Nat) (kp : Nat) (ga : Nat) (gl : Nat)   : Met l yX3_spareState wsX3_spareState ({ frames := 0, cells := 0, slots := 0, locals := 0 }) (va_Pc [.ref h] (fun U => va_P (dC, dI) vwCl (gw h kq (some (d 0)) k o b kp ga gl) U.heap ∧ va_K (dC, dI) vwCl [(cI, .int), (cB, .byte)] U)) (va_Sq (fun r => r = some (d 0))) 0 0 (fun _ => False) := by
  refine Met.ofW (cc := cX3_spareState) (maxL := 1) (ret := (some (.object "GlulxHeap$State"))) (by decide) rfl ?_
  intro p e s m args below meth c s₁ B hml hv
  obtain ⟨rfl, hP, hK⟩ := hv
  have hx := B.exec
  have hb := B.bytes
  have hr := B.returns
  have hts := atoms_spec (ws := wsX3_spareState) B.pre
  have hown : s.vm.findClass RX3 = some m.cls := findClass_of_methodNamed B.named
  have hlocks := B.notSynchronized
  have in_X3 : ∀ w ∈ wsX30, w ∈ wsX3_spareState := fun _ h => List.mem_cons_of_mem _ (List.mem_append_left _ (List.mem_append_right _ (h)))
  have lk_1 := hts (.fieldLink RX3 177 "GlulxHeap" "spare" "LGlulxHeap$State;") (List.mem_of_getElem? (i := 1) rfl)
  have hl := lv_entry ([.ref h]) (n := 1) (Nat.le_of_ble_eq_true rfl)
  rw [lg_entry_eq]
  generalize (lg_sl ([.ref h]) ++ List.replicate (1 - (lg_sl ([.ref h])).length) Slot.unset).toArray = ls at hl ⊢
  have hl : lv_has ls 1 [(0, .ref h)] := hl
  refine lv_aload_n hx hb dX3_spareState_0 rfl (lv_at hl 0 rfl) ?_
  refine va_get (D := (dC, dI)) (ci := 3) (v := .ref (d 0)) (C := RX3) (T := TX3) (N := 8) hx hb hts in_X3 hown hK hP 0 rfl rfl 4 (by decide) lk_1 (fun _ h9 => h9) rfl dX3_spareState_1 ?_
  refine lv_ifnonnull (tgt := 18) hx hb dX3_spareState_4 (by decide) ?_
  refine lv_aload_n hx hb dX3_spareState_18 rfl (lv_at hl 0 rfl) ?_
  refine va_get (D := (dC, dI)) (ci := 3) (v := .ref (d 0)) (C := RX3) (T := TX3) (N := 8) hx hb hts in_X3 hown hK hP 0 rfl rfl 4 (by decide) lk_1 (fun _ h9 => h9) rfl dX3_spareState_19 ?_
  exact W.aret (v := .ref (d 0)) hx hb hr (Or.inl ⟨_, rfl⟩) (Or.inr ⟨_, rfl⟩) (fun t ht hW => ⟨some (d 0), rfl, rfl, ht⟩) (fun _ h9 => absurd h9 List.not_mem_nil) dX3_spareState_22
set_option maxHeartbeats 4000000 in
set_option maxRecDepth 100000 in
theorem c_X3_spareState0 (l : Launch) (dC : Nat → ClassId) (dI : Nat → Nat → Nat) (cB cI cS : ClassId) (h kq : Nat) (k o b : Nat → Nat) (kp : Nat) (ga : Nat) (gl : Nat) (zz : Nat)   : Met l yX3_spareState wsX3_spareState ({ frames := 2, cells := 4, slots := 8326, locals := 32 }) (va_Pc [.ref h] (fun U => U.heap.size = zz ∧ va_P (dC, dI) vwCl (gw h kq none k o b kp ga gl) U.heap ∧ va_K (dC, dI) vwCl [(cI, .int), (cB, .byte)] U ∧ va_D (fun _ => True) (gw h kq none k o b kp ga gl) ∧ va_Nw (.methodLinkNest RX3 29 yX2_init "GlulxHeap") U)) (va_Qq (fun (r : Option Nat) (d : (Nat → Nat)) => r = some (d 0)) (fun (d : (Nat → Nat)) t => va_P (dC, dI) vwCl (gw h kq (some (d 0)) k o b kp ga gl ++ sw cB cI d 0 0 0 zf zf zf) t.heap ∧ va_K (dC, dI) vwCl [(cI, .int), (cB, .byte)] t ∧ va_D (va_A (gw h kq none k o b kp ga gl) zz) (gw h kq (some (d 0)) k o b kp ga gl ++ sw cB cI d 0 0 0 zf zf zf)) (va_A (gw h kq none k o b kp ga gl) zz)) 4 8326 (va_A (gw h kq none k o b kp ga gl) zz) := by
  refine Met.ofW (cc := cX3_spareState) (maxL := 1) (ret := (some (.object "GlulxHeap$State"))) (by decide) rfl ?_
  intro p e s m args below meth c s₁ B hml hv
  obtain ⟨rfl, hsz, hP, hK, hD0, hN0⟩ := hv
  have hx := B.exec
  have hb := B.bytes
  have hr := B.returns
  have hts := atoms_spec (ws := wsX3_spareState) B.pre
  have hown : s.vm.findClass RX3 = some m.cls := findClass_of_methodNamed B.named
  have hlocks := B.notSynchronized
  subst hsz
  have hD := hD0.self (sz := s.heap.size)
  generalize hAe : va_A (gw h kq none k o b kp ga gl) s.heap.size = A at hD ⊢
  have hA : ∀ q : Nat, s.heap.size ≤ q → A q := fun q h => by rw [← hAe]; exact Or.inr h
  have hS : va_S A s.heap s.heap [] := va_S.rf
  have hP : va_P (dC, dI) vwCl (gw h kq none k o b kp ga gl) s.heap := hP
  have in_X2 : ∀ w ∈ wsX20, w ∈ wsX3_spareState := fun _ h => List.mem_cons_of_mem _ (List.mem_append_right _ (h))
  have in_X3 : ∀ w ∈ wsX30, w ∈ wsX3_spareState := fun _ h => List.mem_cons_of_mem _ (List.mem_append_left _ (List.mem_append_right _ (h)))
  have lk_1 := hts (.fieldLink RX3 177 "GlulxHeap" "spare" "LGlulxHeap$State;") (List.mem_of_getElem? (i := 1) rfl)
  have lk_2 := hts (.classLink RX3 9 RX2) (List.mem_of_getElem? (i := 2) rfl)
  have lk_3 := hts (.instantiable RX2 6) (List.mem_of_getElem? (i := 3) rfl)
  have lk_4 := hts (.initialized RX2) (List.mem_of_getElem? (i := 4) rfl)
  have lk_5 := hts (.instanceMethod yX2_init) (List.mem_of_getElem? (i := 5) rfl)
  have hl := lv_entry ([.ref h]) (n := 1) (Nat.le_of_ble_eq_true rfl)
  rw [lg_entry_eq]
  generalize (lg_sl ([.ref h]) ++ List.replicate (1 - (lg_sl ([.ref h])).length) Slot.unset).toArray = ls at hl ⊢
  have hl : lv_has ls 1 [(0, .ref h)] := hl
  refine lv_aload_n hx hb dX3_spareState_0 rfl (lv_at hl 0 rfl) ?_
  refine va_get (D := (dC, dI)) (ci := 3) (v := .null) (C := RX3) (T := TX3) (N := 8) hx hb hts in_X3 hown hK hP 0 rfl rfl 4 (by decide) lk_1 (fun _ h9 => h9) rfl dX3_spareState_1 ?_
  refine lv_ifnonnullN hx hb dX3_spareState_4 ?_
  refine lv_aload_n hx hb dX3_spareState_7 rfl (lv_at hl 0 rfl) ?_
  refine va_new (ci := 2) (fs := [.null, .null, .null, .int (nI 0), .int (nI 0), .int (nI 0)]) (C := RX2) (T := TX2) (N := 6) hx hb hts in_X2 tyX2 tyX2_ok hown lk_2 lk_3 lk_4 hK hP hD hS hA rfl (fun j hj => by rcases (show j = 0 ∨ j = 1 ∨ j = 2 ∨ j = 3 ∨ j = 4 ∨ j = 5 by omega) with rfl | rfl | rfl | rfl | rfl | rfl <;> rfl) (Nat.le_of_ble_eq_true rfl) (Nat.le_of_ble_eq_true rfl) dX3_spareState_8 (fun n8 H hP hD hS => ?_)
  have hP : va_P (dC, dI) vwCl (gw h kq none k o b kp ga gl ++ [(n8, .inr (2, [.null, .null, .null, .int (nI 0), .int (nI 0), .int (nI 0)]))]) H := hP
  have hD : va_D A (gw h kq none k o b kp ga gl ++ [(n8, .inr (2, [.null, .null, .null, .int (nI 0), .int (nI 0), .int (nI 0)]))]) := hD
  refine lv_dup hx hb dX3_spareState_11 rfl ?_
  have hPc := hP.sub (ws' := [(n8, .inr (2, [.null, .null, .null, .int (nI 0), .int (nI 0), .int (nI 0)]))]) [1] rfl
  have hKc := hK.sub (tys' := []) [] rfl
  have hDc := hD.sub (ws' := [(n8, .inr (2, [.null, .null, .null, .int (nI 0), .int (nI 0), .int (nI 0)]))]) [1] (by decide) rfl
  have hFc := va_free (wc := [(n8, .inr (2, [.null, .null, .null, .int (nI 0), .int (nI 0), .int (nI 0)]))]) hD hS hA [1] rfl
  refine va_callv (va_runIN (As := []) (rest := [.ref n8, .ref h]) ⟨hx, hb, hml, hown, hts⟩ (c_X2_init l dC dI n8 H.size) ⟨va_cnB 0 hts gX3_spareState_X2_init_n29 rfl rfl rfl hN0 lk_4 (by decide +kernel) ⟨Nat.le_of_ble_eq_true rfl, Nat.le_of_ble_eq_true rfl⟩, rfl, lk_5⟩ ⟨fun a9 U g9 mk9 q9 => by obtain ⟨q0, q1, qP, qK, qD⟩ := q9; exact ⟨q0, q1, qP, va_K.moved (u := U) (U := U.calling g9 mk9 a9) (Vm.Alike.refl U.vm) qK, qD⟩, fun U hU hW => ⟨rfl, by rw [hU], by rw [hU]; exact hPc, va_K.moved hW.alike hKc, hDc.weaken (fun _ _ _ _ => trivial)⟩⟩ rfl rfl hl.1 rfl (lv_room (Nat.le_of_ble_eq_true rfl)) dX3_spareState_12 ⟨Nat.le_of_ble_eq_true rfl, Nat.le_of_ble_eq_true rfl⟩) hS (fun q _ h => hFc q h) hFc (fun u t H1 locs ht9 hvm9 hw hB hz9 hk9 hS => ?_)
  obtain ⟨⟨y1, y2⟩, d⟩ := u
  obtain ⟨hP1, hK1, hD1⟩ := hB
  rw [ht9] at hP1
  have hK1 := va_K.moved hvm9.symm hK1
  try dsimp only at hw hP1 hK1 hD1
  have hKK := hK.app hK1
  obtain rfl : cI = y2 := (va_one hKK 0 2 rfl rfl).symm
  obtain rfl : cB = y1 := (va_oneB hKK 1 3 rfl rfl).symm
  subst hw
  obtain ⟨hP, hD⟩ := va_join (wr := gw h kq none k o b kp ga gl) (w1 := sw cB cI d 0 0 0 zf zf zf) hP hD [1] [0] rfl rfl (by decide) (by decide) hk9 hFc hP1 hD1
  generalize H1 = H at hP hS ⊢
  have hP : va_P (dC, dI) vwCl (gw h kq none k o b kp ga gl ++ sw cB cI d 0 0 0 zf zf zf) H := hP
  have hD : va_D A (gw h kq none k o b kp ga gl ++ sw cB cI d 0 0 0 zf zf zf) := hD
  refine va_put (D := (dC, dI)) (ci := 3) (v := .ref (d 0)) (ty := .object "GlulxHeap$State") (C := RX3) (T := TX3) (N := 8) hx hb hts in_X3 tyX3 tyX3_ok nmX3 hown hK hP hD hS 0 rfl rfl 4 (by decide) lk_1 (fun _ h9 => h9) rfl (by decide +kernel) rfl rfl (Nat.le_of_ble_eq_true rfl) dX3_spareState_15 (fun H locs hP hD hS => ?_)
  have hP : va_P (dC, dI) vwCl (gw h kq (some (d 0)) k o b kp ga gl ++ sw cB cI d 0 0 0 zf zf zf) H := hP
  have hD : va_D A (gw h kq (some (d 0)) k o b kp ga gl ++ sw cB cI d 0 0 0 zf zf zf) := hD
  refine lv_aload_n hx hb dX3_spareState_18 rfl (lv_at hl 0 rfl) ?_
  refine va_get (D := (dC, dI)) (ci := 3) (v := .ref (d 0)) (C := RX3) (T := TX3) (N := 8) hx hb hts in_X3 hown hK hP 0 rfl rfl 4 (by decide) lk_1 (fun _ h9 => h9) rfl dX3_spareState_19 ?_
  refine W.widen (k := 4) (n := 8326) (Nat.le_of_ble_eq_true rfl) (Nat.le_of_ble_eq_true rfl) ?_
  exact W.aret (v := .ref (d 0)) hx hb hr (Or.inl ⟨_, rfl⟩) (Or.inr ⟨_, rfl⟩) (fun t ht hW => ⟨⟨some (d 0), d, rfl, rfl, by rw [ht]; exact hP, va_K.moved hW.alike hK, hD⟩, hS.F ht⟩) hS.2.2 dX3_spareState_22
