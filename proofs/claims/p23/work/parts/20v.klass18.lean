theorem rdKS_r {cs : Nat} {cd m g : Nat → Nat} (h : rdKS cs cd m = .inr g) : hdH cs cd = none := by
  rcases hh : hdH cs cd with _ | w
  · rfl
  · rw [rdKS_h hh] at h; cases h
set_option maxHeartbeats 4000000 in
set_option maxRecDepth 100000 in
theorem c_X3_keepF (l : Launch) (dC : Nat → ClassId) (dI : Nat → Nat → Nat) (cB cI cS : ClassId) (h kq : Nat) (sp : Option Nat) (k o b : Nat → Nat) (kp : Nat) (ga : Nat) (gl : Nat)  (g9 : kp = 4) : Met l yX3_keep wsX3_keep ({ frames := 0, cells := 0, slots := 0, locals := 0 }) (va_Pc [.ref h] (fun U => va_P (dC, dI) vwCl (gw h kq sp k o b kp ga gl) U.heap ∧ va_K (dC, dI) vwCl [(cI, .int), (cB, .byte), (cS, .object "GlulxHeap$State")] U)) (vp_Si (fun r => r = (-15))) 0 0 (fun _ => False) := by
  refine Met.ofW (cc := cX3_keep) (maxL := 2) (ret := (some .int)) (by decide) rfl ?_
  intro p e s m args below meth c s₁ B hml hv
  obtain ⟨rfl, hP, hK⟩ := hv
  have hx := B.exec
  have hb := B.bytes
  have hr := B.returns
  have hts := atoms_spec (ws := wsX3_keep) B.pre
  have hown : s.vm.findClass RX3 = some m.cls := findClass_of_methodNamed B.named
  have hlocks := B.notSynchronized
  have in_X3 : ∀ w ∈ wsX30, w ∈ wsX3_keep := fun _ h => List.mem_cons_of_mem _ (List.mem_append_left _ (List.mem_append_right _ (h)))
  have lk_1 := hts (.fieldLink RX3 160 "GlulxHeap" "keptCount" "I") (List.mem_of_getElem? (i := 1) rfl)
  have hl := lv_entry ([.ref h]) (n := 2) (Nat.le_of_ble_eq_true rfl)
  rw [lg_entry_eq]
  generalize (lg_sl ([.ref h]) ++ List.replicate (2 - (lg_sl ([.ref h])).length) Slot.unset).toArray = ls at hl ⊢
  have hl : lv_has ls 2 [(0, .ref h)] := hl
  refine lv_aload_n hx hb dX3_keep_0 rfl (lv_at hl 0 rfl) ?_
  refine va_get (D := (dC, dI)) (ci := 3) (v := .int (nI kp)) (C := RX3) (T := TX3) (N := 8) hx hb hts in_X3 hown hK hP 0 rfl rfl 5 (by decide) lk_1 (fun _ h9 => h9) rfl dX3_keep_1 ?_
  refine lv_iconst (v := (nI 4)) hx hb dX3_keep_4 (by decide) ?_
  refine lv_icmp_lt (tgt := 11) hx hb dX3_keep_5 (by decide) (fun c_5 => ?_) (fun c_5 => ?_)
  · have c_5 : kp < 4 := (nI_ltI (a := kp) (b := 4) (by omega) (by omega)).mp c_5
    omega
  · have c_5 : ¬ kp < 4 := fun q => c_5 ((nI_ltI (a := kp) (b := 4) (by omega) (by omega)).mpr q)
    refine lv_bipush (v := ((-15))) hx hb dX3_keep_8 (by decide) ?_
    exact W.iret (v := ((-15))) hx hb hr (fun t ht hW => ⟨((-15)), rfl, (show ((-15)) = (-15) from rfl), ht⟩) (fun _ h9 => absurd h9 List.not_mem_nil) dX3_keep_10
set_option maxHeartbeats 4000000 in
set_option maxRecDepth 100000 in
theorem c_X3_keepO (l : Launch) (dC : Nat → ClassId) (dI : Nat → Nat → Nat) (cB cI cS : ClassId) (h kq : Nat) (sp : Option Nat) (k o b d : Nat → Nat) (kp : Nat) (ga : Nat) (gl : Nat) (kr : Nat → Option Nat) (sz : Nat) (st : Nat) (us : Nat) (mem : Nat → Nat) (pl : Nat → Nat) (ln : Nat → Nat) (sz2 : Nat) (st2 : Nat) (us2 : Nat) (mem2 : Nat → Nat) (pl2 : Nat → Nat) (ln2 : Nat → Nat) (zz : Nat)  (g9 : kp < 4) (g1 : kr kp = some (d 0)) : Met l yX3_keep wsX3_keep ({ frames := 2, cells := 0, slots := 0, locals := 61 }) (va_Pc [.ref h] (fun U => U.heap.size = zz ∧ va_P (dC, dI) vwCl (gw h kq sp k o b kp ga gl ++ krw cS kq kr ++ sw cB cI b sz st us mem pl ln ++ sw cB cI d sz2 st2 us2 mem2 pl2 ln2) U.heap ∧ va_K (dC, dI) vwCl [(cI, .int), (cB, .byte), (cS, .object "GlulxHeap$State")] U ∧ va_D (fun _ => True) (gw h kq sp k o b kp ga gl ++ krw cS kq kr ++ sw cB cI b sz st us mem pl ln ++ sw cB cI d sz2 st2 us2 mem2 pl2 ln2))) (va_Qi (fun (r : Int32) (_ : Unit) => r = nI (kp + 1)) (fun (_ : Unit) t => va_P (dC, dI) vwCl (gw h kq sp k o b (kp + 1) ga gl ++ krw cS kq kr ++ sw cB cI b sz st us mem pl ln ++ sw cB cI d sz st us (va_cpy mem mem2 0 0 8192) (va_cpy pl pl2 0 0 64) (va_cpy ln ln2 0 0 64)) t.heap ∧ va_K (dC, dI) vwCl [(cI, .int), (cB, .byte), (cS, .object "GlulxHeap$State")] t ∧ va_D (va_A (gw h kq sp k o b kp ga gl ++ krw cS kq kr ++ sw cB cI b sz st us mem pl ln ++ sw cB cI d sz2 st2 us2 mem2 pl2 ln2) zz) (gw h kq sp k o b (kp + 1) ga gl ++ krw cS kq kr ++ sw cB cI b sz st us mem pl ln ++ sw cB cI d sz st us (va_cpy mem mem2 0 0 8192) (va_cpy pl pl2 0 0 64) (va_cpy ln ln2 0 0 64))) (va_A (gw h kq sp k o b kp ga gl ++ krw cS kq kr ++ sw cB cI b sz st us mem pl ln ++ sw cB cI d sz2 st2 us2 mem2 pl2 ln2) zz)) 0 0 (va_A (gw h kq sp k o b kp ga gl ++ krw cS kq kr ++ sw cB cI b sz st us mem pl ln ++ sw cB cI d sz2 st2 us2 mem2 pl2 ln2) zz) := by
  refine Met.ofW (cc := cX3_keep) (maxL := 2) (ret := (some .int)) (by decide) rfl ?_
  intro p e s m args below meth c s₁ B hml hv
  obtain ⟨rfl, hsz, hP, hK, hD0⟩ := hv
  have hx := B.exec
  have hb := B.bytes
  have hr := B.returns
  have hts := atoms_spec (ws := wsX3_keep) B.pre
  have hown : s.vm.findClass RX3 = some m.cls := findClass_of_methodNamed B.named
  have hlocks := B.notSynchronized
  subst hsz
  have hD := hD0.self (sz := s.heap.size)
  generalize hAe : va_A (gw h kq sp k o b kp ga gl ++ krw cS kq kr ++ sw cB cI b sz st us mem pl ln ++ sw cB cI d sz2 st2 us2 mem2 pl2 ln2) s.heap.size = A at hD ⊢
  have hA : ∀ q : Nat, s.heap.size ≤ q → A q := fun q h => by rw [← hAe]; exact Or.inr h
  have hS : va_S A s.heap s.heap [] := va_S.rf
  have hP : va_P (dC, dI) vwCl (gw h kq sp k o b kp ga gl ++ krw cS kq kr ++ sw cB cI b sz st us mem pl ln ++ sw cB cI d sz2 st2 us2 mem2 pl2 ln2) s.heap := hP
  have in_X3 : ∀ w ∈ wsX30, w ∈ wsX3_keep := fun _ h => List.mem_cons_of_mem _ (List.mem_append_left _ (List.mem_append_right _ (h)))
  have lk_1 := hts (.fieldLink RX3 160 "GlulxHeap" "keptCount" "I") (List.mem_of_getElem? (i := 1) rfl)
  have lk_2 := hts (.fieldLink RX3 11 "GlulxHeap" "kept" "[LGlulxHeap$State;") (List.mem_of_getElem? (i := 2) rfl)
  have lk_6 := hts (.fieldLink RX3 30 "GlulxHeap" "now" "LGlulxHeap$State;") (List.mem_of_getElem? (i := 6) rfl)
  have hl := lv_entry ([.ref h]) (n := 2) (Nat.le_of_ble_eq_true rfl)
  rw [lg_entry_eq]
  generalize (lg_sl ([.ref h]) ++ List.replicate (2 - (lg_sl ([.ref h])).length) Slot.unset).toArray = ls at hl ⊢
  have hl : lv_has ls 2 [(0, .ref h)] := hl
  refine lv_aload_n hx hb dX3_keep_0 rfl (lv_at hl 0 rfl) ?_
  refine va_get (D := (dC, dI)) (ci := 3) (v := .int (nI kp)) (C := RX3) (T := TX3) (N := 8) hx hb hts in_X3 hown hK hP 0 rfl rfl 5 (by decide) lk_1 (fun _ h9 => h9) rfl dX3_keep_1 ?_
  refine lv_iconst (v := (nI 4)) hx hb dX3_keep_4 (by decide) ?_
  refine lv_icmp_lt (tgt := 11) hx hb dX3_keep_5 (by decide) (fun c_5 => ?_) (fun c_5 => ?_)
  · have c_5 : kp < 4 := (nI_ltI (a := kp) (b := 4) (by omega) (by omega)).mp c_5
    refine lv_aload_n hx hb dX3_keep_11 rfl (lv_at hl 0 rfl) ?_
    refine va_get (D := (dC, dI)) (ci := 3) (v := .ref kq) (C := RX3) (T := TX3) (N := 8) hx hb hts in_X3 hown hK hP 0 rfl rfl 0 (by decide) lk_2 (fun _ h9 => h9) rfl dX3_keep_12 ?_
    refine lv_aload_n hx hb dX3_keep_15 rfl (lv_at hl 0 rfl) ?_
    refine va_get (D := (dC, dI)) (ci := 3) (v := .int (nI kp)) (C := RX3) (T := TX3) (N := 8) hx hb hts in_X3 hown hK hP 0 rfl rfl 5 (by decide) lk_1 (fun _ h9 => h9) rfl dX3_keep_16 ?_
    refine va_aldq hx hb hK hP 1 2 rfl rfl (vp_in_nI (by omega) (by omega)) dX3_keep_19 ?_
    refine tpv (show va_rf (kr (nI kp).toNatClampNeg) = Value.ref (d 0) by rw [nI_clamp (by omega), g1]; first | done | rfl) ?_
    refine lv_astore_n (lv' := [(1, .ref (d 0)), (0, .ref h)]) hx hb dX3_keep_20 rfl hl (by decide) rfl (fun ls hl => ?_)
    refine lv_aload_n hx hb dX3_keep_21 rfl (lv_at hl 0 rfl) ?_
    refine lv_ifnonnull (tgt := 43) hx hb dX3_keep_22 (by decide) ?_
    refine lv_aload_n hx hb dX3_keep_43 rfl (lv_at hl 0 rfl) ?_
    refine lv_aload_n hx hb dX3_keep_44 rfl (lv_at hl 1 rfl) ?_
    refine va_get (D := (dC, dI)) (ci := 3) (v := .ref (b 0)) (C := RX3) (T := TX3) (N := 8) hx hb hts in_X3 hown hK hP 0 rfl rfl 3 (by decide) lk_6 (fun _ h9 => h9) rfl dX3_keep_45 ?_
    have hPc := hP.sub (ws' := sw cB cI d sz2 st2 us2 mem2 pl2 ln2 ++ sw cB cI b sz st us mem pl ln) [6, 7, 8, 9, 2, 3, 4, 5] rfl
    have hKc := hK.sub (tys' := [(cI, .int), (cB, .byte)]) [0, 1] rfl
    have hDc := hD.sub (ws' := sw cB cI d sz2 st2 us2 mem2 pl2 ln2 ++ sw cB cI b sz st us mem pl ln) [6, 7, 8, 9, 2, 3, 4, 5] (by decide) rfl
    have hFc := va_free (wc := sw cB cI d sz2 st2 us2 mem2 pl2 ln2 ++ sw cB cI b sz st us mem pl ln) hD hS hA [6, 7, 8, 9, 2, 3, 4, 5] rfl
    refine va_callv (va_runV (As := [.ref (b 0)]) (rest := []) ⟨hx, hb, hml, hown, hts⟩ (c_X2_become l dC dI cB cI d b sz2 st2 us2 mem2 pl2 ln2 sz st us mem pl ln s.heap.size ) (cwV 1 hts gX3_keep_X2_become rfl rfl rfl (by decide +kernel) ⟨Nat.le_of_ble_eq_true rfl, Nat.le_of_ble_eq_true rfl⟩) ⟨fun a9 U g9 mk9 q9 => by obtain ⟨q0, q1, qP, qK, qD⟩ := q9; exact ⟨q0, q1, qP, va_K.moved (u := U) (U := U.calling g9 mk9 a9) (Vm.Alike.refl U.vm) qK, qD⟩, va_recv hKc hPc (ci := 2) (q0 := 0) rfl rfl, fun U hU hW => ⟨rfl, by rw [hU], by rw [hU]; exact hPc, va_K.moved hW.alike hKc, hDc.weaken (fun _ _ _ _ => trivial)⟩⟩ rfl rfl hl.1 rfl (lv_room (Nat.le_of_ble_eq_true rfl)) dX3_keep_48 ⟨Nat.zero_le _, Nat.zero_le _⟩) hS (fun q _ h => hFc q h) hFc (fun u t H1 locs ht9 hvm9 hw hB hz9 hk9 hS => ?_)
    obtain ⟨hP1, hK1, hD1⟩ := hB
    rw [ht9] at hP1
    obtain ⟨hP, hD⟩ := va_join (wr := gw h kq sp k o b kp ga gl ++ krw cS kq kr) (w1 := sw cB cI d sz st us (va_cpy mem mem2 0 0 8192) (va_cpy pl pl2 0 0 64) (va_cpy ln ln2 0 0 64) ++ sw cB cI b sz st us mem pl ln) hP hD [6, 7, 8, 9, 2, 3, 4, 5] [0, 1] rfl rfl (by decide) (by decide) hk9 hFc hP1 hD1
    generalize H1 = H at hP hS ⊢
    have hP := hP.sub (ws' := gw h kq sp k o b kp ga gl ++ krw cS kq kr ++ sw cB cI b sz st us mem pl ln ++ sw cB cI d sz st us (va_cpy mem mem2 0 0 8192) (va_cpy pl pl2 0 0 64) (va_cpy ln ln2 0 0 64)) [0, 1, 6, 7, 8, 9, 2, 3, 4, 5] rfl
    have hD := hD.sub (ws' := gw h kq sp k o b kp ga gl ++ krw cS kq kr ++ sw cB cI b sz st us mem pl ln ++ sw cB cI d sz st us (va_cpy mem mem2 0 0 8192) (va_cpy pl pl2 0 0 64) (va_cpy ln ln2 0 0 64)) [0, 1, 6, 7, 8, 9, 2, 3, 4, 5] (by decide) rfl
    have hP : va_P (dC, dI) vwCl (gw h kq sp k o b kp ga gl ++ krw cS kq kr ++ sw cB cI b sz st us mem pl ln ++ sw cB cI d sz st us (va_cpy mem mem2 0 0 8192) (va_cpy pl pl2 0 0 64) (va_cpy ln ln2 0 0 64)) H := hP
    have hD : va_D A (gw h kq sp k o b kp ga gl ++ krw cS kq kr ++ sw cB cI b sz st us mem pl ln ++ sw cB cI d sz st us (va_cpy mem mem2 0 0 8192) (va_cpy pl pl2 0 0 64) (va_cpy ln ln2 0 0 64)) := hD
    refine lv_aload_n hx hb dX3_keep_51 rfl (lv_at hl 1 rfl) ?_
    refine lv_dup hx hb dX3_keep_52 rfl ?_
    refine va_get (D := (dC, dI)) (ci := 3) (v := .int (nI kp)) (C := RX3) (T := TX3) (N := 8) hx hb hts in_X3 hown hK hP 0 rfl rfl 5 (by decide) lk_1 (fun _ h9 => h9) rfl dX3_keep_53 ?_
    refine lv_iconst (v := (nI 1)) hx hb dX3_keep_56 (by decide) ?_
    refine lv_iadd hx hb dX3_keep_57 ?_
    refine tpi (nI_add _ _) ?_
    refine va_put (D := (dC, dI)) (ci := 3) (v := .int (nI (kp + 1))) (ty := .int) (C := RX3) (T := TX3) (N := 8) hx hb hts in_X3 tyX3 tyX3_ok nmX3 hown hK hP hD hS 0 rfl rfl 5 (by decide) lk_1 (fun _ h9 => h9) rfl (by decide +kernel) rfl rfl (Nat.le_of_ble_eq_true rfl) dX3_keep_58 (fun H locs hP hD hS => ?_)
    have hP : va_P (dC, dI) vwCl (gw h kq sp k o b (kp + 1) ga gl ++ krw cS kq kr ++ sw cB cI b sz st us mem pl ln ++ sw cB cI d sz st us (va_cpy mem mem2 0 0 8192) (va_cpy pl pl2 0 0 64) (va_cpy ln ln2 0 0 64)) H := hP
    have hD : va_D A (gw h kq sp k o b (kp + 1) ga gl ++ krw cS kq kr ++ sw cB cI b sz st us mem pl ln ++ sw cB cI d sz st us (va_cpy mem mem2 0 0 8192) (va_cpy pl pl2 0 0 64) (va_cpy ln ln2 0 0 64)) := hD
    refine lv_aload_n hx hb dX3_keep_61 rfl (lv_at hl 1 rfl) ?_
    refine va_get (D := (dC, dI)) (ci := 3) (v := .int (nI (kp + 1))) (C := RX3) (T := TX3) (N := 8) hx hb hts in_X3 hown hK hP 0 rfl rfl 5 (by decide) lk_1 (fun _ h9 => h9) rfl dX3_keep_62 ?_
    have hP : va_P (dC, dI) vwCl (gw h kq sp k o b (kp + 1) ga gl ++ krw cS kq kr ++ sw cB cI b sz st us mem pl ln ++ sw cB cI d sz st us (va_cpy mem mem2 0 0 8192) (va_cpy pl pl2 0 0 64) (va_cpy ln ln2 0 0 64)) H := hP
    have hD : va_D A (gw h kq sp k o b (kp + 1) ga gl ++ krw cS kq kr ++ sw cB cI b sz st us mem pl ln ++ sw cB cI d sz st us (va_cpy mem mem2 0 0 8192) (va_cpy pl pl2 0 0 64) (va_cpy ln ln2 0 0 64)) := hD
    exact W.iret (v := (nI (kp + 1))) hx hb hr (fun t ht hW => ⟨⟨(nI (kp + 1)), (), rfl, (show (nI (kp + 1)) = nI (kp + 1) from rfl), by rw [ht]; exact hP, va_K.moved hW.alike hK, hD⟩, hS.F ht⟩) hS.2.2 dX3_keep_65
  · have c_5 : ¬ kp < 4 := fun q => c_5 ((nI_ltI (a := kp) (b := 4) (by omega) (by omega)).mpr q)
    omega
set_option maxHeartbeats 4000000 in
set_option maxRecDepth 100000 in
theorem c_X3_keepN (l : Launch) (dC : Nat → ClassId) (dI : Nat → Nat → Nat) (cB cI cS : ClassId) (h kq : Nat) (sp : Option Nat) (k o b : Nat → Nat) (kp : Nat) (ga : Nat) (gl : Nat) (kr : Nat → Option Nat) (sz : Nat) (st : Nat) (us : Nat) (mem : Nat → Nat) (pl : Nat → Nat) (ln : Nat → Nat) (zz : Nat)  (g9 : kp < 4) (g1 : kr kp = none) : Met l yX3_keep wsX3_keep ({ frames := 2, cells := 4, slots := 8326, locals := 61 }) (va_Pc [.ref h] (fun U => U.heap.size = zz ∧ va_P (dC, dI) vwCl (gw h kq sp k o b kp ga gl ++ krw cS kq kr ++ sw cB cI b sz st us mem pl ln) U.heap ∧ va_K (dC, dI) vwCl [(cI, .int), (cB, .byte), (cS, .object "GlulxHeap$State")] U ∧ va_D (fun _ => True) (gw h kq sp k o b kp ga gl ++ krw cS kq kr ++ sw cB cI b sz st us mem pl ln) ∧ va_Nw (.methodLinkNest RX3 29 yX2_init "GlulxHeap") U)) (va_Qi (fun (r : Int32) (d : (Nat → Nat)) => r = nI (kp + 1)) (fun (d : (Nat → Nat)) t => va_P (dC, dI) vwCl (gw h kq sp k o b (kp + 1) ga gl ++ krw cS kq (va_up kr kp (some (d 0))) ++ sw cB cI b sz st us mem pl ln ++ sw cB cI d sz st us (va_cpy mem zf 0 0 8192) (va_cpy pl zf 0 0 64) (va_cpy ln zf 0 0 64)) t.heap ∧ va_K (dC, dI) vwCl [(cI, .int), (cB, .byte), (cS, .object "GlulxHeap$State")] t ∧ va_D (va_A (gw h kq sp k o b kp ga gl ++ krw cS kq kr ++ sw cB cI b sz st us mem pl ln) zz) (gw h kq sp k o b (kp + 1) ga gl ++ krw cS kq (va_up kr kp (some (d 0))) ++ sw cB cI b sz st us mem pl ln ++ sw cB cI d sz st us (va_cpy mem zf 0 0 8192) (va_cpy pl zf 0 0 64) (va_cpy ln zf 0 0 64))) (va_A (gw h kq sp k o b kp ga gl ++ krw cS kq kr ++ sw cB cI b sz st us mem pl ln) zz)) 4 8326 (va_A (gw h kq sp k o b kp ga gl ++ krw cS kq kr ++ sw cB cI b sz st us mem pl ln) zz) := by
  refine Met.ofW (cc := cX3_keep) (maxL := 2) (ret := (some .int)) (by decide) rfl ?_
  intro p e s m args below meth c s₁ B hml hv
  obtain ⟨rfl, hsz, hP, hK, hD0, hN0⟩ := hv
  have hx := B.exec
  have hb := B.bytes
  have hr := B.returns
  have hts := atoms_spec (ws := wsX3_keep) B.pre
  have hown : s.vm.findClass RX3 = some m.cls := findClass_of_methodNamed B.named
  have hlocks := B.notSynchronized
  subst hsz
  have hD := hD0.self (sz := s.heap.size)
  generalize hAe : va_A (gw h kq sp k o b kp ga gl ++ krw cS kq kr ++ sw cB cI b sz st us mem pl ln) s.heap.size = A at hD ⊢
  have hA : ∀ q : Nat, s.heap.size ≤ q → A q := fun q h => by rw [← hAe]; exact Or.inr h
  have hS : va_S A s.heap s.heap [] := va_S.rf
  have hP : va_P (dC, dI) vwCl (gw h kq sp k o b kp ga gl ++ krw cS kq kr ++ sw cB cI b sz st us mem pl ln) s.heap := hP
  have in_X2 : ∀ w ∈ wsX20, w ∈ wsX3_keep := fun _ h => List.mem_cons_of_mem _ (List.mem_append_right _ (h))
  have in_X3 : ∀ w ∈ wsX30, w ∈ wsX3_keep := fun _ h => List.mem_cons_of_mem _ (List.mem_append_left _ (List.mem_append_right _ (h)))
  have lk_1 := hts (.fieldLink RX3 160 "GlulxHeap" "keptCount" "I") (List.mem_of_getElem? (i := 1) rfl)
  have lk_2 := hts (.fieldLink RX3 11 "GlulxHeap" "kept" "[LGlulxHeap$State;") (List.mem_of_getElem? (i := 2) rfl)
  have lk_3 := hts (.classLink RX3 9 RX2) (List.mem_of_getElem? (i := 3) rfl)
  have lk_4 := hts (.instantiable RX2 6) (List.mem_of_getElem? (i := 4) rfl)
  have lk_5 := hts (.initialized RX2) (List.mem_of_getElem? (i := 5) rfl)
  have lk_6 := hts (.fieldLink RX3 30 "GlulxHeap" "now" "LGlulxHeap$State;") (List.mem_of_getElem? (i := 6) rfl)
  have lk_7 := hts (.instanceMethod yX2_init) (List.mem_of_getElem? (i := 7) rfl)
  have hl := lv_entry ([.ref h]) (n := 2) (Nat.le_of_ble_eq_true rfl)
  rw [lg_entry_eq]
  generalize (lg_sl ([.ref h]) ++ List.replicate (2 - (lg_sl ([.ref h])).length) Slot.unset).toArray = ls at hl ⊢
  have hl : lv_has ls 2 [(0, .ref h)] := hl
  refine lv_aload_n hx hb dX3_keep_0 rfl (lv_at hl 0 rfl) ?_
  refine va_get (D := (dC, dI)) (ci := 3) (v := .int (nI kp)) (C := RX3) (T := TX3) (N := 8) hx hb hts in_X3 hown hK hP 0 rfl rfl 5 (by decide) lk_1 (fun _ h9 => h9) rfl dX3_keep_1 ?_
  refine lv_iconst (v := (nI 4)) hx hb dX3_keep_4 (by decide) ?_
  refine lv_icmp_lt (tgt := 11) hx hb dX3_keep_5 (by decide) (fun c_5 => ?_) (fun c_5 => ?_)
  · have c_5 : kp < 4 := (nI_ltI (a := kp) (b := 4) (by omega) (by omega)).mp c_5
    refine lv_aload_n hx hb dX3_keep_11 rfl (lv_at hl 0 rfl) ?_
    refine va_get (D := (dC, dI)) (ci := 3) (v := .ref kq) (C := RX3) (T := TX3) (N := 8) hx hb hts in_X3 hown hK hP 0 rfl rfl 0 (by decide) lk_2 (fun _ h9 => h9) rfl dX3_keep_12 ?_
    refine lv_aload_n hx hb dX3_keep_15 rfl (lv_at hl 0 rfl) ?_
    refine va_get (D := (dC, dI)) (ci := 3) (v := .int (nI kp)) (C := RX3) (T := TX3) (N := 8) hx hb hts in_X3 hown hK hP 0 rfl rfl 5 (by decide) lk_1 (fun _ h9 => h9) rfl dX3_keep_16 ?_
    refine va_aldq hx hb hK hP 1 2 rfl rfl (vp_in_nI (by omega) (by omega)) dX3_keep_19 ?_
    refine tpv (show va_rf (kr (nI kp).toNatClampNeg) = Value.null by rw [nI_clamp (by omega), g1]; first | done | rfl) ?_
    refine lv_astore_nN (lv' := [(1, .null), (0, .ref h)]) hx hb dX3_keep_20 rfl hl (by decide) rfl (fun ls hl => ?_)
    refine lv_aload_nN hx hb dX3_keep_21 rfl (lv_at hl 0 rfl) ?_
    refine lv_ifnonnullN hx hb dX3_keep_22 ?_
    refine va_new (ci := 2) (fs := [.null, .null, .null, .int (nI 0), .int (nI 0), .int (nI 0)]) (C := RX2) (T := TX2) (N := 6) hx hb hts in_X2 tyX2 tyX2_ok hown lk_3 lk_4 lk_5 hK hP hD hS hA rfl (fun j hj => by rcases (show j = 0 ∨ j = 1 ∨ j = 2 ∨ j = 3 ∨ j = 4 ∨ j = 5 by omega) with rfl | rfl | rfl | rfl | rfl | rfl <;> rfl) (Nat.le_of_ble_eq_true rfl) (Nat.le_of_ble_eq_true rfl) dX3_keep_25 (fun n25 H hP hD hS => ?_)
    have hP : va_P (dC, dI) vwCl (gw h kq sp k o b kp ga gl ++ krw cS kq kr ++ sw cB cI b sz st us mem pl ln ++ [(n25, .inr (2, [.null, .null, .null, .int (nI 0), .int (nI 0), .int (nI 0)]))]) H := hP
    have hD : va_D A (gw h kq sp k o b kp ga gl ++ krw cS kq kr ++ sw cB cI b sz st us mem pl ln ++ [(n25, .inr (2, [.null, .null, .null, .int (nI 0), .int (nI 0), .int (nI 0)]))]) := hD
    refine lv_dup hx hb dX3_keep_28 rfl ?_
    have hPc := hP.sub (ws' := [(n25, .inr (2, [.null, .null, .null, .int (nI 0), .int (nI 0), .int (nI 0)]))]) [6] rfl
    have hKc := hK.sub (tys' := []) [] rfl
    have hDc := hD.sub (ws' := [(n25, .inr (2, [.null, .null, .null, .int (nI 0), .int (nI 0), .int (nI 0)]))]) [6] (by decide) rfl
    have hFc := va_free (wc := [(n25, .inr (2, [.null, .null, .null, .int (nI 0), .int (nI 0), .int (nI 0)]))]) hD hS hA [6] rfl
    refine va_callv (va_runIN (As := []) (rest := [.ref n25]) ⟨hx, hb, hml, hown, hts⟩ (c_X2_init l dC dI n25 H.size) ⟨va_cnB 0 hts gX3_keep_X2_init_n29 rfl rfl rfl hN0 lk_5 (by decide +kernel) ⟨Nat.le_of_ble_eq_true rfl, Nat.le_of_ble_eq_true rfl⟩, rfl, lk_7⟩ ⟨fun a9 U g9 mk9 q9 => by obtain ⟨q0, q1, qP, qK, qD⟩ := q9; exact ⟨q0, q1, qP, va_K.moved (u := U) (U := U.calling g9 mk9 a9) (Vm.Alike.refl U.vm) qK, qD⟩, fun U hU hW => ⟨rfl, by rw [hU], by rw [hU]; exact hPc, va_K.moved hW.alike hKc, hDc.weaken (fun _ _ _ _ => trivial)⟩⟩ rfl rfl hl.1 rfl (lv_room (Nat.le_of_ble_eq_true rfl)) dX3_keep_29 ⟨Nat.le_of_ble_eq_true rfl, Nat.le_of_ble_eq_true rfl⟩) hS (fun q _ h => hFc q h) hFc (fun u t H1 locs ht9 hvm9 hw hB hz9 hk9 hS => ?_)
    obtain ⟨⟨y1, y2⟩, d⟩ := u
    obtain ⟨hP1, hK1, hD1⟩ := hB
    rw [ht9] at hP1
    have hK1 := va_K.moved hvm9.symm hK1
    try dsimp only at hw hP1 hK1 hD1
    have hKK := hK.app hK1
    obtain rfl : cI = y2 := (va_one hKK 0 3 rfl rfl).symm
    obtain rfl : cB = y1 := (va_oneB hKK 1 4 rfl rfl).symm
    subst hw
    obtain ⟨hP, hD⟩ := va_join (wr := gw h kq sp k o b kp ga gl ++ krw cS kq kr ++ sw cB cI b sz st us mem pl ln) (w1 := sw cB cI d 0 0 0 zf zf zf) hP hD [6] [0, 1, 2, 3, 4, 5] rfl rfl (by decide) (by decide) hk9 hFc hP1 hD1
    generalize H1 = H at hP hS ⊢
    have hP : va_P (dC, dI) vwCl (gw h kq sp k o b kp ga gl ++ krw cS kq kr ++ sw cB cI b sz st us mem pl ln ++ sw cB cI d 0 0 0 zf zf zf) H := hP
    have hD : va_D A (gw h kq sp k o b kp ga gl ++ krw cS kq kr ++ sw cB cI b sz st us mem pl ln ++ sw cB cI d 0 0 0 zf zf zf) := hD
    refine lv_astore_n (lv' := [(1, .ref (d 0)), (0, .ref h)]) hx hb dX3_keep_32 rfl hl (by decide) rfl (fun ls hl => ?_)
    refine lv_aload_n hx hb dX3_keep_33 rfl (lv_at hl 1 rfl) ?_
    refine va_get (D := (dC, dI)) (ci := 3) (v := .ref kq) (C := RX3) (T := TX3) (N := 8) hx hb hts in_X3 hown hK hP 0 rfl rfl 0 (by decide) lk_2 (fun _ h9 => h9) rfl dX3_keep_34 ?_
    refine lv_aload_n hx hb dX3_keep_37 rfl (lv_at hl 1 rfl) ?_
    refine va_get (D := (dC, dI)) (ci := 3) (v := .int (nI kp)) (C := RX3) (T := TX3) (N := 8) hx hb hts in_X3 hown hK hP 0 rfl rfl 5 (by decide) lk_1 (fun _ h9 => h9) rfl dX3_keep_38 ?_
    refine lv_aload_n hx hb dX3_keep_41 rfl (lv_at hl 0 rfl) ?_
    refine va_astq (r := (RX2, TX2, 6)) hx hb hK hP hD hS 1 2 6 2 rfl rfl rfl rfl (vp_in_nI (by omega) (by omega)) dX3_keep_42 (fun H locs hP hD hS => ?_)
    rw [nI_clamp (by omega)] at hP hD
    have hP : va_P (dC, dI) vwCl (gw h kq sp k o b kp ga gl ++ krw cS kq (va_up kr kp (some (d 0))) ++ sw cB cI b sz st us mem pl ln ++ sw cB cI d 0 0 0 zf zf zf) H := hP
    have hD : va_D A (gw h kq sp k o b kp ga gl ++ krw cS kq (va_up kr kp (some (d 0))) ++ sw cB cI b sz st us mem pl ln ++ sw cB cI d 0 0 0 zf zf zf) := hD
    refine lv_aload_n hx hb dX3_keep_43 rfl (lv_at hl 0 rfl) ?_
    refine lv_aload_n hx hb dX3_keep_44 rfl (lv_at hl 1 rfl) ?_
    refine va_get (D := (dC, dI)) (ci := 3) (v := .ref (b 0)) (C := RX3) (T := TX3) (N := 8) hx hb hts in_X3 hown hK hP 0 rfl rfl 3 (by decide) lk_6 (fun _ h9 => h9) rfl dX3_keep_45 ?_
    have hPc := hP.sub (ws' := sw cB cI d 0 0 0 zf zf zf ++ sw cB cI b sz st us mem pl ln) [6, 7, 8, 9, 2, 3, 4, 5] rfl
    have hKc := hK.sub (tys' := [(cI, .int), (cB, .byte)]) [0, 1] rfl
    have hDc := hD.sub (ws' := sw cB cI d 0 0 0 zf zf zf ++ sw cB cI b sz st us mem pl ln) [6, 7, 8, 9, 2, 3, 4, 5] (by decide) rfl
    have hFc := va_free (wc := sw cB cI d 0 0 0 zf zf zf ++ sw cB cI b sz st us mem pl ln) hD hS hA [6, 7, 8, 9, 2, 3, 4, 5] rfl
    refine va_callv (va_runV (As := [.ref (b 0)]) (rest := []) ⟨hx, hb, hml, hown, hts⟩ (c_X2_become l dC dI cB cI d b 0 0 0 zf zf zf sz st us mem pl ln H.size ) (cwV 1 hts gX3_keep_X2_become rfl rfl rfl (by decide +kernel) ⟨Nat.le_of_ble_eq_true rfl, Nat.le_of_ble_eq_true rfl⟩) ⟨fun a9 U g9 mk9 q9 => by obtain ⟨q0, q1, qP, qK, qD⟩ := q9; exact ⟨q0, q1, qP, va_K.moved (u := U) (U := U.calling g9 mk9 a9) (Vm.Alike.refl U.vm) qK, qD⟩, va_recv hKc hPc (ci := 2) (q0 := 0) rfl rfl, fun U hU hW => ⟨rfl, by rw [hU], by rw [hU]; exact hPc, va_K.moved hW.alike hKc, hDc.weaken (fun _ _ _ _ => trivial)⟩⟩ rfl rfl hl.1 rfl (lv_room (Nat.le_of_ble_eq_true rfl)) dX3_keep_48 ⟨Nat.le_of_ble_eq_true rfl, Nat.le_of_ble_eq_true rfl⟩) hS (fun q _ h => hFc q h) hFc (fun u t H1 locs ht9 hvm9 hw hB hz9 hk9 hS => ?_)
    obtain ⟨hP1, hK1, hD1⟩ := hB
    rw [ht9] at hP1
    obtain ⟨hP, hD⟩ := va_join (wr := gw h kq sp k o b kp ga gl ++ krw cS kq (va_up kr kp (some (d 0)))) (w1 := sw cB cI d sz st us (va_cpy mem zf 0 0 8192) (va_cpy pl zf 0 0 64) (va_cpy ln zf 0 0 64) ++ sw cB cI b sz st us mem pl ln) hP hD [6, 7, 8, 9, 2, 3, 4, 5] [0, 1] rfl rfl (by decide) (by decide) hk9 hFc hP1 hD1
    generalize H1 = H at hP hS ⊢
    have hP := hP.sub (ws' := gw h kq sp k o b kp ga gl ++ krw cS kq (va_up kr kp (some (d 0))) ++ sw cB cI b sz st us mem pl ln ++ sw cB cI d sz st us (va_cpy mem zf 0 0 8192) (va_cpy pl zf 0 0 64) (va_cpy ln zf 0 0 64)) [0, 1, 6, 7, 8, 9, 2, 3, 4, 5] rfl
    have hD := hD.sub (ws' := gw h kq sp k o b kp ga gl ++ krw cS kq (va_up kr kp (some (d 0))) ++ sw cB cI b sz st us mem pl ln ++ sw cB cI d sz st us (va_cpy mem zf 0 0 8192) (va_cpy pl zf 0 0 64) (va_cpy ln zf 0 0 64)) [0, 1, 6, 7, 8, 9, 2, 3, 4, 5] (by decide) rfl
    have hP : va_P (dC, dI) vwCl (gw h kq sp k o b kp ga gl ++ krw cS kq (va_up kr kp (some (d 0))) ++ sw cB cI b sz st us mem pl ln ++ sw cB cI d sz st us (va_cpy mem zf 0 0 8192) (va_cpy pl zf 0 0 64) (va_cpy ln zf 0 0 64)) H := hP
    have hD : va_D A (gw h kq sp k o b kp ga gl ++ krw cS kq (va_up kr kp (some (d 0))) ++ sw cB cI b sz st us mem pl ln ++ sw cB cI d sz st us (va_cpy mem zf 0 0 8192) (va_cpy pl zf 0 0 64) (va_cpy ln zf 0 0 64)) := hD
    refine lv_aload_n hx hb dX3_keep_51 rfl (lv_at hl 1 rfl) ?_
    refine lv_dup hx hb dX3_keep_52 rfl ?_
    refine va_get (D := (dC, dI)) (ci := 3) (v := .int (nI kp)) (C := RX3) (T := TX3) (N := 8) hx hb hts in_X3 hown hK hP 0 rfl rfl 5 (by decide) lk_1 (fun _ h9 => h9) rfl dX3_keep_53 ?_
    refine lv_iconst (v := (nI 1)) hx hb dX3_keep_56 (by decide) ?_
    refine lv_iadd hx hb dX3_keep_57 ?_
    refine tpi (nI_add _ _) ?_
    refine va_put (D := (dC, dI)) (ci := 3) (v := .int (nI (kp + 1))) (ty := .int) (C := RX3) (T := TX3) (N := 8) hx hb hts in_X3 tyX3 tyX3_ok nmX3 hown hK hP hD hS 0 rfl rfl 5 (by decide) lk_1 (fun _ h9 => h9) rfl (by decide +kernel) rfl rfl (Nat.le_of_ble_eq_true rfl) dX3_keep_58 (fun H locs hP hD hS => ?_)
    have hP : va_P (dC, dI) vwCl (gw h kq sp k o b (kp + 1) ga gl ++ krw cS kq (va_up kr kp (some (d 0))) ++ sw cB cI b sz st us mem pl ln ++ sw cB cI d sz st us (va_cpy mem zf 0 0 8192) (va_cpy pl zf 0 0 64) (va_cpy ln zf 0 0 64)) H := hP
    have hD : va_D A (gw h kq sp k o b (kp + 1) ga gl ++ krw cS kq (va_up kr kp (some (d 0))) ++ sw cB cI b sz st us mem pl ln ++ sw cB cI d sz st us (va_cpy mem zf 0 0 8192) (va_cpy pl zf 0 0 64) (va_cpy ln zf 0 0 64)) := hD
    refine lv_aload_n hx hb dX3_keep_61 rfl (lv_at hl 1 rfl) ?_
    refine va_get (D := (dC, dI)) (ci := 3) (v := .int (nI (kp + 1))) (C := RX3) (T := TX3) (N := 8) hx hb hts in_X3 hown hK hP 0 rfl rfl 5 (by decide) lk_1 (fun _ h9 => h9) rfl dX3_keep_62 ?_
    refine W.widen (k := 4) (n := 8326) (Nat.le_of_ble_eq_true rfl) (Nat.le_of_ble_eq_true rfl) ?_
    exact W.iret (v := (nI (kp + 1))) hx hb hr (fun t ht hW => ⟨⟨(nI (kp + 1)), (d), rfl, (show (nI (kp + 1)) = nI (kp + 1) from rfl), by rw [ht]; exact hP, va_K.moved hW.alike hK, hD⟩, hS.F ht⟩) hS.2.2 dX3_keep_65
  · have c_5 : ¬ kp < 4 := fun q => c_5 ((nI_ltI (a := kp) (b := 4) (by omega) (by omega)).mpr q)
    omega
set_option maxHeartbeats 4000000 in
set_option maxRecDepth 100000 in
theorem c_X3_back0 (l : Launch) (dC : Nat → ClassId) (dI : Nat → Nat → Nat) (cB cI cS : ClassId) (h kq : Nat) (sp : Option Nat) (k o b : Nat → Nat) (kp : Nat) (ga : Nat) (gl : Nat) (kr : Nat → Option Nat)  (g9 : kp = 0) : Met l yX3_back wsX3_back ({ frames := 1, cells := 0, slots := 0, locals := 20 }) (va_Pc [.ref h] (fun U => va_P (dC, dI) vwCl (gw h kq sp k o b kp ga gl ++ krw cS kq kr) U.heap ∧ va_K (dC, dI) vwCl [(cI, .int), (cB, .byte), (cS, .object "GlulxHeap$State")] U)) (vp_Si (fun r => r = (-11))) 0 0 (fun _ => False) := by
  refine Met.ofW (cc := cX3_back) (maxL := 2) (ret := (some .int)) (by decide) rfl ?_
  intro p e s m args below meth c s₁ B hml hv
  obtain ⟨rfl, hP, hK⟩ := hv
  have hx := B.exec
  have hb := B.bytes
  have hr := B.returns
  have hts := atoms_spec (ws := wsX3_back) B.pre
  have hown : s.vm.findClass RX3 = some m.cls := findClass_of_methodNamed B.named
  have hlocks := B.notSynchronized
  have hl := lv_entry ([.ref h]) (n := 2) (Nat.le_of_ble_eq_true rfl)
  rw [lg_entry_eq]
  generalize (lg_sl ([.ref h]) ++ List.replicate (2 - (lg_sl ([.ref h])).length) Slot.unset).toArray = ls at hl ⊢
  have hl : lv_has ls 2 [(0, .ref h)] := hl
  refine lv_aload_n hx hb dX3_back_0 rfl (lv_at hl 0 rfl) ?_
  have hPc := hP.sub (ws' := gw h kq sp k o b kp ga gl ++ krw cS kq kr) [0, 1] rfl
  have hKc := hK.sub (tys' := [(cI, .int), (cB, .byte), (cS, .object "GlulxHeap$State")]) [0, 1, 2] rfl
  refine va_csq (W.runV (As := []) (rest := []) ⟨hx, hb, hml, hown, hts⟩ (c_X3_lastKept l dC dI cB cI cS h kq sp k o b kp ga gl kr (by omega)) (cwV 0 hts gX3_back_X3_lastKept rfl rfl rfl (by decide +kernel) ⟨Nat.le_of_ble_eq_true rfl, Nat.le_of_ble_eq_true rfl⟩) ⟨fun a9 U g9 mk9 q9 => by obtain ⟨q0, qP, qK⟩ := q9; exact ⟨q0, qP, va_K.moved (u := U) (U := U.calling g9 mk9 a9) (Vm.Alike.refl U.vm) qK⟩, va_recv hKc hPc (ci := 3) (q0 := 0) rfl rfl, fun U hU hW => ⟨rfl, by rw [hU]; exact hPc, va_K.moved hW.alike hKc⟩⟩ rfl rfl hl.1 rfl (lv_room (Nat.le_of_ble_eq_true rfl)) dX3_back_1 ⟨Nat.zero_le _, Nat.zero_le _⟩) (fun r_1 hw => ?_)
  try dsimp only at hw
  obtain ⟨-, rfl⟩ | ⟨hq9, -⟩ := hw
  case inr => exact absurd hq9 (by omega)
  refine lv_astore_nN (lv' := [(1, .null), (0, .ref h)]) hx hb dX3_back_4 rfl hl (by decide) rfl (fun ls hl => ?_)
  refine lv_aload_nN hx hb dX3_back_5 rfl (lv_at hl 0 rfl) ?_
  refine lv_ifnonnullN hx hb dX3_back_6 ?_
  refine lv_bipush (v := ((-11))) hx hb dX3_back_9 (by decide) ?_
  exact W.iret (v := ((-11))) hx hb hr (fun t ht hW => ⟨((-11)), rfl, (show ((-11)) = (-11) from rfl), ht⟩) (fun _ h9 => absurd h9 List.not_mem_nil) dX3_back_11
set_option maxHeartbeats 4000000 in
set_option maxRecDepth 100000 in
theorem c_X3_back1 (l : Launch) (dC : Nat → ClassId) (dI : Nat → Nat → Nat) (cB cI cS : ClassId) (h kq : Nat) (sp : Option Nat) (k o b d : Nat → Nat) (kp : Nat) (ga : Nat) (gl : Nat) (kr : Nat → Option Nat) (sz : Nat) (st : Nat) (us : Nat) (mem : Nat → Nat) (pl : Nat → Nat) (ln : Nat → Nat) (sz2 : Nat) (st2 : Nat) (us2 : Nat) (mem2 : Nat → Nat) (pl2 : Nat → Nat) (ln2 : Nat → Nat) (zz : Nat)  (g9 : kp ≤ 4) (g8 : 0 < kp) (g1 : kr (kp - 1) = some (d 0)) (g3 : sz ≤ 8192) (g6 : ga ≤ 8192) (g7 : gl ≤ 8192) (h3 : sz2 ≤ 8192) : Met l yX3_back wsX3_back ({ frames := 2, cells := 0, slots := 0, locals := 62 }) (va_Pc [.ref h] (fun U => U.heap.size = zz ∧ va_P (dC, dI) vwCl (gw h kq sp k o b kp ga gl ++ krw cS kq kr ++ sw cB cI b sz st us mem pl ln ++ sw cB cI d sz2 st2 us2 mem2 pl2 ln2) U.heap ∧ va_K (dC, dI) vwCl [(cI, .int), (cB, .byte), (cS, .object "GlulxHeap$State")] U ∧ va_D (fun _ => True) (gw h kq sp k o b kp ga gl ++ krw cS kq kr ++ sw cB cI b sz st us mem pl ln ++ sw cB cI d sz2 st2 us2 mem2 pl2 ln2))) (va_Qi (fun (r : Int32) (_ : Unit) => r = nI (kp - 1)) (fun (_ : Unit) t => va_P (dC, dI) vwCl (gw h kq sp k o d (kp - 1) ga gl ++ krw cS kq (va_up kr (kp - 1) (some (b 0))) ++ sw cB cI b sz st us mem pl ln ++ sw cB cI d sz2 st2 us2 (cbM mem mem2 ga gl (bth2 sz sz2)) pl2 ln2) t.heap ∧ va_K (dC, dI) vwCl [(cI, .int), (cB, .byte), (cS, .object "GlulxHeap$State")] t ∧ va_D (va_A (gw h kq sp k o b kp ga gl ++ krw cS kq kr ++ sw cB cI b sz st us mem pl ln ++ sw cB cI d sz2 st2 us2 mem2 pl2 ln2) zz) (gw h kq sp k o d (kp - 1) ga gl ++ krw cS kq (va_up kr (kp - 1) (some (b 0))) ++ sw cB cI b sz st us mem pl ln ++ sw cB cI d sz2 st2 us2 (cbM mem mem2 ga gl (bth2 sz sz2)) pl2 ln2)) (va_A (gw h kq sp k o b kp ga gl ++ krw cS kq kr ++ sw cB cI b sz st us mem pl ln ++ sw cB cI d sz2 st2 us2 mem2 pl2 ln2) zz)) 0 0 (va_A (gw h kq sp k o b kp ga gl ++ krw cS kq kr ++ sw cB cI b sz st us mem pl ln ++ sw cB cI d sz2 st2 us2 mem2 pl2 ln2) zz) := by
  refine Met.ofW (cc := cX3_back) (maxL := 2) (ret := (some .int)) (by decide) rfl ?_
  intro p e s m args below meth c s₁ B hml hv
  obtain ⟨rfl, hsz, hP, hK, hD0⟩ := hv
  have hx := B.exec
  have hb := B.bytes
  have hr := B.returns
  have hts := atoms_spec (ws := wsX3_back) B.pre
  have hown : s.vm.findClass RX3 = some m.cls := findClass_of_methodNamed B.named
  have hlocks := B.notSynchronized
  subst hsz
  have hD := hD0.self (sz := s.heap.size)
  generalize hAe : va_A (gw h kq sp k o b kp ga gl ++ krw cS kq kr ++ sw cB cI b sz st us mem pl ln ++ sw cB cI d sz2 st2 us2 mem2 pl2 ln2) s.heap.size = A at hD ⊢
  have hA : ∀ q : Nat, s.heap.size ≤ q → A q := fun q h => by rw [← hAe]; exact Or.inr h
  have hS : va_S A s.heap s.heap [] := va_S.rf
  have hP : va_P (dC, dI) vwCl (gw h kq sp k o b kp ga gl ++ krw cS kq kr ++ sw cB cI b sz st us mem pl ln ++ sw cB cI d sz2 st2 us2 mem2 pl2 ln2) s.heap := hP
  have in_X3 : ∀ w ∈ wsX30, w ∈ wsX3_back := fun _ h => List.mem_cons_of_mem _ (List.mem_append_left _ (List.mem_append_right _ (h)))
  have lk_1 := hts (.fieldLink RX3 160 "GlulxHeap" "keptCount" "I") (List.mem_of_getElem? (i := 1) rfl)
  have lk_2 := hts (.fieldLink RX3 11 "GlulxHeap" "kept" "[LGlulxHeap$State;") (List.mem_of_getElem? (i := 2) rfl)
  have lk_3 := hts (.fieldLink RX3 30 "GlulxHeap" "now" "LGlulxHeap$State;") (List.mem_of_getElem? (i := 3) rfl)
  have hl := lv_entry ([.ref h]) (n := 2) (Nat.le_of_ble_eq_true rfl)
  rw [lg_entry_eq]
  generalize (lg_sl ([.ref h]) ++ List.replicate (2 - (lg_sl ([.ref h])).length) Slot.unset).toArray = ls at hl ⊢
  have hl : lv_has ls 2 [(0, .ref h)] := hl
  refine lv_aload_n hx hb dX3_back_0 rfl (lv_at hl 0 rfl) ?_
  have hPc := hP.sub (ws' := gw h kq sp k o b kp ga gl ++ krw cS kq kr) [0, 1] rfl
  have hKc := hK.sub (tys' := [(cI, .int), (cB, .byte), (cS, .object "GlulxHeap$State")]) [0, 1, 2] rfl
  refine va_csq (W.runV (As := []) (rest := []) ⟨hx, hb, hml, hown, hts⟩ (c_X3_lastKept l dC dI cB cI cS h kq sp k o b kp ga gl kr (by omega)) (cwV 0 hts gX3_back_X3_lastKept rfl rfl rfl (by decide +kernel) ⟨Nat.le_of_ble_eq_true rfl, Nat.le_of_ble_eq_true rfl⟩) ⟨fun a9 U g9 mk9 q9 => by obtain ⟨q0, qP, qK⟩ := q9; exact ⟨q0, qP, va_K.moved (u := U) (U := U.calling g9 mk9 a9) (Vm.Alike.refl U.vm) qK⟩, va_recv hKc hPc (ci := 3) (q0 := 0) rfl rfl, fun U hU hW => ⟨rfl, by rw [hU]; exact hPc, va_K.moved hW.alike hKc⟩⟩ rfl rfl hl.1 rfl (lv_room (Nat.le_of_ble_eq_true rfl)) dX3_back_1 ⟨Nat.zero_le _, Nat.zero_le _⟩) (fun r_1 hw => ?_)
  try dsimp only at hw
  obtain ⟨hq9, -⟩ | ⟨-, hw⟩ := hw
  case inl => exact absurd hq9 (by omega)
  rw [g1] at hw
  subst hw
  refine tpv (show va_rf (some (d 0)) = Value.ref (d 0) from rfl) ?_
  refine lv_astore_n (lv' := [(1, .ref (d 0)), (0, .ref h)]) hx hb dX3_back_4 rfl hl (by decide) rfl (fun ls hl => ?_)
  refine lv_aload_n hx hb dX3_back_5 rfl (lv_at hl 0 rfl) ?_
  refine lv_ifnonnull (tgt := 12) hx hb dX3_back_6 (by decide) ?_
  refine lv_aload_n hx hb dX3_back_12 rfl (lv_at hl 1 rfl) ?_
  refine lv_dup hx hb dX3_back_13 rfl ?_
  refine va_get (D := (dC, dI)) (ci := 3) (v := .int (nI kp)) (C := RX3) (T := TX3) (N := 8) hx hb hts in_X3 hown hK hP 0 rfl rfl 5 (by decide) lk_1 (fun _ h9 => h9) rfl dX3_back_14 ?_
  refine lv_iconst (v := (nI 1)) hx hb dX3_back_17 (by decide) ?_
  refine lv_isub hx hb dX3_back_18 ?_
  refine tpi (pk_sub (by omega)) ?_
  refine va_put (D := (dC, dI)) (ci := 3) (v := .int (nI (kp - 1))) (ty := .int) (C := RX3) (T := TX3) (N := 8) hx hb hts in_X3 tyX3 tyX3_ok nmX3 hown hK hP hD hS 0 rfl rfl 5 (by decide) lk_1 (fun _ h9 => h9) rfl (by decide +kernel) rfl rfl (Nat.le_of_ble_eq_true rfl) dX3_back_19 (fun H locs hP hD hS => ?_)
  have hP : va_P (dC, dI) vwCl (gw h kq sp k o b (kp - 1) ga gl ++ krw cS kq kr ++ sw cB cI b sz st us mem pl ln ++ sw cB cI d sz2 st2 us2 mem2 pl2 ln2) H := hP
  have hD : va_D A (gw h kq sp k o b (kp - 1) ga gl ++ krw cS kq kr ++ sw cB cI b sz st us mem pl ln ++ sw cB cI d sz2 st2 us2 mem2 pl2 ln2) := hD
  refine lv_aload_n hx hb dX3_back_22 rfl (lv_at hl 1 rfl) ?_
  refine va_get (D := (dC, dI)) (ci := 3) (v := .ref kq) (C := RX3) (T := TX3) (N := 8) hx hb hts in_X3 hown hK hP 0 rfl rfl 0 (by decide) lk_2 (fun _ h9 => h9) rfl dX3_back_23 ?_
  refine lv_aload_n hx hb dX3_back_26 rfl (lv_at hl 1 rfl) ?_
  refine va_get (D := (dC, dI)) (ci := 3) (v := .int (nI (kp - 1))) (C := RX3) (T := TX3) (N := 8) hx hb hts in_X3 hown hK hP 0 rfl rfl 5 (by decide) lk_1 (fun _ h9 => h9) rfl dX3_back_27 ?_
  refine lv_aload_n hx hb dX3_back_30 rfl (lv_at hl 1 rfl) ?_
  refine va_get (D := (dC, dI)) (ci := 3) (v := .ref (b 0)) (C := RX3) (T := TX3) (N := 8) hx hb hts in_X3 hown hK hP 0 rfl rfl 3 (by decide) lk_3 (fun _ h9 => h9) rfl dX3_back_31 ?_
  refine va_astq (r := (RX2, TX2, 6)) hx hb hK hP hD hS 1 2 2 2 rfl rfl rfl rfl (vp_in_nI (by omega) (by omega)) dX3_back_34 (fun H locs hP hD hS => ?_)
  rw [nI_clamp (by omega)] at hP hD
  have hP : va_P (dC, dI) vwCl (gw h kq sp k o b (kp - 1) ga gl ++ krw cS kq (va_up kr (kp - 1) (some (b 0))) ++ sw cB cI b sz st us mem pl ln ++ sw cB cI d sz2 st2 us2 mem2 pl2 ln2) H := hP
  have hD : va_D A (gw h kq sp k o b (kp - 1) ga gl ++ krw cS kq (va_up kr (kp - 1) (some (b 0))) ++ sw cB cI b sz st us mem pl ln ++ sw cB cI d sz2 st2 us2 mem2 pl2 ln2) := hD
  refine lv_aload_n hx hb dX3_back_35 rfl (lv_at hl 1 rfl) ?_
  refine lv_aload_n hx hb dX3_back_36 rfl (lv_at hl 0 rfl) ?_
  have hPc := hP.sub (ws' := gw h kq sp k o b (kp - 1) ga gl ++ sw cB cI b sz st us mem pl ln ++ sw cB cI d sz2 st2 us2 mem2 pl2 ln2) [0, 2, 3, 4, 5, 6, 7, 8, 9] rfl
  have hKc := hK.sub (tys' := [(cI, .int), (cB, .byte)]) [0, 1] rfl
  have hDc := hD.sub (ws' := gw h kq sp k o b (kp - 1) ga gl ++ sw cB cI b sz st us mem pl ln ++ sw cB cI d sz2 st2 us2 mem2 pl2 ln2) [0, 2, 3, 4, 5, 6, 7, 8, 9] (by decide) rfl
  have hFc := va_free (wc := gw h kq sp k o b (kp - 1) ga gl ++ sw cB cI b sz st us mem pl ln ++ sw cB cI d sz2 st2 us2 mem2 pl2 ln2) hD hS hA [0, 2, 3, 4, 5, 6, 7, 8, 9] rfl
  refine va_callv (va_runV (As := [.ref (d 0)]) (rest := []) ⟨hx, hb, hml, hown, hts⟩ (c_X3_comeBack l dC dI cB cI h kq sp k o b d (kp - 1) ga gl sz st us mem pl ln sz2 st2 us2 mem2 pl2 ln2 H.size (by omega) (by omega) (by omega) (by omega)) (cwV 1 hts gX3_back_X3_comeBack rfl rfl rfl (by decide +kernel) ⟨Nat.le_of_ble_eq_true rfl, Nat.le_of_ble_eq_true rfl⟩) ⟨fun a9 U g9 mk9 q9 => by obtain ⟨q0, q1, qP, qK, qD⟩ := q9; exact ⟨q0, q1, qP, va_K.moved (u := U) (U := U.calling g9 mk9 a9) (Vm.Alike.refl U.vm) qK, qD⟩, va_recv hKc hPc (ci := 3) (q0 := 0) rfl rfl, fun U hU hW => ⟨rfl, by rw [hU], by rw [hU]; exact hPc, va_K.moved hW.alike hKc, hDc.weaken (fun _ _ _ _ => trivial)⟩⟩ rfl rfl hl.1 rfl (lv_room (Nat.le_of_ble_eq_true rfl)) dX3_back_37 ⟨Nat.zero_le _, Nat.zero_le _⟩) hS (fun q _ h => hFc q h) hFc (fun u t H1 locs ht9 hvm9 hw hB hz9 hk9 hS => ?_)
  obtain ⟨hP1, hK1, hD1⟩ := hB
  rw [ht9] at hP1
  obtain ⟨hP, hD⟩ := va_join (wr := krw cS kq (va_up kr (kp - 1) (some (b 0)))) (w1 := gw h kq sp k o d (kp - 1) ga gl ++ sw cB cI b sz st us mem pl ln ++ sw cB cI d sz2 st2 us2 (cbM mem mem2 ga gl (bth2 sz sz2)) pl2 ln2) hP hD [0, 2, 3, 4, 5, 6, 7, 8, 9] [1] rfl rfl (by decide) (by decide) hk9 hFc hP1 hD1
  generalize H1 = H at hP hS ⊢
  have hP := hP.sub (ws' := gw h kq sp k o d (kp - 1) ga gl ++ krw cS kq (va_up kr (kp - 1) (some (b 0))) ++ sw cB cI b sz st us mem pl ln ++ sw cB cI d sz2 st2 us2 (cbM mem mem2 ga gl (bth2 sz sz2)) pl2 ln2) [1, 0, 2, 3, 4, 5, 6, 7, 8, 9] rfl
  have hD := hD.sub (ws' := gw h kq sp k o d (kp - 1) ga gl ++ krw cS kq (va_up kr (kp - 1) (some (b 0))) ++ sw cB cI b sz st us mem pl ln ++ sw cB cI d sz2 st2 us2 (cbM mem mem2 ga gl (bth2 sz sz2)) pl2 ln2) [1, 0, 2, 3, 4, 5, 6, 7, 8, 9] (by decide) rfl
  have hP : va_P (dC, dI) vwCl (gw h kq sp k o d (kp - 1) ga gl ++ krw cS kq (va_up kr (kp - 1) (some (b 0))) ++ sw cB cI b sz st us mem pl ln ++ sw cB cI d sz2 st2 us2 (cbM mem mem2 ga gl (bth2 sz sz2)) pl2 ln2) H := hP
  have hD : va_D A (gw h kq sp k o d (kp - 1) ga gl ++ krw cS kq (va_up kr (kp - 1) (some (b 0))) ++ sw cB cI b sz st us mem pl ln ++ sw cB cI d sz2 st2 us2 (cbM mem mem2 ga gl (bth2 sz sz2)) pl2 ln2) := hD
  refine lv_aload_n hx hb dX3_back_40 rfl (lv_at hl 1 rfl) ?_
  refine va_get (D := (dC, dI)) (ci := 3) (v := .int (nI (kp - 1))) (C := RX3) (T := TX3) (N := 8) hx hb hts in_X3 hown hK hP 0 rfl rfl 5 (by decide) lk_1 (fun _ h9 => h9) rfl dX3_back_41 ?_
  have hP : va_P (dC, dI) vwCl (gw h kq sp k o d (kp - 1) ga gl ++ krw cS kq (va_up kr (kp - 1) (some (b 0))) ++ sw cB cI b sz st us mem pl ln ++ sw cB cI d sz2 st2 us2 (cbM mem mem2 ga gl (bth2 sz sz2)) pl2 ln2) H := hP
  have hD : va_D A (gw h kq sp k o d (kp - 1) ga gl ++ krw cS kq (va_up kr (kp - 1) (some (b 0))) ++ sw cB cI b sz st us mem pl ln ++ sw cB cI d sz2 st2 us2 (cbM mem mem2 ga gl (bth2 sz sz2)) pl2 ln2) := hD
  exact W.iret (v := (nI (kp - 1))) hx hb hr (fun t ht hW => ⟨⟨(nI (kp - 1)), (), rfl, (show (nI (kp - 1)) = nI (kp - 1) from rfl), by rw [ht]; exact hP, va_K.moved hW.alike hK, hD⟩, hS.F ht⟩) hS.2.2 dX3_back_44
set_option maxHeartbeats 4000000 in
set_option maxRecDepth 100000 in
theorem c_X3_same0 (l : Launch) (dC : Nat → ClassId) (dI : Nat → Nat → Nat) (cB cI cS : ClassId) (h kq : Nat) (sp : Option Nat) (k o b : Nat → Nat) (kp : Nat) (ga : Nat) (gl : Nat) (kr : Nat → Option Nat)  (g9 : kp = 0) : Met l yX3_same wsX3_same ({ frames := 1, cells := 0, slots := 0, locals := 20 }) (va_Pc [.ref h] (fun U => va_P (dC, dI) vwCl (gw h kq sp k o b kp ga gl ++ krw cS kq kr) U.heap ∧ va_K (dC, dI) vwCl [(cI, .int), (cB, .byte), (cS, .object "GlulxHeap$State")] U)) (vp_Si (fun r => r = (-11))) 0 0 (fun _ => False) := by
  refine Met.ofW (cc := cX3_same) (maxL := 2) (ret := (some .int)) (by decide) rfl ?_
  intro p e s m args below meth c s₁ B hml hv
  obtain ⟨rfl, hP, hK⟩ := hv
  have hx := B.exec
  have hb := B.bytes
  have hr := B.returns
  have hts := atoms_spec (ws := wsX3_same) B.pre
  have hown : s.vm.findClass RX3 = some m.cls := findClass_of_methodNamed B.named
  have hlocks := B.notSynchronized
  have hl := lv_entry ([.ref h]) (n := 2) (Nat.le_of_ble_eq_true rfl)
  rw [lg_entry_eq]
  generalize (lg_sl ([.ref h]) ++ List.replicate (2 - (lg_sl ([.ref h])).length) Slot.unset).toArray = ls at hl ⊢
  have hl : lv_has ls 2 [(0, .ref h)] := hl
  refine lv_aload_n hx hb dX3_same_0 rfl (lv_at hl 0 rfl) ?_
  have hPc := hP.sub (ws' := gw h kq sp k o b kp ga gl ++ krw cS kq kr) [0, 1] rfl
  have hKc := hK.sub (tys' := [(cI, .int), (cB, .byte), (cS, .object "GlulxHeap$State")]) [0, 1, 2] rfl
  refine va_csq (W.runV (As := []) (rest := []) ⟨hx, hb, hml, hown, hts⟩ (c_X3_lastKept l dC dI cB cI cS h kq sp k o b kp ga gl kr (by omega)) (cwV 0 hts gX3_same_X3_lastKept rfl rfl rfl (by decide +kernel) ⟨Nat.le_of_ble_eq_true rfl, Nat.le_of_ble_eq_true rfl⟩) ⟨fun a9 U g9 mk9 q9 => by obtain ⟨q0, qP, qK⟩ := q9; exact ⟨q0, qP, va_K.moved (u := U) (U := U.calling g9 mk9 a9) (Vm.Alike.refl U.vm) qK⟩, va_recv hKc hPc (ci := 3) (q0 := 0) rfl rfl, fun U hU hW => ⟨rfl, by rw [hU]; exact hPc, va_K.moved hW.alike hKc⟩⟩ rfl rfl hl.1 rfl (lv_room (Nat.le_of_ble_eq_true rfl)) dX3_same_1 ⟨Nat.zero_le _, Nat.zero_le _⟩) (fun r_1 hw => ?_)
  try dsimp only at hw
  obtain ⟨-, rfl⟩ | ⟨hq9, -⟩ := hw
  case inr => exact absurd hq9 (by omega)
  refine lv_astore_nN (lv' := [(1, .null), (0, .ref h)]) hx hb dX3_same_4 rfl hl (by decide) rfl (fun ls hl => ?_)
  refine lv_aload_nN hx hb dX3_same_5 rfl (lv_at hl 0 rfl) ?_
  refine lv_ifnonnullN hx hb dX3_same_6 ?_
  refine lv_bipush (v := ((-11))) hx hb dX3_same_9 (by decide) ?_
  exact W.iret (v := ((-11))) hx hb hr (fun t ht hW => ⟨((-11)), rfl, (show ((-11)) = (-11) from rfl), ht⟩) (fun _ h9 => absurd h9 List.not_mem_nil) dX3_same_11
set_option maxHeartbeats 4000000 in
set_option maxRecDepth 100000 in
theorem c_X3_same1 (l : Launch) (dC : Nat → ClassId) (dI : Nat → Nat → Nat) (cB cI cS : ClassId) (h kq : Nat) (sp : Option Nat) (k o b d : Nat → Nat) (kp : Nat) (ga : Nat) (gl : Nat) (kr : Nat → Option Nat) (sz : Nat) (st : Nat) (us : Nat) (mem : Nat → Nat) (pl : Nat → Nat) (ln : Nat → Nat) (sz2 : Nat) (st2 : Nat) (us2 : Nat) (mem2 : Nat → Nat) (pl2 : Nat → Nat) (ln2 : Nat → Nat)  (g9 : kp ≤ 4) (g8 : 0 < kp) (g1 : kr (kp - 1) = some (d 0)) (g3 : sz ≤ 8192) (g5 : us ≤ 64) (g6 : st < 2 ^ 31) (h3 : sz2 ≤ 8192) (h5 : us2 ≤ 64) (h6 : st2 < 2 ^ 31) (bmem : ∀ j, mem j < 256) (bpl : ∀ j, pl j < 2 ^ 31) (bln : ∀ j, ln j < 2 ^ 31) (bmem2 : ∀ j, mem2 j < 256) (bpl2 : ∀ j, pl2 j < 2 ^ 31) (bln2 : ∀ j, ln2 j < 2 ^ 31) : Met l yX3_same wsX3_same ({ frames := 1, cells := 0, slots := 0, locals := 22 }) (va_Pc [.ref h] (fun U => va_P (dC, dI) vwCl (gw h kq sp k o b kp ga gl ++ krw cS kq kr ++ sw cB cI b sz st us mem pl ln ++ sw cB cI d sz2 st2 us2 mem2 pl2 ln2) U.heap ∧ va_K (dC, dI) vwCl [(cI, .int), (cB, .byte), (cS, .object "GlulxHeap$State")] U)) (vp_Si (fun r => ((slk sz st us mem pl ln sz2 st2 us2 mem2 pl2 ln2) ∧ r = nI 1) ∨ (¬ (slk sz st us mem pl ln sz2 st2 us2 mem2 pl2 ln2) ∧ r = nI 0))) 0 0 (fun _ => False) := by
  refine Met.ofW (cc := cX3_same) (maxL := 2) (ret := (some .int)) (by decide) rfl ?_
  intro p e s m args below meth c s₁ B hml hv
  obtain ⟨rfl, hP, hK⟩ := hv
  have hx := B.exec
  have hb := B.bytes
  have hr := B.returns
  have hts := atoms_spec (ws := wsX3_same) B.pre
  have hown : s.vm.findClass RX3 = some m.cls := findClass_of_methodNamed B.named
  have hlocks := B.notSynchronized
  have in_X3 : ∀ w ∈ wsX30, w ∈ wsX3_same := fun _ h => List.mem_cons_of_mem _ (List.mem_append_left _ (List.mem_append_right _ (h)))
  have lk_1 := hts (.fieldLink RX3 30 "GlulxHeap" "now" "LGlulxHeap$State;") (List.mem_of_getElem? (i := 1) rfl)
  have hl := lv_entry ([.ref h]) (n := 2) (Nat.le_of_ble_eq_true rfl)
  rw [lg_entry_eq]
  generalize (lg_sl ([.ref h]) ++ List.replicate (2 - (lg_sl ([.ref h])).length) Slot.unset).toArray = ls at hl ⊢
  have hl : lv_has ls 2 [(0, .ref h)] := hl
  refine lv_aload_n hx hb dX3_same_0 rfl (lv_at hl 0 rfl) ?_
  have hPc := hP.sub (ws' := gw h kq sp k o b kp ga gl ++ krw cS kq kr) [0, 1] rfl
  have hKc := hK.sub (tys' := [(cI, .int), (cB, .byte), (cS, .object "GlulxHeap$State")]) [0, 1, 2] rfl
  refine va_csq (W.runV (As := []) (rest := []) ⟨hx, hb, hml, hown, hts⟩ (c_X3_lastKept l dC dI cB cI cS h kq sp k o b kp ga gl kr (by omega)) (cwV 0 hts gX3_same_X3_lastKept rfl rfl rfl (by decide +kernel) ⟨Nat.le_of_ble_eq_true rfl, Nat.le_of_ble_eq_true rfl⟩) ⟨fun a9 U g9 mk9 q9 => by obtain ⟨q0, qP, qK⟩ := q9; exact ⟨q0, qP, va_K.moved (u := U) (U := U.calling g9 mk9 a9) (Vm.Alike.refl U.vm) qK⟩, va_recv hKc hPc (ci := 3) (q0 := 0) rfl rfl, fun U hU hW => ⟨rfl, by rw [hU]; exact hPc, va_K.moved hW.alike hKc⟩⟩ rfl rfl hl.1 rfl (lv_room (Nat.le_of_ble_eq_true rfl)) dX3_same_1 ⟨Nat.zero_le _, Nat.zero_le _⟩) (fun r_1 hw => ?_)
  try dsimp only at hw
  obtain ⟨hq9, -⟩ | ⟨-, hw⟩ := hw
  case inl => exact absurd hq9 (by omega)
  rw [g1] at hw
  subst hw
  refine tpv (show va_rf (some (d 0)) = Value.ref (d 0) from rfl) ?_
  refine lv_astore_n (lv' := [(1, .ref (d 0)), (0, .ref h)]) hx hb dX3_same_4 rfl hl (by decide) rfl (fun ls hl => ?_)
  refine lv_aload_n hx hb dX3_same_5 rfl (lv_at hl 0 rfl) ?_
  refine lv_ifnonnull (tgt := 12) hx hb dX3_same_6 (by decide) ?_
  refine lv_aload_n hx hb dX3_same_12 rfl (lv_at hl 1 rfl) ?_
  refine va_get (D := (dC, dI)) (ci := 3) (v := .ref (b 0)) (C := RX3) (T := TX3) (N := 8) hx hb hts in_X3 hown hK hP 0 rfl rfl 3 (by decide) lk_1 (fun _ h9 => h9) rfl dX3_same_13 ?_
  refine lv_aload_n hx hb dX3_same_16 rfl (lv_at hl 0 rfl) ?_
  have hPc := hP.sub (ws' := sw cB cI b sz st us mem pl ln ++ sw cB cI d sz2 st2 us2 mem2 pl2 ln2) [2, 3, 4, 5, 6, 7, 8, 9] rfl
  have hKc := hK.sub (tys' := [(cI, .int), (cB, .byte)]) [0, 1] rfl
  refine vp_callSi (W.runV (As := [.ref (d 0)]) (rest := []) ⟨hx, hb, hml, hown, hts⟩ (c_X2_isLike l dC dI cB cI b d sz st us mem pl ln sz2 st2 us2 mem2 pl2 ln2 (by omega) (by omega) (by omega) (by omega) (by omega) (by omega) bmem bpl bln bmem2 bpl2 bln2) (cwV 1 hts gX3_same_X2_isLike rfl rfl rfl (by decide +kernel) ⟨Nat.le_of_ble_eq_true rfl, Nat.le_of_ble_eq_true rfl⟩) ⟨fun a9 U g9 mk9 q9 => by obtain ⟨q0, qP, qK⟩ := q9; exact ⟨q0, qP, va_K.moved (u := U) (U := U.calling g9 mk9 a9) (Vm.Alike.refl U.vm) qK⟩, va_recv hKc hPc (ci := 2) (q0 := 0) rfl rfl, fun U hU hW => ⟨rfl, by rw [hU]; exact hPc, va_K.moved hW.alike hKc⟩⟩ rfl rfl hl.1 rfl (lv_room (Nat.le_of_ble_eq_true rfl)) dX3_same_17 ⟨Nat.zero_le _, Nat.zero_le _⟩) (fun r_17 hw => ?_)
  try dsimp only at hw
  rcases hw with ⟨hc_17, rfl⟩ | ⟨hc_17, rfl⟩
  · skip
    refine lv_if_eq (tgt := 27) hx hb dX3_same_20 (by decide) (fun c_20 => ?_) (fun c_20 => ?_)
    · exact absurd c_20 (by decide)
    · have c_20 : ¬ 1 = 0 := fun q => c_20 ((nZ_eq (by omega)).mpr q)
      refine lv_iconst (v := (nI 1)) hx hb dX3_same_23 (by decide) ?_
      refine lv_goto (tgt := 28) hx hb dX3_same_24 (by decide) ?_
      exact W.iret (v := (nI 1)) hx hb hr (fun t ht hW => ⟨(nI 1), rfl, Or.inl ⟨hc_17, rfl⟩, ht⟩) (fun _ h9 => absurd h9 List.not_mem_nil) dX3_same_28
  · skip
    refine lv_if_eq (tgt := 27) hx hb dX3_same_20 (by decide) (fun c_20 => ?_) (fun c_20 => ?_)
    · have c_20 : 0 = 0 := (nZ_eq (by omega)).mp c_20
      refine lv_iconst (v := (nI 0)) hx hb dX3_same_27 (by decide) ?_
      exact W.iret (v := (nI 0)) hx hb hr (fun t ht hW => ⟨(nI 0), rfl, Or.inr ⟨hc_17, rfl⟩, ht⟩) (fun _ h9 => absurd h9 List.not_mem_nil) dX3_same_28
    · exact absurd c_20 (by decide)
set_option maxHeartbeats 4000000 in
set_option maxRecDepth 100000 in
theorem c_X3_restartO (l : Launch) (dC : Nat → ClassId) (dI : Nat → Nat → Nat) (cB cI cS : ClassId) (h kq : Nat) (k o b d : Nat → Nat) (kp : Nat) (ga : Nat) (gl : Nat) (sz : Nat) (st : Nat) (us : Nat) (mem : Nat → Nat) (pl : Nat → Nat) (ln : Nat → Nat) (sz2 : Nat) (st2 : Nat) (us2 : Nat) (mem2 : Nat → Nat) (pl2 : Nat → Nat) (ln2 : Nat → Nat) (zz : Nat)  (g3 : sz ≤ 8192) (g6 : ga ≤ 8192) (g7 : gl ≤ 8192) : Met l yX3_restart wsX3_restart ({ frames := 2, cells := 0, slots := 0, locals := 62 }) (va_Pc [.ref h] (fun U => U.heap.size = zz ∧ va_P (dC, dI) vwCl (gw h kq (some (d 0)) k o b kp ga gl ++ sw cB cI b sz st us mem pl ln ++ sw cB cI d sz2 st2 us2 mem2 pl2 ln2) U.heap ∧ va_K (dC, dI) vwCl [(cI, .int), (cB, .byte)] U ∧ va_D (fun _ => True) (gw h kq (some (d 0)) k o b kp ga gl ++ sw cB cI b sz st us mem pl ln ++ sw cB cI d sz2 st2 us2 mem2 pl2 ln2))) (va_Qi (fun (r : Int32) (_ : Unit) => r = nI 1) (fun (_ : Unit) t => va_P (dC, dI) vwCl (gw h kq (some (b 0)) k o d kp ga gl ++ sw cB cI b sz st us mem pl ln ++ sw cB cI d 1024 0 0 (cbM mem (outW (zr mem2 0 8192) fst 0 64) ga gl (bth2 sz 1024)) pl2 ln2) t.heap ∧ va_K (dC, dI) vwCl [(cI, .int), (cB, .byte)] t ∧ va_D (va_A (gw h kq (some (d 0)) k o b kp ga gl ++ sw cB cI b sz st us mem pl ln ++ sw cB cI d sz2 st2 us2 mem2 pl2 ln2) zz) (gw h kq (some (b 0)) k o d kp ga gl ++ sw cB cI b sz st us mem pl ln ++ sw cB cI d 1024 0 0 (cbM mem (outW (zr mem2 0 8192) fst 0 64) ga gl (bth2 sz 1024)) pl2 ln2)) (va_A (gw h kq (some (d 0)) k o b kp ga gl ++ sw cB cI b sz st us mem pl ln ++ sw cB cI d sz2 st2 us2 mem2 pl2 ln2) zz)) 0 0 (va_A (gw h kq (some (d 0)) k o b kp ga gl ++ sw cB cI b sz st us mem pl ln ++ sw cB cI d sz2 st2 us2 mem2 pl2 ln2) zz) := by
  refine Met.ofW (cc := cX3_restart) (maxL := 2) (ret := (some .int)) (by decide) rfl ?_
  intro p e s m args below meth c s₁ B hml hv
  obtain ⟨rfl, hsz, hP, hK, hD0⟩ := hv
  have hx := B.exec
  have hb := B.bytes
  have hr := B.returns
  have hts := atoms_spec (ws := wsX3_restart) B.pre
  have hown : s.vm.findClass RX3 = some m.cls := findClass_of_methodNamed B.named
  have hlocks := B.notSynchronized
  subst hsz
  have hD := hD0.self (sz := s.heap.size)
  generalize hAe : va_A (gw h kq (some (d 0)) k o b kp ga gl ++ sw cB cI b sz st us mem pl ln ++ sw cB cI d sz2 st2 us2 mem2 pl2 ln2) s.heap.size = A at hD ⊢
  have hA : ∀ q : Nat, s.heap.size ≤ q → A q := fun q h => by rw [← hAe]; exact Or.inr h
  have hS : va_S A s.heap s.heap [] := va_S.rf
  have hP : va_P (dC, dI) vwCl (gw h kq (some (d 0)) k o b kp ga gl ++ sw cB cI b sz st us mem pl ln ++ sw cB cI d sz2 st2 us2 mem2 pl2 ln2) s.heap := hP
  have in_X3 : ∀ w ∈ wsX30, w ∈ wsX3_restart := fun _ h => List.mem_cons_of_mem _ (List.mem_append_left _ (List.mem_append_right _ (h)))
  have lk_1 := hts (.fieldLink RX3 30 "GlulxHeap" "now" "LGlulxHeap$State;") (List.mem_of_getElem? (i := 1) rfl)
  have lk_2 := hts (.fieldLink RX3 177 "GlulxHeap" "spare" "LGlulxHeap$State;") (List.mem_of_getElem? (i := 2) rfl)
  have hl := lv_entry ([.ref h]) (n := 2) (Nat.le_of_ble_eq_true rfl)
  rw [lg_entry_eq]
  generalize (lg_sl ([.ref h]) ++ List.replicate (2 - (lg_sl ([.ref h])).length) Slot.unset).toArray = ls at hl ⊢
  have hl : lv_has ls 2 [(0, .ref h)] := hl
  refine lv_aload_n hx hb dX3_restart_0 rfl (lv_at hl 0 rfl) ?_
  have hPc := hP.sub (ws' := gw h kq (some (d 0)) k o b kp ga gl) [0] rfl
  have hKc := hK.sub (tys' := [(cI, .int), (cB, .byte)]) [0, 1] rfl
  refine va_csq (W.runV (As := []) (rest := []) ⟨hx, hb, hml, hown, hts⟩ (c_X3_spareState l dC dI cB cI cS h kq k o b d kp ga gl ) (cwV 0 hts gX3_restart_X3_spareState rfl rfl rfl (by decide +kernel) ⟨Nat.le_of_ble_eq_true rfl, Nat.le_of_ble_eq_true rfl⟩) ⟨fun a9 U g9 mk9 q9 => by obtain ⟨q0, qP, qK⟩ := q9; exact ⟨q0, qP, va_K.moved (u := U) (U := U.calling g9 mk9 a9) (Vm.Alike.refl U.vm) qK⟩, va_recv hKc hPc (ci := 3) (q0 := 0) rfl rfl, fun U hU hW => ⟨rfl, by rw [hU]; exact hPc, va_K.moved hW.alike hKc⟩⟩ rfl rfl hl.1 rfl (lv_room (Nat.le_of_ble_eq_true rfl)) dX3_restart_1 ⟨Nat.zero_le _, Nat.zero_le _⟩) (fun r_1 hw => ?_)
  try dsimp only at hw
  subst hw
  refine tpv (show va_rf (some (d 0)) = Value.ref (d 0) from rfl) ?_
  refine lv_astore_n (lv' := [(1, .ref (d 0)), (0, .ref h)]) hx hb dX3_restart_4 rfl hl (by decide) rfl (fun ls hl => ?_)
  refine lv_aload_n hx hb dX3_restart_5 rfl (lv_at hl 0 rfl) ?_
  have hPc := hP.sub (ws' := sw cB cI d sz2 st2 us2 mem2 pl2 ln2) [5, 6, 7, 8] rfl
  have hKc := hK.sub (tys' := [(cI, .int), (cB, .byte)]) [0, 1] rfl
  have hDc := hD.sub (ws' := sw cB cI d sz2 st2 us2 mem2 pl2 ln2) [5, 6, 7, 8] (by decide) rfl
  have hFc := va_free (wc := sw cB cI d sz2 st2 us2 mem2 pl2 ln2) hD hS hA [5, 6, 7, 8] rfl
  refine va_callv (va_runV (As := []) (rest := []) ⟨hx, hb, hml, hown, hts⟩ (c_X2_begin l dC dI cB cI d sz2 st2 us2 mem2 pl2 ln2 s.heap.size ) (cwV 0 hts gX3_restart_X2_begin rfl rfl rfl (by decide +kernel) ⟨Nat.le_of_ble_eq_true rfl, Nat.le_of_ble_eq_true rfl⟩) ⟨fun a9 U g9 mk9 q9 => by obtain ⟨q0, q1, qP, qK, qD⟩ := q9; exact ⟨q0, q1, qP, va_K.moved (u := U) (U := U.calling g9 mk9 a9) (Vm.Alike.refl U.vm) qK, qD⟩, va_recv hKc hPc (ci := 2) (q0 := 0) rfl rfl, fun U hU hW => ⟨rfl, by rw [hU], by rw [hU]; exact hPc, va_K.moved hW.alike hKc, hDc.weaken (fun _ _ _ _ => trivial)⟩⟩ rfl rfl hl.1 rfl (lv_room (Nat.le_of_ble_eq_true rfl)) dX3_restart_6 ⟨Nat.zero_le _, Nat.zero_le _⟩) hS (fun q _ h => hFc q h) hFc (fun u t H1 locs ht9 hvm9 hw hB hz9 hk9 hS => ?_)
  obtain ⟨hP1, hK1, hD1⟩ := hB
  rw [ht9] at hP1
  obtain ⟨hP, hD⟩ := va_join (wr := gw h kq (some (d 0)) k o b kp ga gl ++ sw cB cI b sz st us mem pl ln) (w1 := sw cB cI d 1024 0 0 (outW (zr mem2 0 8192) fst 0 64) pl2 ln2) hP hD [5, 6, 7, 8] [0, 1, 2, 3, 4] rfl rfl (by decide) (by decide) hk9 hFc hP1 hD1
  generalize H1 = H at hP hS ⊢
  have hP := hP.sub (ws' := gw h kq (some (d 0)) k o b kp ga gl ++ sw cB cI b sz st us mem pl ln ++ sw cB cI d 1024 0 0 (outW (zr mem2 0 8192) fst 0 64) pl2 ln2) [0, 1, 2, 3, 4, 5, 6, 7, 8] rfl
  have hD := hD.sub (ws' := gw h kq (some (d 0)) k o b kp ga gl ++ sw cB cI b sz st us mem pl ln ++ sw cB cI d 1024 0 0 (outW (zr mem2 0 8192) fst 0 64) pl2 ln2) [0, 1, 2, 3, 4, 5, 6, 7, 8] (by decide) rfl
  have hP : va_P (dC, dI) vwCl (gw h kq (some (d 0)) k o b kp ga gl ++ sw cB cI b sz st us mem pl ln ++ sw cB cI d 1024 0 0 (outW (zr mem2 0 8192) fst 0 64) pl2 ln2) H := hP
  have hD : va_D A (gw h kq (some (d 0)) k o b kp ga gl ++ sw cB cI b sz st us mem pl ln ++ sw cB cI d 1024 0 0 (outW (zr mem2 0 8192) fst 0 64) pl2 ln2) := hD
  refine lv_aload_n hx hb dX3_restart_9 rfl (lv_at hl 1 rfl) ?_
  refine lv_aload_n hx hb dX3_restart_10 rfl (lv_at hl 1 rfl) ?_
  refine va_get (D := (dC, dI)) (ci := 3) (v := .ref (b 0)) (C := RX3) (T := TX3) (N := 8) hx hb hts in_X3 hown hK hP 0 rfl rfl 3 (by decide) lk_1 (fun _ h9 => h9) rfl dX3_restart_11 ?_
  refine va_put (D := (dC, dI)) (ci := 3) (v := .ref (b 0)) (ty := .object "GlulxHeap$State") (C := RX3) (T := TX3) (N := 8) hx hb hts in_X3 tyX3 tyX3_ok nmX3 hown hK hP hD hS 0 rfl rfl 4 (by decide) lk_2 (fun _ h9 => h9) rfl (by decide +kernel) rfl rfl (Nat.le_of_ble_eq_true rfl) dX3_restart_14 (fun H locs hP hD hS => ?_)
  have hP : va_P (dC, dI) vwCl (gw h kq (some (b 0)) k o b kp ga gl ++ sw cB cI b sz st us mem pl ln ++ sw cB cI d 1024 0 0 (outW (zr mem2 0 8192) fst 0 64) pl2 ln2) H := hP
  have hD : va_D A (gw h kq (some (b 0)) k o b kp ga gl ++ sw cB cI b sz st us mem pl ln ++ sw cB cI d 1024 0 0 (outW (zr mem2 0 8192) fst 0 64) pl2 ln2) := hD
  refine lv_aload_n hx hb dX3_restart_17 rfl (lv_at hl 1 rfl) ?_
  refine lv_aload_n hx hb dX3_restart_18 rfl (lv_at hl 0 rfl) ?_
  have hPc := hP.sub (ws' := gw h kq (some (b 0)) k o b kp ga gl ++ sw cB cI b sz st us mem pl ln ++ sw cB cI d 1024 0 0 (outW (zr mem2 0 8192) fst 0 64) pl2 ln2) [0, 1, 2, 3, 4, 5, 6, 7, 8] rfl
  have hKc := hK.sub (tys' := [(cI, .int), (cB, .byte)]) [0, 1] rfl
  have hDc := hD.sub (ws' := gw h kq (some (b 0)) k o b kp ga gl ++ sw cB cI b sz st us mem pl ln ++ sw cB cI d 1024 0 0 (outW (zr mem2 0 8192) fst 0 64) pl2 ln2) [0, 1, 2, 3, 4, 5, 6, 7, 8] (by decide) rfl
  have hFc := va_free (wc := gw h kq (some (b 0)) k o b kp ga gl ++ sw cB cI b sz st us mem pl ln ++ sw cB cI d 1024 0 0 (outW (zr mem2 0 8192) fst 0 64) pl2 ln2) hD hS hA [0, 1, 2, 3, 4, 5, 6, 7, 8] rfl
  refine va_callv (va_runV (As := [.ref (d 0)]) (rest := []) ⟨hx, hb, hml, hown, hts⟩ (c_X3_comeBack l dC dI cB cI h kq (some (b 0)) k o b d kp ga gl sz st us mem pl ln 1024 0 0 (outW (zr mem2 0 8192) fst 0 64) pl2 ln2 H.size (by omega) (by omega) (by omega) (by omega)) (cwV 1 hts gX3_restart_X3_comeBack rfl rfl rfl (by decide +kernel) ⟨Nat.le_of_ble_eq_true rfl, Nat.le_of_ble_eq_true rfl⟩) ⟨fun a9 U g9 mk9 q9 => by obtain ⟨q0, q1, qP, qK, qD⟩ := q9; exact ⟨q0, q1, qP, va_K.moved (u := U) (U := U.calling g9 mk9 a9) (Vm.Alike.refl U.vm) qK, qD⟩, va_recv hKc hPc (ci := 3) (q0 := 0) rfl rfl, fun U hU hW => ⟨rfl, by rw [hU], by rw [hU]; exact hPc, va_K.moved hW.alike hKc, hDc.weaken (fun _ _ _ _ => trivial)⟩⟩ rfl rfl hl.1 rfl (lv_room (Nat.le_of_ble_eq_true rfl)) dX3_restart_19 ⟨Nat.zero_le _, Nat.zero_le _⟩) hS (fun q _ h => hFc q h) hFc (fun u t H1 locs ht9 hvm9 hw hB hz9 hk9 hS => ?_)
  obtain ⟨hP1, hK1, hD1⟩ := hB
  rw [ht9] at hP1
  obtain ⟨hP, hD⟩ := va_join (wr := []) (w1 := gw h kq (some (b 0)) k o d kp ga gl ++ sw cB cI b sz st us mem pl ln ++ sw cB cI d 1024 0 0 (cbM mem (outW (zr mem2 0 8192) fst 0 64) ga gl (bth2 sz 1024)) pl2 ln2) hP hD [0, 1, 2, 3, 4, 5, 6, 7, 8] [] rfl rfl (by decide) (by decide) hk9 hFc hP1 hD1
  generalize H1 = H at hP hS ⊢
  have hP := hP.sub (ws' := gw h kq (some (b 0)) k o d kp ga gl ++ sw cB cI b sz st us mem pl ln ++ sw cB cI d 1024 0 0 (cbM mem (outW (zr mem2 0 8192) fst 0 64) ga gl (bth2 sz 1024)) pl2 ln2) [0, 1, 2, 3, 4, 5, 6, 7, 8] rfl
  have hD := hD.sub (ws' := gw h kq (some (b 0)) k o d kp ga gl ++ sw cB cI b sz st us mem pl ln ++ sw cB cI d 1024 0 0 (cbM mem (outW (zr mem2 0 8192) fst 0 64) ga gl (bth2 sz 1024)) pl2 ln2) [0, 1, 2, 3, 4, 5, 6, 7, 8] (by decide) rfl
  have hP : va_P (dC, dI) vwCl (gw h kq (some (b 0)) k o d kp ga gl ++ sw cB cI b sz st us mem pl ln ++ sw cB cI d 1024 0 0 (cbM mem (outW (zr mem2 0 8192) fst 0 64) ga gl (bth2 sz 1024)) pl2 ln2) H := hP
  have hD : va_D A (gw h kq (some (b 0)) k o d kp ga gl ++ sw cB cI b sz st us mem pl ln ++ sw cB cI d 1024 0 0 (cbM mem (outW (zr mem2 0 8192) fst 0 64) ga gl (bth2 sz 1024)) pl2 ln2) := hD
  refine lv_iconst (v := (nI 1)) hx hb dX3_restart_22 (by decide) ?_
  have hP : va_P (dC, dI) vwCl (gw h kq (some (b 0)) k o d kp ga gl ++ sw cB cI b sz st us mem pl ln ++ sw cB cI d 1024 0 0 (cbM mem (outW (zr mem2 0 8192) fst 0 64) ga gl (bth2 sz 1024)) pl2 ln2) H := hP
  have hD : va_D A (gw h kq (some (b 0)) k o d kp ga gl ++ sw cB cI b sz st us mem pl ln ++ sw cB cI d 1024 0 0 (cbM mem (outW (zr mem2 0 8192) fst 0 64) ga gl (bth2 sz 1024)) pl2 ln2) := hD
  exact W.iret (v := (nI 1)) hx hb hr (fun t ht hW => ⟨⟨(nI 1), (), rfl, (show (nI 1) = nI 1 from rfl), by rw [ht]; exact hP, va_K.moved hW.alike hK, hD⟩, hS.F ht⟩) hS.2.2 dX3_restart_23
set_option maxHeartbeats 4000000 in
set_option maxRecDepth 100000 in
theorem c_X3_restartN (l : Launch) (dC : Nat → ClassId) (dI : Nat → Nat → Nat) (cB cI cS : ClassId) (h kq : Nat) (k o b : Nat → Nat) (kp : Nat) (ga : Nat) (gl : Nat) (sz : Nat) (st : Nat) (us : Nat) (mem : Nat → Nat) (pl : Nat → Nat) (ln : Nat → Nat) (zz : Nat)  (g3 : sz ≤ 8192) (g6 : ga ≤ 8192) (g7 : gl ≤ 8192) : Met l yX3_restart wsX3_restart ({ frames := 3, cells := 4, slots := 8326, locals := 62 }) (va_Pc [.ref h] (fun U => U.heap.size = zz ∧ va_P (dC, dI) vwCl (gw h kq none k o b kp ga gl ++ sw cB cI b sz st us mem pl ln) U.heap ∧ va_K (dC, dI) vwCl [(cI, .int), (cB, .byte)] U ∧ va_D (fun _ => True) (gw h kq none k o b kp ga gl ++ sw cB cI b sz st us mem pl ln) ∧ va_Nw (.methodLinkNest RX3 29 yX2_init "GlulxHeap") U)) (va_Qi (fun (r : Int32) (d : (Nat → Nat)) => r = nI 1) (fun (d : (Nat → Nat)) t => va_P (dC, dI) vwCl (gw h kq (some (b 0)) k o d kp ga gl ++ sw cB cI b sz st us mem pl ln ++ sw cB cI d 1024 0 0 (cbM mem (outW (zr zf 0 8192) fst 0 64) ga gl (bth2 sz 1024)) zf zf) t.heap ∧ va_K (dC, dI) vwCl [(cI, .int), (cB, .byte)] t ∧ va_D (va_A (gw h kq none k o b kp ga gl ++ sw cB cI b sz st us mem pl ln) zz) (gw h kq (some (b 0)) k o d kp ga gl ++ sw cB cI b sz st us mem pl ln ++ sw cB cI d 1024 0 0 (cbM mem (outW (zr zf 0 8192) fst 0 64) ga gl (bth2 sz 1024)) zf zf)) (va_A (gw h kq none k o b kp ga gl ++ sw cB cI b sz st us mem pl ln) zz)) 4 8326 (va_A (gw h kq none k o b kp ga gl ++ sw cB cI b sz st us mem pl ln) zz) := by
  refine Met.ofW (cc := cX3_restart) (maxL := 2) (ret := (some .int)) (by decide) rfl ?_
  intro p e s m args below meth c s₁ B hml hv
  obtain ⟨rfl, hsz, hP, hK, hD0, hN0⟩ := hv
  have hx := B.exec
  have hb := B.bytes
  have hr := B.returns
  have hts := atoms_spec (ws := wsX3_restart) B.pre
  have hown : s.vm.findClass RX3 = some m.cls := findClass_of_methodNamed B.named
  have hlocks := B.notSynchronized
  subst hsz
  have hD := hD0.self (sz := s.heap.size)
  generalize hAe : va_A (gw h kq none k o b kp ga gl ++ sw cB cI b sz st us mem pl ln) s.heap.size = A at hD ⊢
  have hA : ∀ q : Nat, s.heap.size ≤ q → A q := fun q h => by rw [← hAe]; exact Or.inr h
  have hS : va_S A s.heap s.heap [] := va_S.rf
  have hP : va_P (dC, dI) vwCl (gw h kq none k o b kp ga gl ++ sw cB cI b sz st us mem pl ln) s.heap := hP
  have in_X3 : ∀ w ∈ wsX30, w ∈ wsX3_restart := fun _ h => List.mem_cons_of_mem _ (List.mem_append_left _ (List.mem_append_right _ (h)))
  have lk_1 := hts (.fieldLink RX3 30 "GlulxHeap" "now" "LGlulxHeap$State;") (List.mem_of_getElem? (i := 1) rfl)
  have lk_2 := hts (.fieldLink RX3 177 "GlulxHeap" "spare" "LGlulxHeap$State;") (List.mem_of_getElem? (i := 2) rfl)
  have hl := lv_entry ([.ref h]) (n := 2) (Nat.le_of_ble_eq_true rfl)
  rw [lg_entry_eq]
  generalize (lg_sl ([.ref h]) ++ List.replicate (2 - (lg_sl ([.ref h])).length) Slot.unset).toArray = ls at hl ⊢
  have hl : lv_has ls 2 [(0, .ref h)] := hl
  refine lv_aload_n hx hb dX3_restart_0 rfl (lv_at hl 0 rfl) ?_
  have hPc := hP.sub (ws' := gw h kq none k o b kp ga gl) [0] rfl
  have hKc := hK.sub (tys' := [(cI, .int), (cB, .byte)]) [0, 1] rfl
  have hDc := hD.sub (ws' := gw h kq none k o b kp ga gl) [0] (by decide) rfl
  have hFc := va_free (wc := gw h kq none k o b kp ga gl) hD hS hA [0] rfl
  refine va_callq (va_runV (As := []) (rest := []) ⟨hx, hb, hml, hown, hts⟩ (c_X3_spareState0 l dC dI cB cI cS h kq k o b kp ga gl s.heap.size ) (cwV 0 hts gX3_restart_X3_spareState rfl rfl rfl (by decide +kernel) ⟨Nat.le_of_ble_eq_true rfl, Nat.le_of_ble_eq_true rfl⟩) ⟨fun a9 U g9 mk9 q9 => by obtain ⟨q0, q1, qP, qK, qD, qN0⟩ := q9; exact ⟨q0, q1, qP, va_K.moved (u := U) (U := U.calling g9 mk9 a9) (Vm.Alike.refl U.vm) qK, qD, va_Nw.same rfl rfl qN0⟩, va_recv hKc hPc (ci := 3) (q0 := 0) rfl rfl, fun U hU hW => ⟨rfl, by rw [hU], by rw [hU]; exact hPc, va_K.moved hW.alike hKc, hDc.weaken (fun _ _ _ _ => trivial), va_Nw.warmM hW hN0⟩⟩ rfl rfl hl.1 rfl (lv_room (Nat.le_of_ble_eq_true rfl)) dX3_restart_1 ⟨Nat.le_of_ble_eq_true rfl, Nat.le_of_ble_eq_true rfl⟩) hS (fun q _ h => hFc q h) hFc (fun r_1 u t H1 locs ht9 hvm9 hw hB hz9 hk9 hS => ?_)
  obtain ⟨d, rfl⟩ : ∃ z9, z9 = u := ⟨_, rfl⟩
  try dsimp only at hw
  obtain ⟨hP1, hK1, hD1⟩ := hB
  rw [ht9] at hP1
  obtain ⟨hP, hD⟩ := va_join (wr := sw cB cI b sz st us mem pl ln) (w1 := gw h kq (some (d 0)) k o b kp ga gl ++ sw cB cI d 0 0 0 zf zf zf) hP hD [0] [1, 2, 3, 4] rfl rfl (by decide) (by decide) hk9 hFc hP1 hD1
  generalize H1 = H at hP hS ⊢
  have hP := hP.sub (ws' := gw h kq (some (d 0)) k o b kp ga gl ++ sw cB cI b sz st us mem pl ln ++ sw cB cI d 0 0 0 zf zf zf) [4, 0, 1, 2, 3, 5, 6, 7, 8] rfl
  have hD := hD.sub (ws' := gw h kq (some (d 0)) k o b kp ga gl ++ sw cB cI b sz st us mem pl ln ++ sw cB cI d 0 0 0 zf zf zf) [4, 0, 1, 2, 3, 5, 6, 7, 8] (by decide) rfl
  have hP : va_P (dC, dI) vwCl (gw h kq (some (d 0)) k o b kp ga gl ++ sw cB cI b sz st us mem pl ln ++ sw cB cI d 0 0 0 zf zf zf) H := hP
  have hD : va_D A (gw h kq (some (d 0)) k o b kp ga gl ++ sw cB cI b sz st us mem pl ln ++ sw cB cI d 0 0 0 zf zf zf) := hD
  subst hw
  refine tpv (show va_rf (some (d 0)) = Value.ref (d 0) from rfl) ?_
  refine lv_astore_n (lv' := [(1, .ref (d 0)), (0, .ref h)]) hx hb dX3_restart_4 rfl hl (by decide) rfl (fun ls hl => ?_)
  refine lv_aload_n hx hb dX3_restart_5 rfl (lv_at hl 0 rfl) ?_
  have hPc := hP.sub (ws' := sw cB cI d 0 0 0 zf zf zf) [5, 6, 7, 8] rfl
  have hKc := hK.sub (tys' := [(cI, .int), (cB, .byte)]) [0, 1] rfl
  have hDc := hD.sub (ws' := sw cB cI d 0 0 0 zf zf zf) [5, 6, 7, 8] (by decide) rfl
  have hFc := va_free (wc := sw cB cI d 0 0 0 zf zf zf) hD hS hA [5, 6, 7, 8] rfl
  refine va_callv (va_runV (As := []) (rest := []) ⟨hx, hb, hml, hown, hts⟩ (c_X2_begin l dC dI cB cI d 0 0 0 zf zf zf H.size ) (cwV 0 hts gX3_restart_X2_begin rfl rfl rfl (by decide +kernel) ⟨Nat.le_of_ble_eq_true rfl, Nat.le_of_ble_eq_true rfl⟩) ⟨fun a9 U g9 mk9 q9 => by obtain ⟨q0, q1, qP, qK, qD⟩ := q9; exact ⟨q0, q1, qP, va_K.moved (u := U) (U := U.calling g9 mk9 a9) (Vm.Alike.refl U.vm) qK, qD⟩, va_recv hKc hPc (ci := 2) (q0 := 0) rfl rfl, fun U hU hW => ⟨rfl, by rw [hU], by rw [hU]; exact hPc, va_K.moved hW.alike hKc, hDc.weaken (fun _ _ _ _ => trivial)⟩⟩ rfl rfl hl.1 rfl (lv_room (Nat.le_of_ble_eq_true rfl)) dX3_restart_6 ⟨Nat.le_of_ble_eq_true rfl, Nat.le_of_ble_eq_true rfl⟩) hS (fun q _ h => hFc q h) hFc (fun u t H1 locs ht9 hvm9 hw hB hz9 hk9 hS => ?_)
  obtain ⟨hP1, hK1, hD1⟩ := hB
  rw [ht9] at hP1
  obtain ⟨hP, hD⟩ := va_join (wr := gw h kq (some (d 0)) k o b kp ga gl ++ sw cB cI b sz st us mem pl ln) (w1 := sw cB cI d 1024 0 0 (outW (zr zf 0 8192) fst 0 64) zf zf) hP hD [5, 6, 7, 8] [0, 1, 2, 3, 4] rfl rfl (by decide) (by decide) hk9 hFc hP1 hD1
  generalize H1 = H at hP hS ⊢
  have hP := hP.sub (ws' := gw h kq (some (d 0)) k o b kp ga gl ++ sw cB cI b sz st us mem pl ln ++ sw cB cI d 1024 0 0 (outW (zr zf 0 8192) fst 0 64) zf zf) [0, 1, 2, 3, 4, 5, 6, 7, 8] rfl
  have hD := hD.sub (ws' := gw h kq (some (d 0)) k o b kp ga gl ++ sw cB cI b sz st us mem pl ln ++ sw cB cI d 1024 0 0 (outW (zr zf 0 8192) fst 0 64) zf zf) [0, 1, 2, 3, 4, 5, 6, 7, 8] (by decide) rfl
  have hP : va_P (dC, dI) vwCl (gw h kq (some (d 0)) k o b kp ga gl ++ sw cB cI b sz st us mem pl ln ++ sw cB cI d 1024 0 0 (outW (zr zf 0 8192) fst 0 64) zf zf) H := hP
  have hD : va_D A (gw h kq (some (d 0)) k o b kp ga gl ++ sw cB cI b sz st us mem pl ln ++ sw cB cI d 1024 0 0 (outW (zr zf 0 8192) fst 0 64) zf zf) := hD
  refine lv_aload_n hx hb dX3_restart_9 rfl (lv_at hl 1 rfl) ?_
  refine lv_aload_n hx hb dX3_restart_10 rfl (lv_at hl 1 rfl) ?_
  refine va_get (D := (dC, dI)) (ci := 3) (v := .ref (b 0)) (C := RX3) (T := TX3) (N := 8) hx hb hts in_X3 hown hK hP 0 rfl rfl 3 (by decide) lk_1 (fun _ h9 => h9) rfl dX3_restart_11 ?_
  refine va_put (D := (dC, dI)) (ci := 3) (v := .ref (b 0)) (ty := .object "GlulxHeap$State") (C := RX3) (T := TX3) (N := 8) hx hb hts in_X3 tyX3 tyX3_ok nmX3 hown hK hP hD hS 0 rfl rfl 4 (by decide) lk_2 (fun _ h9 => h9) rfl (by decide +kernel) rfl rfl (Nat.le_of_ble_eq_true rfl) dX3_restart_14 (fun H locs hP hD hS => ?_)
  have hP : va_P (dC, dI) vwCl (gw h kq (some (b 0)) k o b kp ga gl ++ sw cB cI b sz st us mem pl ln ++ sw cB cI d 1024 0 0 (outW (zr zf 0 8192) fst 0 64) zf zf) H := hP
  have hD : va_D A (gw h kq (some (b 0)) k o b kp ga gl ++ sw cB cI b sz st us mem pl ln ++ sw cB cI d 1024 0 0 (outW (zr zf 0 8192) fst 0 64) zf zf) := hD
  refine lv_aload_n hx hb dX3_restart_17 rfl (lv_at hl 1 rfl) ?_
  refine lv_aload_n hx hb dX3_restart_18 rfl (lv_at hl 0 rfl) ?_
  have hPc := hP.sub (ws' := gw h kq (some (b 0)) k o b kp ga gl ++ sw cB cI b sz st us mem pl ln ++ sw cB cI d 1024 0 0 (outW (zr zf 0 8192) fst 0 64) zf zf) [0, 1, 2, 3, 4, 5, 6, 7, 8] rfl
  have hKc := hK.sub (tys' := [(cI, .int), (cB, .byte)]) [0, 1] rfl
  have hDc := hD.sub (ws' := gw h kq (some (b 0)) k o b kp ga gl ++ sw cB cI b sz st us mem pl ln ++ sw cB cI d 1024 0 0 (outW (zr zf 0 8192) fst 0 64) zf zf) [0, 1, 2, 3, 4, 5, 6, 7, 8] (by decide) rfl
  have hFc := va_free (wc := gw h kq (some (b 0)) k o b kp ga gl ++ sw cB cI b sz st us mem pl ln ++ sw cB cI d 1024 0 0 (outW (zr zf 0 8192) fst 0 64) zf zf) hD hS hA [0, 1, 2, 3, 4, 5, 6, 7, 8] rfl
  refine va_callv (va_runV (As := [.ref (d 0)]) (rest := []) ⟨hx, hb, hml, hown, hts⟩ (c_X3_comeBack l dC dI cB cI h kq (some (b 0)) k o b d kp ga gl sz st us mem pl ln 1024 0 0 (outW (zr zf 0 8192) fst 0 64) zf zf H.size (by omega) (by omega) (by omega) (by omega)) (cwV 1 hts gX3_restart_X3_comeBack rfl rfl rfl (by decide +kernel) ⟨Nat.le_of_ble_eq_true rfl, Nat.le_of_ble_eq_true rfl⟩) ⟨fun a9 U g9 mk9 q9 => by obtain ⟨q0, q1, qP, qK, qD⟩ := q9; exact ⟨q0, q1, qP, va_K.moved (u := U) (U := U.calling g9 mk9 a9) (Vm.Alike.refl U.vm) qK, qD⟩, va_recv hKc hPc (ci := 3) (q0 := 0) rfl rfl, fun U hU hW => ⟨rfl, by rw [hU], by rw [hU]; exact hPc, va_K.moved hW.alike hKc, hDc.weaken (fun _ _ _ _ => trivial)⟩⟩ rfl rfl hl.1 rfl (lv_room (Nat.le_of_ble_eq_true rfl)) dX3_restart_19 ⟨Nat.le_of_ble_eq_true rfl, Nat.le_of_ble_eq_true rfl⟩) hS (fun q _ h => hFc q h) hFc (fun u t H1 locs ht9 hvm9 hw hB hz9 hk9 hS => ?_)
  obtain ⟨hP1, hK1, hD1⟩ := hB
  rw [ht9] at hP1
  obtain ⟨hP, hD⟩ := va_join (wr := []) (w1 := gw h kq (some (b 0)) k o d kp ga gl ++ sw cB cI b sz st us mem pl ln ++ sw cB cI d 1024 0 0 (cbM mem (outW (zr zf 0 8192) fst 0 64) ga gl (bth2 sz 1024)) zf zf) hP hD [0, 1, 2, 3, 4, 5, 6, 7, 8] [] rfl rfl (by decide) (by decide) hk9 hFc hP1 hD1
  generalize H1 = H at hP hS ⊢
  have hP := hP.sub (ws' := gw h kq (some (b 0)) k o d kp ga gl ++ sw cB cI b sz st us mem pl ln ++ sw cB cI d 1024 0 0 (cbM mem (outW (zr zf 0 8192) fst 0 64) ga gl (bth2 sz 1024)) zf zf) [0, 1, 2, 3, 4, 5, 6, 7, 8] rfl
  have hD := hD.sub (ws' := gw h kq (some (b 0)) k o d kp ga gl ++ sw cB cI b sz st us mem pl ln ++ sw cB cI d 1024 0 0 (cbM mem (outW (zr zf 0 8192) fst 0 64) ga gl (bth2 sz 1024)) zf zf) [0, 1, 2, 3, 4, 5, 6, 7, 8] (by decide) rfl
  have hP : va_P (dC, dI) vwCl (gw h kq (some (b 0)) k o d kp ga gl ++ sw cB cI b sz st us mem pl ln ++ sw cB cI d 1024 0 0 (cbM mem (outW (zr zf 0 8192) fst 0 64) ga gl (bth2 sz 1024)) zf zf) H := hP
  have hD : va_D A (gw h kq (some (b 0)) k o d kp ga gl ++ sw cB cI b sz st us mem pl ln ++ sw cB cI d 1024 0 0 (cbM mem (outW (zr zf 0 8192) fst 0 64) ga gl (bth2 sz 1024)) zf zf) := hD
  refine lv_iconst (v := (nI 1)) hx hb dX3_restart_22 (by decide) ?_
  refine W.widen (k := 4) (n := 8326) (Nat.le_of_ble_eq_true rfl) (Nat.le_of_ble_eq_true rfl) ?_
  exact W.iret (v := (nI 1)) hx hb hr (fun t ht hW => ⟨⟨(nI 1), (d), rfl, (show (nI 1) = nI 1 from rfl), by rw [ht]; exact hP, va_K.moved hW.alike hK, hD⟩, hS.F ht⟩) hS.2.2 dX3_restart_23
set_option maxHeartbeats 4000000 in
set_option maxRecDepth 100000 in
theorem c_X3_readWO (l : Launch) (dC : Nat → ClassId) (dI : Nat → Nat → Nat) (cB cI cS : ClassId) (h kq : Nat) (k o b d : Nat → Nat) (kp : Nat) (ga : Nat) (gl : Nat) (oz : Nat) (cs : Nat) (cd : Nat → Nat) (sz : Nat) (st : Nat) (us : Nat) (mem : Nat → Nat) (pl : Nat → Nat) (ln : Nat → Nat) (sz2 : Nat) (st2 : Nat) (us2 : Nat) (mem2 : Nat → Nat) (pl2 : Nat → Nat) (ln2 : Nat → Nat) (zz : Nat) (w : Nat) (gz : cs ≤ oz) (g0 : oz ≤ 20000) (bcd : ∀ j, cd j < 256) (bmem2 : ∀ j, mem2 j < 256) (bpl2 : ∀ j, pl2 j < 2 ^ 31) (bln2 : ∀ j, ln2 j < 2 ^ 31) (g1 : rdKS cs cd (outW (zr mem2 0 8192) fst 0 64) = .inl w) : Met l yX3_read wsX3_read ({ frames := 4, cells := 0, slots := 0, locals := 90 }) (va_Pc [.ref h] (fun U => U.heap.size = zz ∧ va_P (dC, dI) vwCl (gw h kq (some (d 0)) k o b kp ga gl ++ ow cB o oz cs cd ++ sw cB cI b sz st us mem pl ln ++ sw cB cI d sz2 st2 us2 mem2 pl2 ln2) U.heap ∧ va_K (dC, dI) vwCl [(cI, .int), (cB, .byte)] U ∧ va_D (fun _ => True) (gw h kq (some (d 0)) k o b kp ga gl ++ ow cB o oz cs cd ++ sw cB cI b sz st us mem pl ln ++ sw cB cI d sz2 st2 us2 mem2 pl2 ln2) ∧ va_Nw (.methodLinkNest RX0 79 yX3_isSize "GlulxHeap") U)) (va_Qi (fun (r : Int32) (u : Nat × Nat × Nat × (Nat → Nat) × (Nat → Nat) × (Nat → Nat)) => match u with | ⟨sz9, st9, us9, mem9, pl9, ln9⟩ => (r = (-100) - nI w ∧ w ≤ 41000) ∧ (∀ j, mem9 j < 256 ∧ pl9 j < 2 ^ 31 ∧ ln9 j < 2 ^ 31)) (fun (u : Nat × Nat × Nat × (Nat → Nat) × (Nat → Nat) × (Nat → Nat)) t => match u with | ⟨sz9, st9, us9, mem9, pl9, ln9⟩ => va_P (dC, dI) vwCl (gw h kq (some (d 0)) k o b kp ga gl ++ ow cB o oz cs cd ++ sw cB cI b sz st us mem pl ln ++ sw cB cI d sz9 st9 us9 mem9 pl9 ln9) t.heap ∧ va_K (dC, dI) vwCl [(cI, .int), (cB, .byte)] t ∧ va_D (va_A (gw h kq (some (d 0)) k o b kp ga gl ++ ow cB o oz cs cd ++ sw cB cI b sz st us mem pl ln ++ sw cB cI d sz2 st2 us2 mem2 pl2 ln2) zz) (gw h kq (some (d 0)) k o b kp ga gl ++ ow cB o oz cs cd ++ sw cB cI b sz st us mem pl ln ++ sw cB cI d sz9 st9 us9 mem9 pl9 ln9)) (va_A (gw h kq (some (d 0)) k o b kp ga gl ++ ow cB o oz cs cd ++ sw cB cI b sz st us mem pl ln ++ sw cB cI d sz2 st2 us2 mem2 pl2 ln2) zz)) 0 0 (va_A (gw h kq (some (d 0)) k o b kp ga gl ++ ow cB o oz cs cd ++ sw cB cI b sz st us mem pl ln ++ sw cB cI d sz2 st2 us2 mem2 pl2 ln2) zz) := by
  refine Met.ofW (cc := cX3_read) (maxL := 3) (ret := (some .int)) (by decide) rfl ?_
  intro p e s m args below meth c s₁ B hml hv
  obtain ⟨rfl, hsz, hP, hK, hD0, hN0⟩ := hv
  have hx := B.exec
  have hb := B.bytes
  have hr := B.returns
  have hts := atoms_spec (ws := wsX3_read) B.pre
  have hown : s.vm.findClass RX3 = some m.cls := findClass_of_methodNamed B.named
  have hlocks := B.notSynchronized
  subst hsz
  have hD := hD0.self (sz := s.heap.size)
  generalize hAe : va_A (gw h kq (some (d 0)) k o b kp ga gl ++ ow cB o oz cs cd ++ sw cB cI b sz st us mem pl ln ++ sw cB cI d sz2 st2 us2 mem2 pl2 ln2) s.heap.size = A at hD ⊢
  have hA : ∀ q : Nat, s.heap.size ≤ q → A q := fun q h => by rw [← hAe]; exact Or.inr h
  have hS : va_S A s.heap s.heap [] := va_S.rf
  have hP : va_P (dC, dI) vwCl (gw h kq (some (d 0)) k o b kp ga gl ++ ow cB o oz cs cd ++ sw cB cI b sz st us mem pl ln ++ sw cB cI d sz2 st2 us2 mem2 pl2 ln2) s.heap := hP
  have in_X3 : ∀ w ∈ wsX30, w ∈ wsX3_read := fun _ h => List.mem_cons_of_mem _ (List.mem_append_left _ (List.mem_append_left _ (List.mem_append_right _ (h))))
  have lk_1 := hts (.fieldLink RX3 25 "GlulxHeap" "script" "LGlulxHeap$Code;") (List.mem_of_getElem? (i := 1) rfl)
  have hl := lv_entry ([.ref h]) (n := 3) (Nat.le_of_ble_eq_true rfl)
  rw [lg_entry_eq]
  generalize (lg_sl ([.ref h]) ++ List.replicate (3 - (lg_sl ([.ref h])).length) Slot.unset).toArray = ls at hl ⊢
  have hl : lv_has ls 3 [(0, .ref h)] := hl
  refine lv_aload_n hx hb dX3_read_0 rfl (lv_at hl 0 rfl) ?_
  have hPc := hP.sub (ws' := gw h kq (some (d 0)) k o b kp ga gl) [0] rfl
  have hKc := hK.sub (tys' := [(cI, .int), (cB, .byte)]) [0, 1] rfl
  refine va_csq (W.runV (As := []) (rest := []) ⟨hx, hb, hml, hown, hts⟩ (c_X3_spareState l dC dI cB cI cS h kq k o b d kp ga gl ) (cwV 0 hts gX3_read_X3_spareState rfl rfl rfl (by decide +kernel) ⟨Nat.le_of_ble_eq_true rfl, Nat.le_of_ble_eq_true rfl⟩) ⟨fun a9 U g9 mk9 q9 => by obtain ⟨q0, qP, qK⟩ := q9; exact ⟨q0, qP, va_K.moved (u := U) (U := U.calling g9 mk9 a9) (Vm.Alike.refl U.vm) qK⟩, va_recv hKc hPc (ci := 3) (q0 := 0) rfl rfl, fun U hU hW => ⟨rfl, by rw [hU]; exact hPc, va_K.moved hW.alike hKc⟩⟩ rfl rfl hl.1 rfl (lv_room (Nat.le_of_ble_eq_true rfl)) dX3_read_1 ⟨Nat.zero_le _, Nat.zero_le _⟩) (fun r_1 hw => ?_)
  try dsimp only at hw
  subst hw
  refine tpv (show va_rf (some (d 0)) = Value.ref (d 0) from rfl) ?_
  refine lv_astore_n (lv' := [(1, .ref (d 0)), (0, .ref h)]) hx hb dX3_read_4 rfl hl (by decide) rfl (fun ls hl => ?_)
  refine lv_aload_n hx hb dX3_read_5 rfl (lv_at hl 1 rfl) ?_
  refine va_get (D := (dC, dI)) (ci := 3) (v := .ref (o 0)) (C := RX3) (T := TX3) (N := 8) hx hb hts in_X3 hown hK hP 0 rfl rfl 2 (by decide) lk_1 (fun _ h9 => h9) rfl dX3_read_6 ?_
  refine lv_aload_n hx hb dX3_read_9 rfl (lv_at hl 0 rfl) ?_
  have hPc := hP.sub (ws' := ow cB o oz cs cd ++ sw cB cI d sz2 st2 us2 mem2 pl2 ln2) [1, 2, 7, 8, 9, 10] rfl
  have hKc := hK.sub (tys' := [(cI, .int), (cB, .byte)]) [0, 1] rfl
  have hDc := hD.sub (ws' := ow cB o oz cs cd ++ sw cB cI d sz2 st2 us2 mem2 pl2 ln2) [1, 2, 7, 8, 9, 10] (by decide) rfl
  have hFc := va_free (wc := ow cB o oz cs cd ++ sw cB cI d sz2 st2 us2 mem2 pl2 ln2) hD hS hA [1, 2, 7, 8, 9, 10] rfl
  refine va_calli (va_runV (As := [.ref (d 0)]) (rest := []) ⟨hx, hb, hml, hown, hts⟩ (c_X0_unfold l dC dI cB cI o d oz cs cd sz2 st2 us2 mem2 pl2 ln2 s.heap.size gz g0 bcd bmem2 bpl2 bln2) (cwV 1 hts gX3_read_X0_unfold rfl rfl rfl (by decide +kernel) ⟨Nat.le_of_ble_eq_true rfl, Nat.le_of_ble_eq_true rfl⟩) ⟨fun a9 U g9 mk9 q9 => by obtain ⟨q0, q1, qP, qK, qD, qN0⟩ := q9; exact ⟨q0, q1, qP, va_K.moved (u := U) (U := U.calling g9 mk9 a9) (Vm.Alike.refl U.vm) qK, qD, va_Nw.same rfl rfl qN0⟩, va_recv hKc hPc (ci := 0) (q0 := 0) rfl rfl, fun U hU hW => ⟨rfl, by rw [hU], by rw [hU]; exact hPc, va_K.moved hW.alike hKc, hDc.weaken (fun _ _ _ _ => trivial), va_Nw.warmM hW hN0⟩⟩ rfl rfl hl.1 rfl (lv_room (Nat.le_of_ble_eq_true rfl)) dX3_read_10 ⟨Nat.zero_le _, Nat.zero_le _⟩) hS (fun q _ h => hFc q h) hFc (fun r_10 u t H1 locs ht9 hvm9 hw hB hz9 hk9 hS => ?_)
  obtain ⟨sz9, st9, us9, mem9, pl9, ln9⟩ := u
  try dsimp only at hw
  obtain ⟨hP1, hK1, hD1⟩ := hB
  rw [ht9] at hP1
  obtain ⟨hP, hD⟩ := va_join (wr := gw h kq (some (d 0)) k o b kp ga gl ++ sw cB cI b sz st us mem pl ln) (w1 := ow cB o oz cs cd ++ sw cB cI d sz9 st9 us9 mem9 pl9 ln9) hP hD [1, 2, 7, 8, 9, 10] [0, 3, 4, 5, 6] rfl rfl (by decide) (by decide) hk9 hFc hP1 hD1
  generalize H1 = H at hP hS ⊢
  have hP := hP.sub (ws' := gw h kq (some (d 0)) k o b kp ga gl ++ ow cB o oz cs cd ++ sw cB cI b sz st us mem pl ln ++ sw cB cI d sz9 st9 us9 mem9 pl9 ln9) [0, 5, 6, 1, 2, 3, 4, 7, 8, 9, 10] rfl
  have hD := hD.sub (ws' := gw h kq (some (d 0)) k o b kp ga gl ++ ow cB o oz cs cd ++ sw cB cI b sz st us mem pl ln ++ sw cB cI d sz9 st9 us9 mem9 pl9 ln9) [0, 5, 6, 1, 2, 3, 4, 7, 8, 9, 10] (by decide) rfl
  have hP : va_P (dC, dI) vwCl (gw h kq (some (d 0)) k o b kp ga gl ++ ow cB o oz cs cd ++ sw cB cI b sz st us mem pl ln ++ sw cB cI d sz9 st9 us9 mem9 pl9 ln9) H := hP
  have hD : va_D A (gw h kq (some (d 0)) k o b kp ga gl ++ ow cB o oz cs cd ++ sw cB cI b sz st us mem pl ln ++ sw cB cI d sz9 st9 us9 mem9 pl9 ln9) := hD
  obtain ⟨hw1, hwb⟩ := hw
  rw [g1] at hw1
  obtain ⟨rfl, hwl⟩ := hw1
  refine lv_istore_n (lv' := [(2, .int (nI w)), (1, .ref (d 0)), (0, .ref h)]) hx hb dX3_read_13 rfl hl (by decide) rfl (fun ls hl => ?_)
  refine lv_iload_n hx hb dX3_read_14 rfl (lv_at hl 0 rfl) ?_
  refine lv_iconst (v := ((-1))) hx hb dX3_read_15 (by decide) ?_
  refine lv_icmp_eq (tgt := 24) hx hb dX3_read_16 (by decide) (fun c_16 => ?_) (fun c_16 => ?_)
  · skip
    exact absurd c_16 (nI_m1 (by omega))
  · refine lv_bipush (v := ((-100))) hx hb dX3_read_19 (by decide) ?_
    refine lv_iload_n hx hb dX3_read_21 rfl (lv_at hl 0 rfl) ?_
    refine lv_isub hx hb dX3_read_22 ?_
    exact W.iret (v := (((-100)) - (nI w))) hx hb hr (fun t ht hW => ⟨⟨(((-100)) - (nI w)), (sz9, st9, us9, mem9, pl9, ln9), rfl, ⟨⟨rfl, hwl⟩, hwb⟩, by rw [ht]; exact hP, va_K.moved hW.alike hK, hD⟩, hS.F ht⟩) hS.2.2 dX3_read_23
set_option maxHeartbeats 4000000 in
set_option maxRecDepth 100000 in
theorem c_X3_readRO (l : Launch) (dC : Nat → ClassId) (dI : Nat → Nat → Nat) (cB cI cS : ClassId) (h kq : Nat) (k o b d : Nat → Nat) (kp : Nat) (ga : Nat) (gl : Nat) (oz : Nat) (cs : Nat) (cd : Nat → Nat) (sz : Nat) (st : Nat) (us : Nat) (mem : Nat → Nat) (pl : Nat → Nat) (ln : Nat → Nat) (sz2 : Nat) (st2 : Nat) (us2 : Nat) (mem2 : Nat → Nat) (pl2 : Nat → Nat) (ln2 : Nat → Nat) (zz : Nat) (g : Nat → Nat) (gz : cs ≤ oz) (g0 : oz ≤ 20000) (bcd : ∀ j, cd j < 256) (bmem2 : ∀ j, mem2 j < 256) (bpl2 : ∀ j, pl2 j < 2 ^ 31) (bln2 : ∀ j, ln2 j < 2 ^ 31) (g3 : sz ≤ 8192) (g6 : ga ≤ 8192) (g7 : gl ≤ 8192) (g1 : rdKS cs cd (outW (zr mem2 0 8192) fst 0 64) = .inr g) : Met l yX3_read wsX3_read ({ frames := 4, cells := 0, slots := 0, locals := 90 }) (va_Pc [.ref h] (fun U => U.heap.size = zz ∧ va_P (dC, dI) vwCl (gw h kq (some (d 0)) k o b kp ga gl ++ ow cB o oz cs cd ++ sw cB cI b sz st us mem pl ln ++ sw cB cI d sz2 st2 us2 mem2 pl2 ln2) U.heap ∧ va_K (dC, dI) vwCl [(cI, .int), (cB, .byte)] U ∧ va_D (fun _ => True) (gw h kq (some (d 0)) k o b kp ga gl ++ ow cB o oz cs cd ++ sw cB cI b sz st us mem pl ln ++ sw cB cI d sz2 st2 us2 mem2 pl2 ln2) ∧ va_Nw (.methodLinkNest RX0 79 yX3_isSize "GlulxHeap") U)) (va_Qi (fun (r : Int32) (u : (Nat → Nat) × (Nat → Nat)) => match u with | ⟨pl9, ln9⟩ => r = nI (tw cd 0) ∧ (∀ j, j < tw cd 4 → pl9 j = tw cd (6 + 4 * j) ∧ ln9 j = tw cd (6 + 4 * j + 2)) ∧ (∀ j, g j < 256 ∧ pl9 j < 2 ^ 31 ∧ ln9 j < 2 ^ 31)) (fun (u : (Nat → Nat) × (Nat → Nat)) t => match u with | ⟨pl9, ln9⟩ => va_P (dC, dI) vwCl (gw h kq (some (b 0)) k o d kp ga gl ++ ow cB o oz cs cd ++ sw cB cI b sz st us mem pl ln ++ sw cB cI d (tw cd 0) (tw cd 2) (tw cd 4) (cbM mem g ga gl (bth2 sz (tw cd 0))) pl9 ln9) t.heap ∧ va_K (dC, dI) vwCl [(cI, .int), (cB, .byte)] t ∧ va_D (va_A (gw h kq (some (d 0)) k o b kp ga gl ++ ow cB o oz cs cd ++ sw cB cI b sz st us mem pl ln ++ sw cB cI d sz2 st2 us2 mem2 pl2 ln2) zz) (gw h kq (some (b 0)) k o d kp ga gl ++ ow cB o oz cs cd ++ sw cB cI b sz st us mem pl ln ++ sw cB cI d (tw cd 0) (tw cd 2) (tw cd 4) (cbM mem g ga gl (bth2 sz (tw cd 0))) pl9 ln9)) (va_A (gw h kq (some (d 0)) k o b kp ga gl ++ ow cB o oz cs cd ++ sw cB cI b sz st us mem pl ln ++ sw cB cI d sz2 st2 us2 mem2 pl2 ln2) zz)) 0 0 (va_A (gw h kq (some (d 0)) k o b kp ga gl ++ ow cB o oz cs cd ++ sw cB cI b sz st us mem pl ln ++ sw cB cI d sz2 st2 us2 mem2 pl2 ln2) zz) := by
  refine Met.ofW (cc := cX3_read) (maxL := 3) (ret := (some .int)) (by decide) rfl ?_
  intro p e s m args below meth c s₁ B hml hv
  obtain ⟨rfl, hsz, hP, hK, hD0, hN0⟩ := hv
  have hx := B.exec
  have hb := B.bytes
  have hr := B.returns
  have hts := atoms_spec (ws := wsX3_read) B.pre
  have hown : s.vm.findClass RX3 = some m.cls := findClass_of_methodNamed B.named
  have hlocks := B.notSynchronized
  subst hsz
  have hD := hD0.self (sz := s.heap.size)
  generalize hAe : va_A (gw h kq (some (d 0)) k o b kp ga gl ++ ow cB o oz cs cd ++ sw cB cI b sz st us mem pl ln ++ sw cB cI d sz2 st2 us2 mem2 pl2 ln2) s.heap.size = A at hD ⊢
  have hA : ∀ q : Nat, s.heap.size ≤ q → A q := fun q h => by rw [← hAe]; exact Or.inr h
  have hS : va_S A s.heap s.heap [] := va_S.rf
  have hP : va_P (dC, dI) vwCl (gw h kq (some (d 0)) k o b kp ga gl ++ ow cB o oz cs cd ++ sw cB cI b sz st us mem pl ln ++ sw cB cI d sz2 st2 us2 mem2 pl2 ln2) s.heap := hP
  have in_X2 : ∀ w ∈ wsX20, w ∈ wsX3_read := fun _ h => List.mem_cons_of_mem _ (List.mem_append_left _ (List.mem_append_right _ (h)))
  have in_X3 : ∀ w ∈ wsX30, w ∈ wsX3_read := fun _ h => List.mem_cons_of_mem _ (List.mem_append_left _ (List.mem_append_left _ (List.mem_append_right _ (h))))
  have lk_1 := hts (.fieldLink RX3 25 "GlulxHeap" "script" "LGlulxHeap$Code;") (List.mem_of_getElem? (i := 1) rfl)
  have lk_2 := hts (.fieldLink RX3 30 "GlulxHeap" "now" "LGlulxHeap$State;") (List.mem_of_getElem? (i := 2) rfl)
  have lk_3 := hts (.fieldLink RX3 177 "GlulxHeap" "spare" "LGlulxHeap$State;") (List.mem_of_getElem? (i := 3) rfl)
  have lk_4 := hts (.fieldLink RX3 84 "GlulxHeap$State" "size" "I") (List.mem_of_getElem? (i := 4) rfl)
  have hl := lv_entry ([.ref h]) (n := 3) (Nat.le_of_ble_eq_true rfl)
  rw [lg_entry_eq]
  generalize (lg_sl ([.ref h]) ++ List.replicate (3 - (lg_sl ([.ref h])).length) Slot.unset).toArray = ls at hl ⊢
  have hl : lv_has ls 3 [(0, .ref h)] := hl
  refine lv_aload_n hx hb dX3_read_0 rfl (lv_at hl 0 rfl) ?_
  have hPc := hP.sub (ws' := gw h kq (some (d 0)) k o b kp ga gl) [0] rfl
  have hKc := hK.sub (tys' := [(cI, .int), (cB, .byte)]) [0, 1] rfl
  refine va_csq (W.runV (As := []) (rest := []) ⟨hx, hb, hml, hown, hts⟩ (c_X3_spareState l dC dI cB cI cS h kq k o b d kp ga gl ) (cwV 0 hts gX3_read_X3_spareState rfl rfl rfl (by decide +kernel) ⟨Nat.le_of_ble_eq_true rfl, Nat.le_of_ble_eq_true rfl⟩) ⟨fun a9 U g9 mk9 q9 => by obtain ⟨q0, qP, qK⟩ := q9; exact ⟨q0, qP, va_K.moved (u := U) (U := U.calling g9 mk9 a9) (Vm.Alike.refl U.vm) qK⟩, va_recv hKc hPc (ci := 3) (q0 := 0) rfl rfl, fun U hU hW => ⟨rfl, by rw [hU]; exact hPc, va_K.moved hW.alike hKc⟩⟩ rfl rfl hl.1 rfl (lv_room (Nat.le_of_ble_eq_true rfl)) dX3_read_1 ⟨Nat.zero_le _, Nat.zero_le _⟩) (fun r_1 hw => ?_)
  try dsimp only at hw
  subst hw
  refine tpv (show va_rf (some (d 0)) = Value.ref (d 0) from rfl) ?_
  refine lv_astore_n (lv' := [(1, .ref (d 0)), (0, .ref h)]) hx hb dX3_read_4 rfl hl (by decide) rfl (fun ls hl => ?_)
  refine lv_aload_n hx hb dX3_read_5 rfl (lv_at hl 1 rfl) ?_
  refine va_get (D := (dC, dI)) (ci := 3) (v := .ref (o 0)) (C := RX3) (T := TX3) (N := 8) hx hb hts in_X3 hown hK hP 0 rfl rfl 2 (by decide) lk_1 (fun _ h9 => h9) rfl dX3_read_6 ?_
  refine lv_aload_n hx hb dX3_read_9 rfl (lv_at hl 0 rfl) ?_
  have hPc := hP.sub (ws' := ow cB o oz cs cd ++ sw cB cI d sz2 st2 us2 mem2 pl2 ln2) [1, 2, 7, 8, 9, 10] rfl
  have hKc := hK.sub (tys' := [(cI, .int), (cB, .byte)]) [0, 1] rfl
  have hDc := hD.sub (ws' := ow cB o oz cs cd ++ sw cB cI d sz2 st2 us2 mem2 pl2 ln2) [1, 2, 7, 8, 9, 10] (by decide) rfl
  have hFc := va_free (wc := ow cB o oz cs cd ++ sw cB cI d sz2 st2 us2 mem2 pl2 ln2) hD hS hA [1, 2, 7, 8, 9, 10] rfl
  refine va_calli (va_runV (As := [.ref (d 0)]) (rest := []) ⟨hx, hb, hml, hown, hts⟩ (c_X0_unfold l dC dI cB cI o d oz cs cd sz2 st2 us2 mem2 pl2 ln2 s.heap.size gz g0 bcd bmem2 bpl2 bln2) (cwV 1 hts gX3_read_X0_unfold rfl rfl rfl (by decide +kernel) ⟨Nat.le_of_ble_eq_true rfl, Nat.le_of_ble_eq_true rfl⟩) ⟨fun a9 U g9 mk9 q9 => by obtain ⟨q0, q1, qP, qK, qD, qN0⟩ := q9; exact ⟨q0, q1, qP, va_K.moved (u := U) (U := U.calling g9 mk9 a9) (Vm.Alike.refl U.vm) qK, qD, va_Nw.same rfl rfl qN0⟩, va_recv hKc hPc (ci := 0) (q0 := 0) rfl rfl, fun U hU hW => ⟨rfl, by rw [hU], by rw [hU]; exact hPc, va_K.moved hW.alike hKc, hDc.weaken (fun _ _ _ _ => trivial), va_Nw.warmM hW hN0⟩⟩ rfl rfl hl.1 rfl (lv_room (Nat.le_of_ble_eq_true rfl)) dX3_read_10 ⟨Nat.zero_le _, Nat.zero_le _⟩) hS (fun q _ h => hFc q h) hFc (fun r_10 u t H1 locs ht9 hvm9 hw hB hz9 hk9 hS => ?_)
  obtain ⟨sz9, st9, us9, mem9, pl9, ln9⟩ := u
  try dsimp only at hw
  obtain ⟨hP1, hK1, hD1⟩ := hB
  rw [ht9] at hP1
  obtain ⟨hP, hD⟩ := va_join (wr := gw h kq (some (d 0)) k o b kp ga gl ++ sw cB cI b sz st us mem pl ln) (w1 := ow cB o oz cs cd ++ sw cB cI d sz9 st9 us9 mem9 pl9 ln9) hP hD [1, 2, 7, 8, 9, 10] [0, 3, 4, 5, 6] rfl rfl (by decide) (by decide) hk9 hFc hP1 hD1
  generalize H1 = H at hP hS ⊢
  have hP := hP.sub (ws' := gw h kq (some (d 0)) k o b kp ga gl ++ ow cB o oz cs cd ++ sw cB cI b sz st us mem pl ln ++ sw cB cI d sz9 st9 us9 mem9 pl9 ln9) [0, 5, 6, 1, 2, 3, 4, 7, 8, 9, 10] rfl
  have hD := hD.sub (ws' := gw h kq (some (d 0)) k o b kp ga gl ++ ow cB o oz cs cd ++ sw cB cI b sz st us mem pl ln ++ sw cB cI d sz9 st9 us9 mem9 pl9 ln9) [0, 5, 6, 1, 2, 3, 4, 7, 8, 9, 10] (by decide) rfl
  have hP : va_P (dC, dI) vwCl (gw h kq (some (d 0)) k o b kp ga gl ++ ow cB o oz cs cd ++ sw cB cI b sz st us mem pl ln ++ sw cB cI d sz9 st9 us9 mem9 pl9 ln9) H := hP
  have hD : va_D A (gw h kq (some (d 0)) k o b kp ga gl ++ ow cB o oz cs cd ++ sw cB cI b sz st us mem pl ln ++ sw cB cI d sz9 st9 us9 mem9 pl9 ln9) := hD
  obtain ⟨hw1, hwb⟩ := hw
  rw [g1] at hw1
  obtain ⟨rfl, rfl, rfl, rfl, hmg, hw4⟩ := hw1
  obtain rfl : g = mem9 := hmg.symm
  obtain ⟨⟨hz1, hz2, -⟩, -, -⟩ := hdH_ok (rdKS_r g1)
  have hP : va_P (dC, dI) vwCl (gw h kq (some (d 0)) k o b kp ga gl ++ ow cB o oz cs cd ++ sw cB cI b sz st us mem pl ln ++ sw cB cI d (tw cd 0) (tw cd 2) (tw cd 4) g pl9 ln9) H := hP
  have hD : va_D A (gw h kq (some (d 0)) k o b kp ga gl ++ ow cB o oz cs cd ++ sw cB cI b sz st us mem pl ln ++ sw cB cI d (tw cd 0) (tw cd 2) (tw cd 4) g pl9 ln9) := hD
  refine lv_istore_n (lv' := [(2, .int ((-1))), (1, .ref (d 0)), (0, .ref h)]) hx hb dX3_read_13 rfl hl (by decide) rfl (fun ls hl => ?_)
  refine lv_iload_n hx hb dX3_read_14 rfl (lv_at hl 0 rfl) ?_
  refine lv_iconst (v := ((-1))) hx hb dX3_read_15 (by decide) ?_
  refine lv_icmp_eq (tgt := 24) hx hb dX3_read_16 (by decide) (fun c_16 => ?_) (fun c_16 => ?_)
  · refine lv_aload_n hx hb dX3_read_24 rfl (lv_at hl 2 rfl) ?_
    refine lv_aload_n hx hb dX3_read_25 rfl (lv_at hl 2 rfl) ?_
    refine va_get (D := (dC, dI)) (ci := 3) (v := .ref (b 0)) (C := RX3) (T := TX3) (N := 8) hx hb hts in_X3 hown hK hP 0 rfl rfl 3 (by decide) lk_2 (fun _ h9 => h9) rfl dX3_read_26 ?_
    refine va_put (D := (dC, dI)) (ci := 3) (v := .ref (b 0)) (ty := .object "GlulxHeap$State") (C := RX3) (T := TX3) (N := 8) hx hb hts in_X3 tyX3 tyX3_ok nmX3 hown hK hP hD hS 0 rfl rfl 4 (by decide) lk_3 (fun _ h9 => h9) rfl (by decide +kernel) rfl rfl (Nat.le_of_ble_eq_true rfl) dX3_read_29 (fun H locs hP hD hS => ?_)
    have hP : va_P (dC, dI) vwCl (gw h kq (some (b 0)) k o b kp ga gl ++ ow cB o oz cs cd ++ sw cB cI b sz st us mem pl ln ++ sw cB cI d (tw cd 0) (tw cd 2) (tw cd 4) g pl9 ln9) H := hP
    have hD : va_D A (gw h kq (some (b 0)) k o b kp ga gl ++ ow cB o oz cs cd ++ sw cB cI b sz st us mem pl ln ++ sw cB cI d (tw cd 0) (tw cd 2) (tw cd 4) g pl9 ln9) := hD
    refine lv_aload_n hx hb dX3_read_32 rfl (lv_at hl 2 rfl) ?_
    refine lv_aload_n hx hb dX3_read_33 rfl (lv_at hl 1 rfl) ?_
    have hPc := hP.sub (ws' := gw h kq (some (b 0)) k o b kp ga gl ++ sw cB cI b sz st us mem pl ln ++ sw cB cI d (tw cd 0) (tw cd 2) (tw cd 4) g pl9 ln9) [0, 3, 4, 5, 6, 7, 8, 9, 10] rfl
    have hKc := hK.sub (tys' := [(cI, .int), (cB, .byte)]) [0, 1] rfl
    have hDc := hD.sub (ws' := gw h kq (some (b 0)) k o b kp ga gl ++ sw cB cI b sz st us mem pl ln ++ sw cB cI d (tw cd 0) (tw cd 2) (tw cd 4) g pl9 ln9) [0, 3, 4, 5, 6, 7, 8, 9, 10] (by decide) rfl
    have hFc := va_free (wc := gw h kq (some (b 0)) k o b kp ga gl ++ sw cB cI b sz st us mem pl ln ++ sw cB cI d (tw cd 0) (tw cd 2) (tw cd 4) g pl9 ln9) hD hS hA [0, 3, 4, 5, 6, 7, 8, 9, 10] rfl
    refine va_callv (va_runV (As := [.ref (d 0)]) (rest := []) ⟨hx, hb, hml, hown, hts⟩ (c_X3_comeBack l dC dI cB cI h kq (some (b 0)) k o b d kp ga gl sz st us mem pl ln (tw cd 0) (tw cd 2) (tw cd 4) g pl9 ln9 H.size (by omega) (by omega) (by omega) (by omega)) (cwV 1 hts gX3_read_X3_comeBack rfl rfl rfl (by decide +kernel) ⟨Nat.le_of_ble_eq_true rfl, Nat.le_of_ble_eq_true rfl⟩) ⟨fun a9 U g9 mk9 q9 => by obtain ⟨q0, q1, qP, qK, qD⟩ := q9; exact ⟨q0, q1, qP, va_K.moved (u := U) (U := U.calling g9 mk9 a9) (Vm.Alike.refl U.vm) qK, qD⟩, va_recv hKc hPc (ci := 3) (q0 := 0) rfl rfl, fun U hU hW => ⟨rfl, by rw [hU], by rw [hU]; exact hPc, va_K.moved hW.alike hKc, hDc.weaken (fun _ _ _ _ => trivial)⟩⟩ rfl rfl hl.1 rfl (lv_room (Nat.le_of_ble_eq_true rfl)) dX3_read_34 ⟨Nat.zero_le _, Nat.zero_le _⟩) hS (fun q _ h => hFc q h) hFc (fun u t H1 locs ht9 hvm9 hw hB hz9 hk9 hS => ?_)
    obtain ⟨hP1, hK1, hD1⟩ := hB
    rw [ht9] at hP1
    obtain ⟨hP, hD⟩ := va_join (wr := ow cB o oz cs cd) (w1 := gw h kq (some (b 0)) k o d kp ga gl ++ sw cB cI b sz st us mem pl ln ++ sw cB cI d (tw cd 0) (tw cd 2) (tw cd 4) (cbM mem g ga gl (bth2 sz (tw cd 0))) pl9 ln9) hP hD [0, 3, 4, 5, 6, 7, 8, 9, 10] [1, 2] rfl rfl (by decide) (by decide) hk9 hFc hP1 hD1
    generalize H1 = H at hP hS ⊢
    have hP := hP.sub (ws' := gw h kq (some (b 0)) k o d kp ga gl ++ ow cB o oz cs cd ++ sw cB cI b sz st us mem pl ln ++ sw cB cI d (tw cd 0) (tw cd 2) (tw cd 4) (cbM mem g ga gl (bth2 sz (tw cd 0))) pl9 ln9) [2, 0, 1, 3, 4, 5, 6, 7, 8, 9, 10] rfl
    have hD := hD.sub (ws' := gw h kq (some (b 0)) k o d kp ga gl ++ ow cB o oz cs cd ++ sw cB cI b sz st us mem pl ln ++ sw cB cI d (tw cd 0) (tw cd 2) (tw cd 4) (cbM mem g ga gl (bth2 sz (tw cd 0))) pl9 ln9) [2, 0, 1, 3, 4, 5, 6, 7, 8, 9, 10] (by decide) rfl
    have hP : va_P (dC, dI) vwCl (gw h kq (some (b 0)) k o d kp ga gl ++ ow cB o oz cs cd ++ sw cB cI b sz st us mem pl ln ++ sw cB cI d (tw cd 0) (tw cd 2) (tw cd 4) (cbM mem g ga gl (bth2 sz (tw cd 0))) pl9 ln9) H := hP
    have hD : va_D A (gw h kq (some (b 0)) k o d kp ga gl ++ ow cB o oz cs cd ++ sw cB cI b sz st us mem pl ln ++ sw cB cI d (tw cd 0) (tw cd 2) (tw cd 4) (cbM mem g ga gl (bth2 sz (tw cd 0))) pl9 ln9) := hD
    refine lv_aload_n hx hb dX3_read_37 rfl (lv_at hl 2 rfl) ?_
    refine va_get (D := (dC, dI)) (ci := 3) (v := .ref (d 0)) (C := RX3) (T := TX3) (N := 8) hx hb hts in_X3 hown hK hP 0 rfl rfl 3 (by decide) lk_2 (fun _ h9 => h9) rfl dX3_read_38 ?_
    refine va_get (D := (dC, dI)) (ci := 2) (v := .int (nI (tw cd 0))) (C := RX2) (T := TX2) (N := 6) hx hb hts in_X2 hown hK hP 7 rfl rfl 3 (by decide) lk_4 (fun _ h9 => h9) rfl dX3_read_41 ?_
    exact W.iret (v := (nI (tw cd 0))) hx hb hr (fun t ht hW => ⟨⟨(nI (tw cd 0)), (pl9, ln9), rfl, ⟨rfl, hw4, hwb⟩, by rw [ht]; exact hP, va_K.moved hW.alike hK, hD⟩, hS.F ht⟩) hS.2.2 dX3_read_44
  · exact absurd c_16 (by decide)
set_option maxHeartbeats 4000000 in
set_option maxRecDepth 100000 in
theorem c_X3_readWN (l : Launch) (dC : Nat → ClassId) (dI : Nat → Nat → Nat) (cB cI cS : ClassId) (h kq : Nat) (k o b : Nat → Nat) (kp : Nat) (ga : Nat) (gl : Nat) (oz : Nat) (cs : Nat) (cd : Nat → Nat) (sz : Nat) (st : Nat) (us : Nat) (mem : Nat → Nat) (pl : Nat → Nat) (ln : Nat → Nat) (zz : Nat) (w : Nat) (gz : cs ≤ oz) (g0 : oz ≤ 20000) (bcd : ∀ j, cd j < 256) (g1 : rdKS cs cd (outW (zr zf 0 8192) fst 0 64) = .inl w) : Met l yX3_read wsX3_read ({ frames := 4, cells := 4, slots := 8326, locals := 90 }) (va_Pc [.ref h] (fun U => U.heap.size = zz ∧ va_P (dC, dI) vwCl (gw h kq none k o b kp ga gl ++ ow cB o oz cs cd ++ sw cB cI b sz st us mem pl ln) U.heap ∧ va_K (dC, dI) vwCl [(cI, .int), (cB, .byte)] U ∧ va_D (fun _ => True) (gw h kq none k o b kp ga gl ++ ow cB o oz cs cd ++ sw cB cI b sz st us mem pl ln) ∧ va_Nw (.methodLinkNest RX3 29 yX2_init "GlulxHeap") U ∧ va_Nw (.methodLinkNest RX0 79 yX3_isSize "GlulxHeap") U)) (va_Qi (fun (r : Int32) (u : (Nat → Nat) × Nat × Nat × Nat × (Nat → Nat) × (Nat → Nat) × (Nat → Nat)) => match u with | ⟨d, sz9, st9, us9, mem9, pl9, ln9⟩ => (r = (-100) - nI w ∧ w ≤ 41000) ∧ (∀ j, mem9 j < 256 ∧ pl9 j < 2 ^ 31 ∧ ln9 j < 2 ^ 31)) (fun (u : (Nat → Nat) × Nat × Nat × Nat × (Nat → Nat) × (Nat → Nat) × (Nat → Nat)) t => match u with | ⟨d, sz9, st9, us9, mem9, pl9, ln9⟩ => va_P (dC, dI) vwCl (gw h kq (some (d 0)) k o b kp ga gl ++ ow cB o oz cs cd ++ sw cB cI b sz st us mem pl ln ++ sw cB cI d sz9 st9 us9 mem9 pl9 ln9) t.heap ∧ va_K (dC, dI) vwCl [(cI, .int), (cB, .byte)] t ∧ va_D (va_A (gw h kq none k o b kp ga gl ++ ow cB o oz cs cd ++ sw cB cI b sz st us mem pl ln) zz) (gw h kq (some (d 0)) k o b kp ga gl ++ ow cB o oz cs cd ++ sw cB cI b sz st us mem pl ln ++ sw cB cI d sz9 st9 us9 mem9 pl9 ln9)) (va_A (gw h kq none k o b kp ga gl ++ ow cB o oz cs cd ++ sw cB cI b sz st us mem pl ln) zz)) 4 8326 (va_A (gw h kq none k o b kp ga gl ++ ow cB o oz cs cd ++ sw cB cI b sz st us mem pl ln) zz) := by
  refine Met.ofW (cc := cX3_read) (maxL := 3) (ret := (some .int)) (by decide) rfl ?_
  intro p e s m args below meth c s₁ B hml hv
  obtain ⟨rfl, hsz, hP, hK, hD0, hN0, hN1⟩ := hv
  have hx := B.exec
  have hb := B.bytes
  have hr := B.returns
  have hts := atoms_spec (ws := wsX3_read) B.pre
  have hown : s.vm.findClass RX3 = some m.cls := findClass_of_methodNamed B.named
  have hlocks := B.notSynchronized
  subst hsz
  have hD := hD0.self (sz := s.heap.size)
  generalize hAe : va_A (gw h kq none k o b kp ga gl ++ ow cB o oz cs cd ++ sw cB cI b sz st us mem pl ln) s.heap.size = A at hD ⊢
  have hA : ∀ q : Nat, s.heap.size ≤ q → A q := fun q h => by rw [← hAe]; exact Or.inr h
  have hS : va_S A s.heap s.heap [] := va_S.rf
  have hP : va_P (dC, dI) vwCl (gw h kq none k o b kp ga gl ++ ow cB o oz cs cd ++ sw cB cI b sz st us mem pl ln) s.heap := hP
  have in_X3 : ∀ w ∈ wsX30, w ∈ wsX3_read := fun _ h => List.mem_cons_of_mem _ (List.mem_append_left _ (List.mem_append_left _ (List.mem_append_right _ (h))))
  have lk_1 := hts (.fieldLink RX3 25 "GlulxHeap" "script" "LGlulxHeap$Code;") (List.mem_of_getElem? (i := 1) rfl)
  have hl := lv_entry ([.ref h]) (n := 3) (Nat.le_of_ble_eq_true rfl)
  rw [lg_entry_eq]
  generalize (lg_sl ([.ref h]) ++ List.replicate (3 - (lg_sl ([.ref h])).length) Slot.unset).toArray = ls at hl ⊢
  have hl : lv_has ls 3 [(0, .ref h)] := hl
  refine lv_aload_n hx hb dX3_read_0 rfl (lv_at hl 0 rfl) ?_
  have hPc := hP.sub (ws' := gw h kq none k o b kp ga gl) [0] rfl
  have hKc := hK.sub (tys' := [(cI, .int), (cB, .byte)]) [0, 1] rfl
  have hDc := hD.sub (ws' := gw h kq none k o b kp ga gl) [0] (by decide) rfl
  have hFc := va_free (wc := gw h kq none k o b kp ga gl) hD hS hA [0] rfl
  refine va_callq (va_runV (As := []) (rest := []) ⟨hx, hb, hml, hown, hts⟩ (c_X3_spareState0 l dC dI cB cI cS h kq k o b kp ga gl s.heap.size ) (cwV 0 hts gX3_read_X3_spareState rfl rfl rfl (by decide +kernel) ⟨Nat.le_of_ble_eq_true rfl, Nat.le_of_ble_eq_true rfl⟩) ⟨fun a9 U g9 mk9 q9 => by obtain ⟨q0, q1, qP, qK, qD, qN0⟩ := q9; exact ⟨q0, q1, qP, va_K.moved (u := U) (U := U.calling g9 mk9 a9) (Vm.Alike.refl U.vm) qK, qD, va_Nw.same rfl rfl qN0⟩, va_recv hKc hPc (ci := 3) (q0 := 0) rfl rfl, fun U hU hW => ⟨rfl, by rw [hU], by rw [hU]; exact hPc, va_K.moved hW.alike hKc, hDc.weaken (fun _ _ _ _ => trivial), va_Nw.warmM hW hN0⟩⟩ rfl rfl hl.1 rfl (lv_room (Nat.le_of_ble_eq_true rfl)) dX3_read_1 ⟨Nat.le_of_ble_eq_true rfl, Nat.le_of_ble_eq_true rfl⟩) hS (fun q _ h => hFc q h) hFc (fun r_1 u t H1 locs ht9 hvm9 hw hB hz9 hk9 hS => ?_)
  obtain ⟨d, rfl⟩ : ∃ z9, z9 = u := ⟨_, rfl⟩
  try dsimp only at hw
  obtain ⟨hP1, hK1, hD1⟩ := hB
  rw [ht9] at hP1
  obtain ⟨hP, hD⟩ := va_join (wr := ow cB o oz cs cd ++ sw cB cI b sz st us mem pl ln) (w1 := gw h kq (some (d 0)) k o b kp ga gl ++ sw cB cI d 0 0 0 zf zf zf) hP hD [0] [1, 2, 3, 4, 5, 6] rfl rfl (by decide) (by decide) hk9 hFc hP1 hD1
  generalize H1 = H at hP hS ⊢
  have hP := hP.sub (ws' := gw h kq (some (d 0)) k o b kp ga gl ++ ow cB o oz cs cd ++ sw cB cI b sz st us mem pl ln ++ sw cB cI d 0 0 0 zf zf zf) [6, 0, 1, 2, 3, 4, 5, 7, 8, 9, 10] rfl
  have hD := hD.sub (ws' := gw h kq (some (d 0)) k o b kp ga gl ++ ow cB o oz cs cd ++ sw cB cI b sz st us mem pl ln ++ sw cB cI d 0 0 0 zf zf zf) [6, 0, 1, 2, 3, 4, 5, 7, 8, 9, 10] (by decide) rfl
  have hP : va_P (dC, dI) vwCl (gw h kq (some (d 0)) k o b kp ga gl ++ ow cB o oz cs cd ++ sw cB cI b sz st us mem pl ln ++ sw cB cI d 0 0 0 zf zf zf) H := hP
  have hD : va_D A (gw h kq (some (d 0)) k o b kp ga gl ++ ow cB o oz cs cd ++ sw cB cI b sz st us mem pl ln ++ sw cB cI d 0 0 0 zf zf zf) := hD
  subst hw
  refine tpv (show va_rf (some (d 0)) = Value.ref (d 0) from rfl) ?_
  refine lv_astore_n (lv' := [(1, .ref (d 0)), (0, .ref h)]) hx hb dX3_read_4 rfl hl (by decide) rfl (fun ls hl => ?_)
  refine lv_aload_n hx hb dX3_read_5 rfl (lv_at hl 1 rfl) ?_
  refine va_get (D := (dC, dI)) (ci := 3) (v := .ref (o 0)) (C := RX3) (T := TX3) (N := 8) hx hb hts in_X3 hown hK hP 0 rfl rfl 2 (by decide) lk_1 (fun _ h9 => h9) rfl dX3_read_6 ?_
  refine lv_aload_n hx hb dX3_read_9 rfl (lv_at hl 0 rfl) ?_
  have hPc := hP.sub (ws' := ow cB o oz cs cd ++ sw cB cI d 0 0 0 zf zf zf) [1, 2, 7, 8, 9, 10] rfl
  have hKc := hK.sub (tys' := [(cI, .int), (cB, .byte)]) [0, 1] rfl
  have hDc := hD.sub (ws' := ow cB o oz cs cd ++ sw cB cI d 0 0 0 zf zf zf) [1, 2, 7, 8, 9, 10] (by decide) rfl
  have hFc := va_free (wc := ow cB o oz cs cd ++ sw cB cI d 0 0 0 zf zf zf) hD hS hA [1, 2, 7, 8, 9, 10] rfl
  refine va_calli (va_runV (As := [.ref (d 0)]) (rest := []) ⟨hx, hb, hml, hown, hts⟩ (c_X0_unfold l dC dI cB cI o d oz cs cd 0 0 0 zf zf zf H.size gz g0 bcd (fun _ => by show (0 : Nat) < 256; decide) (fun _ => by show (0 : Nat) < 2 ^ 31; decide) (fun _ => by show (0 : Nat) < 2 ^ 31; decide)) (cwV 1 hts gX3_read_X0_unfold rfl rfl rfl (by decide +kernel) ⟨Nat.le_of_ble_eq_true rfl, Nat.le_of_ble_eq_true rfl⟩) ⟨fun a9 U g9 mk9 q9 => by obtain ⟨q0, q1, qP, qK, qD, qN0⟩ := q9; exact ⟨q0, q1, qP, va_K.moved (u := U) (U := U.calling g9 mk9 a9) (Vm.Alike.refl U.vm) qK, qD, va_Nw.same rfl rfl qN0⟩, va_recv hKc hPc (ci := 0) (q0 := 0) rfl rfl, fun U hU hW => ⟨rfl, by rw [hU], by rw [hU]; exact hPc, va_K.moved hW.alike hKc, hDc.weaken (fun _ _ _ _ => trivial), va_Nw.warmM hW hN1⟩⟩ rfl rfl hl.1 rfl (lv_room (Nat.le_of_ble_eq_true rfl)) dX3_read_10 ⟨Nat.le_of_ble_eq_true rfl, Nat.le_of_ble_eq_true rfl⟩) hS (fun q _ h => hFc q h) hFc (fun r_10 u t H1 locs ht9 hvm9 hw hB hz9 hk9 hS => ?_)
  obtain ⟨sz9, st9, us9, mem9, pl9, ln9⟩ := u
  try dsimp only at hw
  obtain ⟨hP1, hK1, hD1⟩ := hB
  rw [ht9] at hP1
  obtain ⟨hP, hD⟩ := va_join (wr := gw h kq (some (d 0)) k o b kp ga gl ++ sw cB cI b sz st us mem pl ln) (w1 := ow cB o oz cs cd ++ sw cB cI d sz9 st9 us9 mem9 pl9 ln9) hP hD [1, 2, 7, 8, 9, 10] [0, 3, 4, 5, 6] rfl rfl (by decide) (by decide) hk9 hFc hP1 hD1
  generalize H1 = H at hP hS ⊢
  have hP := hP.sub (ws' := gw h kq (some (d 0)) k o b kp ga gl ++ ow cB o oz cs cd ++ sw cB cI b sz st us mem pl ln ++ sw cB cI d sz9 st9 us9 mem9 pl9 ln9) [0, 5, 6, 1, 2, 3, 4, 7, 8, 9, 10] rfl
  have hD := hD.sub (ws' := gw h kq (some (d 0)) k o b kp ga gl ++ ow cB o oz cs cd ++ sw cB cI b sz st us mem pl ln ++ sw cB cI d sz9 st9 us9 mem9 pl9 ln9) [0, 5, 6, 1, 2, 3, 4, 7, 8, 9, 10] (by decide) rfl
  have hP : va_P (dC, dI) vwCl (gw h kq (some (d 0)) k o b kp ga gl ++ ow cB o oz cs cd ++ sw cB cI b sz st us mem pl ln ++ sw cB cI d sz9 st9 us9 mem9 pl9 ln9) H := hP
  have hD : va_D A (gw h kq (some (d 0)) k o b kp ga gl ++ ow cB o oz cs cd ++ sw cB cI b sz st us mem pl ln ++ sw cB cI d sz9 st9 us9 mem9 pl9 ln9) := hD
  obtain ⟨hw1, hwb⟩ := hw
  rw [g1] at hw1
  obtain ⟨rfl, hwl⟩ := hw1
  refine lv_istore_n (lv' := [(2, .int (nI w)), (1, .ref (d 0)), (0, .ref h)]) hx hb dX3_read_13 rfl hl (by decide) rfl (fun ls hl => ?_)
  refine lv_iload_n hx hb dX3_read_14 rfl (lv_at hl 0 rfl) ?_
  refine lv_iconst (v := ((-1))) hx hb dX3_read_15 (by decide) ?_
  refine lv_icmp_eq (tgt := 24) hx hb dX3_read_16 (by decide) (fun c_16 => ?_) (fun c_16 => ?_)
  · skip
    exact absurd c_16 (nI_m1 (by omega))
  · refine lv_bipush (v := ((-100))) hx hb dX3_read_19 (by decide) ?_
    refine lv_iload_n hx hb dX3_read_21 rfl (lv_at hl 0 rfl) ?_
    refine lv_isub hx hb dX3_read_22 ?_
    refine W.widen (k := 4) (n := 8326) (Nat.le_of_ble_eq_true rfl) (Nat.le_of_ble_eq_true rfl) ?_
    exact W.iret (v := (((-100)) - (nI w))) hx hb hr (fun t ht hW => ⟨⟨(((-100)) - (nI w)), (d, sz9, st9, us9, mem9, pl9, ln9), rfl, ⟨⟨rfl, hwl⟩, hwb⟩, by rw [ht]; exact hP, va_K.moved hW.alike hK, hD⟩, hS.F ht⟩) hS.2.2 dX3_read_23
set_option maxHeartbeats 4000000 in
set_option maxRecDepth 100000 in
theorem c_X3_readRN (l : Launch) (dC : Nat → ClassId) (dI : Nat → Nat → Nat) (cB cI cS : ClassId) (h kq : Nat) (k o b : Nat → Nat) (kp : Nat) (ga : Nat) (gl : Nat) (oz : Nat) (cs : Nat) (cd : Nat → Nat) (sz : Nat) (st : Nat) (us : Nat) (mem : Nat → Nat) (pl : Nat → Nat) (ln : Nat → Nat) (zz : Nat) (g : Nat → Nat) (gz : cs ≤ oz) (g0 : oz ≤ 20000) (bcd : ∀ j, cd j < 256) (g3 : sz ≤ 8192) (g6 : ga ≤ 8192) (g7 : gl ≤ 8192) (g1 : rdKS cs cd (outW (zr zf 0 8192) fst 0 64) = .inr g) : Met l yX3_read wsX3_read ({ frames := 4, cells := 4, slots := 8326, locals := 90 }) (va_Pc [.ref h] (fun U => U.heap.size = zz ∧ va_P (dC, dI) vwCl (gw h kq none k o b kp ga gl ++ ow cB o oz cs cd ++ sw cB cI b sz st us mem pl ln) U.heap ∧ va_K (dC, dI) vwCl [(cI, .int), (cB, .byte)] U ∧ va_D (fun _ => True) (gw h kq none k o b kp ga gl ++ ow cB o oz cs cd ++ sw cB cI b sz st us mem pl ln) ∧ va_Nw (.methodLinkNest RX3 29 yX2_init "GlulxHeap") U ∧ va_Nw (.methodLinkNest RX0 79 yX3_isSize "GlulxHeap") U)) (va_Qi (fun (r : Int32) (u : (Nat → Nat) × (Nat → Nat) × (Nat → Nat)) => match u with | ⟨d, pl9, ln9⟩ => r = nI (tw cd 0) ∧ (∀ j, j < tw cd 4 → pl9 j = tw cd (6 + 4 * j) ∧ ln9 j = tw cd (6 + 4 * j + 2)) ∧ (∀ j, g j < 256 ∧ pl9 j < 2 ^ 31 ∧ ln9 j < 2 ^ 31)) (fun (u : (Nat → Nat) × (Nat → Nat) × (Nat → Nat)) t => match u with | ⟨d, pl9, ln9⟩ => va_P (dC, dI) vwCl (gw h kq (some (b 0)) k o d kp ga gl ++ ow cB o oz cs cd ++ sw cB cI b sz st us mem pl ln ++ sw cB cI d (tw cd 0) (tw cd 2) (tw cd 4) (cbM mem g ga gl (bth2 sz (tw cd 0))) pl9 ln9) t.heap ∧ va_K (dC, dI) vwCl [(cI, .int), (cB, .byte)] t ∧ va_D (va_A (gw h kq none k o b kp ga gl ++ ow cB o oz cs cd ++ sw cB cI b sz st us mem pl ln) zz) (gw h kq (some (b 0)) k o d kp ga gl ++ ow cB o oz cs cd ++ sw cB cI b sz st us mem pl ln ++ sw cB cI d (tw cd 0) (tw cd 2) (tw cd 4) (cbM mem g ga gl (bth2 sz (tw cd 0))) pl9 ln9)) (va_A (gw h kq none k o b kp ga gl ++ ow cB o oz cs cd ++ sw cB cI b sz st us mem pl ln) zz)) 4 8326 (va_A (gw h kq none k o b kp ga gl ++ ow cB o oz cs cd ++ sw cB cI b sz st us mem pl ln) zz) := by
  refine Met.ofW (cc := cX3_read) (maxL := 3) (ret := (some .int)) (by decide) rfl ?_
  intro p e s m args below meth c s₁ B hml hv
  obtain ⟨rfl, hsz, hP, hK, hD0, hN0, hN1⟩ := hv
  have hx := B.exec
  have hb := B.bytes
  have hr := B.returns
  have hts := atoms_spec (ws := wsX3_read) B.pre
  have hown : s.vm.findClass RX3 = some m.cls := findClass_of_methodNamed B.named
  have hlocks := B.notSynchronized
  subst hsz
  have hD := hD0.self (sz := s.heap.size)
  generalize hAe : va_A (gw h kq none k o b kp ga gl ++ ow cB o oz cs cd ++ sw cB cI b sz st us mem pl ln) s.heap.size = A at hD ⊢
  have hA : ∀ q : Nat, s.heap.size ≤ q → A q := fun q h => by rw [← hAe]; exact Or.inr h
  have hS : va_S A s.heap s.heap [] := va_S.rf
  have hP : va_P (dC, dI) vwCl (gw h kq none k o b kp ga gl ++ ow cB o oz cs cd ++ sw cB cI b sz st us mem pl ln) s.heap := hP
  have in_X2 : ∀ w ∈ wsX20, w ∈ wsX3_read := fun _ h => List.mem_cons_of_mem _ (List.mem_append_left _ (List.mem_append_right _ (h)))
  have in_X3 : ∀ w ∈ wsX30, w ∈ wsX3_read := fun _ h => List.mem_cons_of_mem _ (List.mem_append_left _ (List.mem_append_left _ (List.mem_append_right _ (h))))
  have lk_1 := hts (.fieldLink RX3 25 "GlulxHeap" "script" "LGlulxHeap$Code;") (List.mem_of_getElem? (i := 1) rfl)
  have lk_2 := hts (.fieldLink RX3 30 "GlulxHeap" "now" "LGlulxHeap$State;") (List.mem_of_getElem? (i := 2) rfl)
  have lk_3 := hts (.fieldLink RX3 177 "GlulxHeap" "spare" "LGlulxHeap$State;") (List.mem_of_getElem? (i := 3) rfl)
  have lk_4 := hts (.fieldLink RX3 84 "GlulxHeap$State" "size" "I") (List.mem_of_getElem? (i := 4) rfl)
  have hl := lv_entry ([.ref h]) (n := 3) (Nat.le_of_ble_eq_true rfl)
  rw [lg_entry_eq]
  generalize (lg_sl ([.ref h]) ++ List.replicate (3 - (lg_sl ([.ref h])).length) Slot.unset).toArray = ls at hl ⊢
  have hl : lv_has ls 3 [(0, .ref h)] := hl
  refine lv_aload_n hx hb dX3_read_0 rfl (lv_at hl 0 rfl) ?_
  have hPc := hP.sub (ws' := gw h kq none k o b kp ga gl) [0] rfl
  have hKc := hK.sub (tys' := [(cI, .int), (cB, .byte)]) [0, 1] rfl
  have hDc := hD.sub (ws' := gw h kq none k o b kp ga gl) [0] (by decide) rfl
  have hFc := va_free (wc := gw h kq none k o b kp ga gl) hD hS hA [0] rfl
  refine va_callq (va_runV (As := []) (rest := []) ⟨hx, hb, hml, hown, hts⟩ (c_X3_spareState0 l dC dI cB cI cS h kq k o b kp ga gl s.heap.size ) (cwV 0 hts gX3_read_X3_spareState rfl rfl rfl (by decide +kernel) ⟨Nat.le_of_ble_eq_true rfl, Nat.le_of_ble_eq_true rfl⟩) ⟨fun a9 U g9 mk9 q9 => by obtain ⟨q0, q1, qP, qK, qD, qN0⟩ := q9; exact ⟨q0, q1, qP, va_K.moved (u := U) (U := U.calling g9 mk9 a9) (Vm.Alike.refl U.vm) qK, qD, va_Nw.same rfl rfl qN0⟩, va_recv hKc hPc (ci := 3) (q0 := 0) rfl rfl, fun U hU hW => ⟨rfl, by rw [hU], by rw [hU]; exact hPc, va_K.moved hW.alike hKc, hDc.weaken (fun _ _ _ _ => trivial), va_Nw.warmM hW hN0⟩⟩ rfl rfl hl.1 rfl (lv_room (Nat.le_of_ble_eq_true rfl)) dX3_read_1 ⟨Nat.le_of_ble_eq_true rfl, Nat.le_of_ble_eq_true rfl⟩) hS (fun q _ h => hFc q h) hFc (fun r_1 u t H1 locs ht9 hvm9 hw hB hz9 hk9 hS => ?_)
  obtain ⟨d, rfl⟩ : ∃ z9, z9 = u := ⟨_, rfl⟩
  try dsimp only at hw
  obtain ⟨hP1, hK1, hD1⟩ := hB
  rw [ht9] at hP1
  obtain ⟨hP, hD⟩ := va_join (wr := ow cB o oz cs cd ++ sw cB cI b sz st us mem pl ln) (w1 := gw h kq (some (d 0)) k o b kp ga gl ++ sw cB cI d 0 0 0 zf zf zf) hP hD [0] [1, 2, 3, 4, 5, 6] rfl rfl (by decide) (by decide) hk9 hFc hP1 hD1
  generalize H1 = H at hP hS ⊢
  have hP := hP.sub (ws' := gw h kq (some (d 0)) k o b kp ga gl ++ ow cB o oz cs cd ++ sw cB cI b sz st us mem pl ln ++ sw cB cI d 0 0 0 zf zf zf) [6, 0, 1, 2, 3, 4, 5, 7, 8, 9, 10] rfl
  have hD := hD.sub (ws' := gw h kq (some (d 0)) k o b kp ga gl ++ ow cB o oz cs cd ++ sw cB cI b sz st us mem pl ln ++ sw cB cI d 0 0 0 zf zf zf) [6, 0, 1, 2, 3, 4, 5, 7, 8, 9, 10] (by decide) rfl
  have hP : va_P (dC, dI) vwCl (gw h kq (some (d 0)) k o b kp ga gl ++ ow cB o oz cs cd ++ sw cB cI b sz st us mem pl ln ++ sw cB cI d 0 0 0 zf zf zf) H := hP
  have hD : va_D A (gw h kq (some (d 0)) k o b kp ga gl ++ ow cB o oz cs cd ++ sw cB cI b sz st us mem pl ln ++ sw cB cI d 0 0 0 zf zf zf) := hD
  subst hw
  refine tpv (show va_rf (some (d 0)) = Value.ref (d 0) from rfl) ?_
  refine lv_astore_n (lv' := [(1, .ref (d 0)), (0, .ref h)]) hx hb dX3_read_4 rfl hl (by decide) rfl (fun ls hl => ?_)
  refine lv_aload_n hx hb dX3_read_5 rfl (lv_at hl 1 rfl) ?_
  refine va_get (D := (dC, dI)) (ci := 3) (v := .ref (o 0)) (C := RX3) (T := TX3) (N := 8) hx hb hts in_X3 hown hK hP 0 rfl rfl 2 (by decide) lk_1 (fun _ h9 => h9) rfl dX3_read_6 ?_
  refine lv_aload_n hx hb dX3_read_9 rfl (lv_at hl 0 rfl) ?_
  have hPc := hP.sub (ws' := ow cB o oz cs cd ++ sw cB cI d 0 0 0 zf zf zf) [1, 2, 7, 8, 9, 10] rfl
  have hKc := hK.sub (tys' := [(cI, .int), (cB, .byte)]) [0, 1] rfl
  have hDc := hD.sub (ws' := ow cB o oz cs cd ++ sw cB cI d 0 0 0 zf zf zf) [1, 2, 7, 8, 9, 10] (by decide) rfl
  have hFc := va_free (wc := ow cB o oz cs cd ++ sw cB cI d 0 0 0 zf zf zf) hD hS hA [1, 2, 7, 8, 9, 10] rfl
  refine va_calli (va_runV (As := [.ref (d 0)]) (rest := []) ⟨hx, hb, hml, hown, hts⟩ (c_X0_unfold l dC dI cB cI o d oz cs cd 0 0 0 zf zf zf H.size gz g0 bcd (fun _ => by show (0 : Nat) < 256; decide) (fun _ => by show (0 : Nat) < 2 ^ 31; decide) (fun _ => by show (0 : Nat) < 2 ^ 31; decide)) (cwV 1 hts gX3_read_X0_unfold rfl rfl rfl (by decide +kernel) ⟨Nat.le_of_ble_eq_true rfl, Nat.le_of_ble_eq_true rfl⟩) ⟨fun a9 U g9 mk9 q9 => by obtain ⟨q0, q1, qP, qK, qD, qN0⟩ := q9; exact ⟨q0, q1, qP, va_K.moved (u := U) (U := U.calling g9 mk9 a9) (Vm.Alike.refl U.vm) qK, qD, va_Nw.same rfl rfl qN0⟩, va_recv hKc hPc (ci := 0) (q0 := 0) rfl rfl, fun U hU hW => ⟨rfl, by rw [hU], by rw [hU]; exact hPc, va_K.moved hW.alike hKc, hDc.weaken (fun _ _ _ _ => trivial), va_Nw.warmM hW hN1⟩⟩ rfl rfl hl.1 rfl (lv_room (Nat.le_of_ble_eq_true rfl)) dX3_read_10 ⟨Nat.le_of_ble_eq_true rfl, Nat.le_of_ble_eq_true rfl⟩) hS (fun q _ h => hFc q h) hFc (fun r_10 u t H1 locs ht9 hvm9 hw hB hz9 hk9 hS => ?_)
  obtain ⟨sz9, st9, us9, mem9, pl9, ln9⟩ := u
  try dsimp only at hw
  obtain ⟨hP1, hK1, hD1⟩ := hB
  rw [ht9] at hP1
  obtain ⟨hP, hD⟩ := va_join (wr := gw h kq (some (d 0)) k o b kp ga gl ++ sw cB cI b sz st us mem pl ln) (w1 := ow cB o oz cs cd ++ sw cB cI d sz9 st9 us9 mem9 pl9 ln9) hP hD [1, 2, 7, 8, 9, 10] [0, 3, 4, 5, 6] rfl rfl (by decide) (by decide) hk9 hFc hP1 hD1
  generalize H1 = H at hP hS ⊢
  have hP := hP.sub (ws' := gw h kq (some (d 0)) k o b kp ga gl ++ ow cB o oz cs cd ++ sw cB cI b sz st us mem pl ln ++ sw cB cI d sz9 st9 us9 mem9 pl9 ln9) [0, 5, 6, 1, 2, 3, 4, 7, 8, 9, 10] rfl
  have hD := hD.sub (ws' := gw h kq (some (d 0)) k o b kp ga gl ++ ow cB o oz cs cd ++ sw cB cI b sz st us mem pl ln ++ sw cB cI d sz9 st9 us9 mem9 pl9 ln9) [0, 5, 6, 1, 2, 3, 4, 7, 8, 9, 10] (by decide) rfl
  have hP : va_P (dC, dI) vwCl (gw h kq (some (d 0)) k o b kp ga gl ++ ow cB o oz cs cd ++ sw cB cI b sz st us mem pl ln ++ sw cB cI d sz9 st9 us9 mem9 pl9 ln9) H := hP
  have hD : va_D A (gw h kq (some (d 0)) k o b kp ga gl ++ ow cB o oz cs cd ++ sw cB cI b sz st us mem pl ln ++ sw cB cI d sz9 st9 us9 mem9 pl9 ln9) := hD
  obtain ⟨hw1, hwb⟩ := hw
  rw [g1] at hw1
  obtain ⟨rfl, rfl, rfl, rfl, hmg, hw4⟩ := hw1
  obtain rfl : g = mem9 := hmg.symm
  obtain ⟨⟨hz1, hz2, -⟩, -, -⟩ := hdH_ok (rdKS_r g1)
  have hP : va_P (dC, dI) vwCl (gw h kq (some (d 0)) k o b kp ga gl ++ ow cB o oz cs cd ++ sw cB cI b sz st us mem pl ln ++ sw cB cI d (tw cd 0) (tw cd 2) (tw cd 4) g pl9 ln9) H := hP
  have hD : va_D A (gw h kq (some (d 0)) k o b kp ga gl ++ ow cB o oz cs cd ++ sw cB cI b sz st us mem pl ln ++ sw cB cI d (tw cd 0) (tw cd 2) (tw cd 4) g pl9 ln9) := hD
  refine lv_istore_n (lv' := [(2, .int ((-1))), (1, .ref (d 0)), (0, .ref h)]) hx hb dX3_read_13 rfl hl (by decide) rfl (fun ls hl => ?_)
  refine lv_iload_n hx hb dX3_read_14 rfl (lv_at hl 0 rfl) ?_
  refine lv_iconst (v := ((-1))) hx hb dX3_read_15 (by decide) ?_
  refine lv_icmp_eq (tgt := 24) hx hb dX3_read_16 (by decide) (fun c_16 => ?_) (fun c_16 => ?_)
  · refine lv_aload_n hx hb dX3_read_24 rfl (lv_at hl 2 rfl) ?_
    refine lv_aload_n hx hb dX3_read_25 rfl (lv_at hl 2 rfl) ?_
    refine va_get (D := (dC, dI)) (ci := 3) (v := .ref (b 0)) (C := RX3) (T := TX3) (N := 8) hx hb hts in_X3 hown hK hP 0 rfl rfl 3 (by decide) lk_2 (fun _ h9 => h9) rfl dX3_read_26 ?_
    refine va_put (D := (dC, dI)) (ci := 3) (v := .ref (b 0)) (ty := .object "GlulxHeap$State") (C := RX3) (T := TX3) (N := 8) hx hb hts in_X3 tyX3 tyX3_ok nmX3 hown hK hP hD hS 0 rfl rfl 4 (by decide) lk_3 (fun _ h9 => h9) rfl (by decide +kernel) rfl rfl (Nat.le_of_ble_eq_true rfl) dX3_read_29 (fun H locs hP hD hS => ?_)
    have hP : va_P (dC, dI) vwCl (gw h kq (some (b 0)) k o b kp ga gl ++ ow cB o oz cs cd ++ sw cB cI b sz st us mem pl ln ++ sw cB cI d (tw cd 0) (tw cd 2) (tw cd 4) g pl9 ln9) H := hP
    have hD : va_D A (gw h kq (some (b 0)) k o b kp ga gl ++ ow cB o oz cs cd ++ sw cB cI b sz st us mem pl ln ++ sw cB cI d (tw cd 0) (tw cd 2) (tw cd 4) g pl9 ln9) := hD
    refine lv_aload_n hx hb dX3_read_32 rfl (lv_at hl 2 rfl) ?_
    refine lv_aload_n hx hb dX3_read_33 rfl (lv_at hl 1 rfl) ?_
    have hPc := hP.sub (ws' := gw h kq (some (b 0)) k o b kp ga gl ++ sw cB cI b sz st us mem pl ln ++ sw cB cI d (tw cd 0) (tw cd 2) (tw cd 4) g pl9 ln9) [0, 3, 4, 5, 6, 7, 8, 9, 10] rfl
    have hKc := hK.sub (tys' := [(cI, .int), (cB, .byte)]) [0, 1] rfl
    have hDc := hD.sub (ws' := gw h kq (some (b 0)) k o b kp ga gl ++ sw cB cI b sz st us mem pl ln ++ sw cB cI d (tw cd 0) (tw cd 2) (tw cd 4) g pl9 ln9) [0, 3, 4, 5, 6, 7, 8, 9, 10] (by decide) rfl
    have hFc := va_free (wc := gw h kq (some (b 0)) k o b kp ga gl ++ sw cB cI b sz st us mem pl ln ++ sw cB cI d (tw cd 0) (tw cd 2) (tw cd 4) g pl9 ln9) hD hS hA [0, 3, 4, 5, 6, 7, 8, 9, 10] rfl
    refine va_callv (va_runV (As := [.ref (d 0)]) (rest := []) ⟨hx, hb, hml, hown, hts⟩ (c_X3_comeBack l dC dI cB cI h kq (some (b 0)) k o b d kp ga gl sz st us mem pl ln (tw cd 0) (tw cd 2) (tw cd 4) g pl9 ln9 H.size (by omega) (by omega) (by omega) (by omega)) (cwV 1 hts gX3_read_X3_comeBack rfl rfl rfl (by decide +kernel) ⟨Nat.le_of_ble_eq_true rfl, Nat.le_of_ble_eq_true rfl⟩) ⟨fun a9 U g9 mk9 q9 => by obtain ⟨q0, q1, qP, qK, qD⟩ := q9; exact ⟨q0, q1, qP, va_K.moved (u := U) (U := U.calling g9 mk9 a9) (Vm.Alike.refl U.vm) qK, qD⟩, va_recv hKc hPc (ci := 3) (q0 := 0) rfl rfl, fun U hU hW => ⟨rfl, by rw [hU], by rw [hU]; exact hPc, va_K.moved hW.alike hKc, hDc.weaken (fun _ _ _ _ => trivial)⟩⟩ rfl rfl hl.1 rfl (lv_room (Nat.le_of_ble_eq_true rfl)) dX3_read_34 ⟨Nat.le_of_ble_eq_true rfl, Nat.le_of_ble_eq_true rfl⟩) hS (fun q _ h => hFc q h) hFc (fun u t H1 locs ht9 hvm9 hw hB hz9 hk9 hS => ?_)
    obtain ⟨hP1, hK1, hD1⟩ := hB
    rw [ht9] at hP1
    obtain ⟨hP, hD⟩ := va_join (wr := ow cB o oz cs cd) (w1 := gw h kq (some (b 0)) k o d kp ga gl ++ sw cB cI b sz st us mem pl ln ++ sw cB cI d (tw cd 0) (tw cd 2) (tw cd 4) (cbM mem g ga gl (bth2 sz (tw cd 0))) pl9 ln9) hP hD [0, 3, 4, 5, 6, 7, 8, 9, 10] [1, 2] rfl rfl (by decide) (by decide) hk9 hFc hP1 hD1
    generalize H1 = H at hP hS ⊢
    have hP := hP.sub (ws' := gw h kq (some (b 0)) k o d kp ga gl ++ ow cB o oz cs cd ++ sw cB cI b sz st us mem pl ln ++ sw cB cI d (tw cd 0) (tw cd 2) (tw cd 4) (cbM mem g ga gl (bth2 sz (tw cd 0))) pl9 ln9) [2, 0, 1, 3, 4, 5, 6, 7, 8, 9, 10] rfl
    have hD := hD.sub (ws' := gw h kq (some (b 0)) k o d kp ga gl ++ ow cB o oz cs cd ++ sw cB cI b sz st us mem pl ln ++ sw cB cI d (tw cd 0) (tw cd 2) (tw cd 4) (cbM mem g ga gl (bth2 sz (tw cd 0))) pl9 ln9) [2, 0, 1, 3, 4, 5, 6, 7, 8, 9, 10] (by decide) rfl
    have hP : va_P (dC, dI) vwCl (gw h kq (some (b 0)) k o d kp ga gl ++ ow cB o oz cs cd ++ sw cB cI b sz st us mem pl ln ++ sw cB cI d (tw cd 0) (tw cd 2) (tw cd 4) (cbM mem g ga gl (bth2 sz (tw cd 0))) pl9 ln9) H := hP
    have hD : va_D A (gw h kq (some (b 0)) k o d kp ga gl ++ ow cB o oz cs cd ++ sw cB cI b sz st us mem pl ln ++ sw cB cI d (tw cd 0) (tw cd 2) (tw cd 4) (cbM mem g ga gl (bth2 sz (tw cd 0))) pl9 ln9) := hD
    refine lv_aload_n hx hb dX3_read_37 rfl (lv_at hl 2 rfl) ?_
    refine va_get (D := (dC, dI)) (ci := 3) (v := .ref (d 0)) (C := RX3) (T := TX3) (N := 8) hx hb hts in_X3 hown hK hP 0 rfl rfl 3 (by decide) lk_2 (fun _ h9 => h9) rfl dX3_read_38 ?_
    refine va_get (D := (dC, dI)) (ci := 2) (v := .int (nI (tw cd 0))) (C := RX2) (T := TX2) (N := 6) hx hb hts in_X2 hown hK hP 7 rfl rfl 3 (by decide) lk_4 (fun _ h9 => h9) rfl dX3_read_41 ?_
    refine W.widen (k := 4) (n := 8326) (Nat.le_of_ble_eq_true rfl) (Nat.le_of_ble_eq_true rfl) ?_
    exact W.iret (v := (nI (tw cd 0))) hx hb hr (fun t ht hW => ⟨⟨(nI (tw cd 0)), (d, pl9, ln9), rfl, ⟨rfl, hw4, hwb⟩, by rw [ht]; exact hP, va_K.moved hW.alike hK, hD⟩, hS.F ht⟩) hS.2.2 dX3_read_44
  · exact absurd c_16 (by decide)
