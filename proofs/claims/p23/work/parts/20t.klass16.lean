/-- what comes back: the protected stretch stays as it is now -/
def cbM (mem mem2 : Nat → Nat) (ga gl both : Nat) : Nat → Nat := fun j => if stay ga gl both j then mem j else mem2 j
theorem cbM_cpy {mem mem2 : Nat → Nat} {ga gl both en : Nat} (he : en = (if both < ga + gl then both else ga + gl)) : va_cpy mem mem2 ga ga (en - ga) = cbM mem mem2 ga gl both := by
  funext j; unfold va_cpy cbM
  by_cases h : ga ≤ j ∧ j < ga + (en - ga)
  · rw [if_pos h, if_pos (by rw [he] at h; split at h <;> exact ⟨by omega, by omega, by omega⟩), show ga + (j - ga) = j by omega]
  · rw [if_neg h, if_neg (fun q => h (by rw [he]; split <;> omega))]
theorem cbM_no {mem mem2 : Nat → Nat} {ga gl both en : Nat} (he : en = (if both < ga + gl then both else ga + gl)) (h : en ≤ ga) : mem2 = cbM mem mem2 ga gl both := by
  funext j; unfold cbM
  rw [if_neg (fun q => by rw [he] at h; split at h <;> omega)]
/-- the lesser of two SIZEs, as Math.min tells it -/
def bth2 (sz sz2 : Nat) : Nat := if sz2 < sz then sz2 else sz
theorem bth_2 (sz sz2 : Nat) : bth sz sz2 = bth2 sz sz2 := by unfold bth bth2; split <;> split <;> omega
set_option maxHeartbeats 4000000 in
set_option maxRecDepth 100000 in
theorem c_X3_comeBack (l : Launch) (dC : Nat → ClassId) (dI : Nat → Nat → Nat) (cB cI : ClassId) (h kq : Nat) (sp : Option Nat) (k o b d : Nat → Nat) (kp : Nat) (ga : Nat) (gl : Nat) (sz : Nat) (st : Nat) (us : Nat) (mem : Nat → Nat) (pl : Nat → Nat) (ln : Nat → Nat) (sz2 : Nat) (st2 : Nat) (us2 : Nat) (mem2 : Nat → Nat) (pl2 : Nat → Nat) (ln2 : Nat → Nat) (zz : Nat)  (g3 : sz ≤ 8192) (h3 : sz2 ≤ 8192) (g6 : ga ≤ 8192) (g7 : gl ≤ 8192) : Met l yX3_comeBack wsX3_comeBack ({ frames := 1, cells := 0, slots := 0, locals := 40 }) (va_Pc [.ref h, .ref (d 0)] (fun U => U.heap.size = zz ∧ va_P (dC, dI) vwCl (gw h kq sp k o b kp ga gl ++ sw cB cI b sz st us mem pl ln ++ sw cB cI d sz2 st2 us2 mem2 pl2 ln2) U.heap ∧ va_K (dC, dI) vwCl [(cI, .int), (cB, .byte)] U ∧ va_D (fun _ => True) (gw h kq sp k o b kp ga gl ++ sw cB cI b sz st us mem pl ln ++ sw cB cI d sz2 st2 us2 mem2 pl2 ln2))) (va_Qv (fun _ => True) (fun (_ : Unit) t => va_P (dC, dI) vwCl (gw h kq sp k o d kp ga gl ++ sw cB cI b sz st us mem pl ln ++ sw cB cI d sz2 st2 us2 (cbM mem mem2 ga gl (bth2 sz sz2)) pl2 ln2) t.heap ∧ va_K (dC, dI) vwCl [(cI, .int), (cB, .byte)] t ∧ va_D (va_A (gw h kq sp k o b kp ga gl ++ sw cB cI b sz st us mem pl ln ++ sw cB cI d sz2 st2 us2 mem2 pl2 ln2) zz) (gw h kq sp k o d kp ga gl ++ sw cB cI b sz st us mem pl ln ++ sw cB cI d sz2 st2 us2 (cbM mem mem2 ga gl (bth2 sz sz2)) pl2 ln2)) (va_A (gw h kq sp k o b kp ga gl ++ sw cB cI b sz st us mem pl ln ++ sw cB cI d sz2 st2 us2 mem2 pl2 ln2) zz)) 0 0 (va_A (gw h kq sp k o b kp ga gl ++ sw cB cI b sz st us mem pl ln ++ sw cB cI d sz2 st2 us2 mem2 pl2 ln2) zz) := by
  refine Met.ofW (cc := cX3_comeBack) (maxL := 3) (ret := none) (by decide) rfl ?_
  intro p e s m args below meth c s₁ B hml hv
  obtain ⟨rfl, hsz, hP, hK, hD0⟩ := hv
  have hx := B.exec
  have hb := B.bytes
  have hr := B.returns
  have hts := atoms_spec (ws := wsX3_comeBack) B.pre
  have hown : s.vm.findClass RX3 = some m.cls := findClass_of_methodNamed B.named
  have hlocks := B.notSynchronized
  subst hsz
  have hD := hD0.self (sz := s.heap.size)
  generalize hAe : va_A (gw h kq sp k o b kp ga gl ++ sw cB cI b sz st us mem pl ln ++ sw cB cI d sz2 st2 us2 mem2 pl2 ln2) s.heap.size = A at hD ⊢
  have hA : ∀ q : Nat, s.heap.size ≤ q → A q := fun q h => by rw [← hAe]; exact Or.inr h
  have hS : va_S A s.heap s.heap [] := va_S.rf
  have hP : va_P (dC, dI) vwCl (gw h kq sp k o b kp ga gl ++ sw cB cI b sz st us mem pl ln ++ sw cB cI d sz2 st2 us2 mem2 pl2 ln2) s.heap := hP
  have in_X2 : ∀ w ∈ wsX20, w ∈ wsX3_comeBack := fun _ h => List.mem_cons_of_mem _ (List.mem_append_right _ (h))
  have in_X3 : ∀ w ∈ wsX30, w ∈ wsX3_comeBack := fun _ h => List.mem_cons_of_mem _ (List.mem_append_left _ (List.mem_append_right _ (h)))
  have lk_1 := hts (.fieldLink RX3 154 "GlulxHeap" "protectedAt" "I") (List.mem_of_getElem? (i := 1) rfl)
  have lk_2 := hts (.fieldLink RX3 157 "GlulxHeap" "protectedLength" "I") (List.mem_of_getElem? (i := 2) rfl)
  have lk_3 := hts (.fieldLink RX3 30 "GlulxHeap" "now" "LGlulxHeap$State;") (List.mem_of_getElem? (i := 3) rfl)
  have lk_4 := hts (.fieldLink RX3 84 "GlulxHeap$State" "size" "I") (List.mem_of_getElem? (i := 4) rfl)
  have lk_5 := hts (.methodLink RX3 125 Lib.Math.min.name) (List.mem_of_getElem? (i := 5) rfl)
  have lk_6 := hts (.static Lib.Math.min.name) (List.mem_of_getElem? (i := 6) rfl)
  have lk_7 := hts (.initialized "java/lang/Math") (List.mem_of_getElem? (i := 7) rfl)
  have lk_8 := hts (.code Lib.Math.min.name Lib.Math.min.code 2 (some .int)) (List.mem_of_getElem? (i := 8) rfl)
  have lk_9 := hts (.fieldLink RX3 61 "GlulxHeap$State" "bytes" "[B") (List.mem_of_getElem? (i := 9) rfl)
  have lk_10 := hts (.methodLink RX3 71 arraycopyName) (List.mem_of_getElem? (i := 10) rfl)
  have lk_11 := hts (.native arraycopyName) (List.mem_of_getElem? (i := 11) rfl)
  have lk_12 := hts (.static arraycopyName) (List.mem_of_getElem? (i := 12) rfl)
  have lk_13 := hts (.initialized "java/lang/System") (List.mem_of_getElem? (i := 13) rfl)
  have hl := lv_entry ([.ref h, .ref (d 0)]) (n := 3) (Nat.le_of_ble_eq_true rfl)
  rw [lg_entry_eq]
  generalize (lg_sl ([.ref h, .ref (d 0)]) ++ List.replicate (3 - (lg_sl ([.ref h, .ref (d 0)])).length) Slot.unset).toArray = ls at hl ⊢
  have hl : lv_has ls 3 [(0, .ref h), (1, .ref (d 0))] := hl
  refine lv_aload_n hx hb dX3_comeBack_0 rfl (lv_at hl 0 rfl) ?_
  refine va_get (D := (dC, dI)) (ci := 3) (v := .int (nI ga)) (C := RX3) (T := TX3) (N := 8) hx hb hts in_X3 hown hK hP 0 rfl rfl 6 (by decide) lk_1 (fun _ h9 => h9) rfl dX3_comeBack_1 ?_
  refine lv_aload_n hx hb dX3_comeBack_4 rfl (lv_at hl 0 rfl) ?_
  refine va_get (D := (dC, dI)) (ci := 3) (v := .int (nI gl)) (C := RX3) (T := TX3) (N := 8) hx hb hts in_X3 hown hK hP 0 rfl rfl 7 (by decide) lk_2 (fun _ h9 => h9) rfl dX3_comeBack_5 ?_
  refine lv_iadd hx hb dX3_comeBack_8 ?_
  refine tpi (nI_add _ _) ?_
  refine lv_aload_n hx hb dX3_comeBack_9 rfl (lv_at hl 0 rfl) ?_
  refine va_get (D := (dC, dI)) (ci := 3) (v := .ref (b 0)) (C := RX3) (T := TX3) (N := 8) hx hb hts in_X3 hown hK hP 0 rfl rfl 3 (by decide) lk_3 (fun _ h9 => h9) rfl dX3_comeBack_10 ?_
  refine va_get (D := (dC, dI)) (ci := 2) (v := .int (nI sz)) (C := RX2) (T := TX2) (N := 6) hx hb hts in_X2 hown hK hP 1 rfl rfl 3 (by decide) lk_4 (fun _ h9 => h9) rfl dX3_comeBack_13 ?_
  refine lv_aload_n hx hb dX3_comeBack_16 rfl (lv_at hl 1 rfl) ?_
  refine va_get (D := (dC, dI)) (ci := 2) (v := .int (nI sz2)) (C := RX2) (T := TX2) (N := 6) hx hb hts in_X2 hown hK hP 5 rfl rfl 3 (by decide) lk_4 (fun _ h9 => h9) rfl dX3_comeBack_17 ?_
  refine va_mmin hx hb (by rw [hml]; exact hl.1.symm) hown lk_5 lk_6 lk_7 lk_8 (Nat.le_of_ble_eq_true rfl) (Nat.le_of_ble_eq_true rfl) (Nat.zero_le _) (Nat.zero_le _) dX3_comeBack_20 ?_
  refine tpi (mmin (x := sz) (y := sz2) (by omega) (by omega)) ?_
  have hm9 : (if sz2 < sz then sz2 else sz) ≤ 8192 := by split <;> omega
  refine va_mmin hx hb (by rw [hml]; exact hl.1.symm) hown lk_5 lk_6 lk_7 lk_8 (Nat.le_of_ble_eq_true rfl) (Nat.le_of_ble_eq_true rfl) (Nat.zero_le _) (Nat.zero_le _) dX3_comeBack_23 ?_
  refine tpi (mmin (x := ga + gl) (y := if sz2 < sz then sz2 else sz) (by omega) (by omega)) ?_
  refine lv_istore_n (lv' := [(2, .int (nI (if (if sz2 < sz then sz2 else sz) < ga + gl then (if sz2 < sz then sz2 else sz) else ga + gl))), (0, .ref h), (1, .ref (d 0))]) hx hb dX3_comeBack_26 rfl hl (by decide) rfl (fun ls hl => ?_)
  obtain ⟨en, hen⟩ : ∃ q : Nat, q = if (if sz2 < sz then sz2 else sz) < ga + gl then (if sz2 < sz then sz2 else sz) else ga + gl := ⟨_, rfl⟩
  rw [← hen] at hl
  have hen2 : en = (if bth2 sz sz2 < ga + gl then bth2 sz sz2 else ga + gl) := hen
  have hb2 : bth2 sz sz2 ≤ sz ∧ bth2 sz sz2 ≤ sz2 := by unfold bth2; split <;> omega
  have hen3 : en ≤ sz ∧ en ≤ sz2 := by rw [hen2]; split <;> omega
  refine lv_aload_n hx hb dX3_comeBack_27 rfl (lv_at hl 1 rfl) ?_
  refine va_get (D := (dC, dI)) (ci := 3) (v := .int (nI ga)) (C := RX3) (T := TX3) (N := 8) hx hb hts in_X3 hown hK hP 0 rfl rfl 6 (by decide) lk_1 (fun _ h9 => h9) rfl dX3_comeBack_28 ?_
  refine lv_iload_n hx hb dX3_comeBack_31 rfl (lv_at hl 0 rfl) ?_
  refine lv_icmp_ge (tgt := 63) hx hb dX3_comeBack_32 (by decide) (fun c_32 => ?_) (fun c_32 => ?_)
  · have c_32 : en ≤ ga := (nI_leI (a := en) (b := ga) (by omega) (by omega)).mp c_32
    refine lv_aload_n hx hb dX3_comeBack_63 rfl (lv_at hl 1 rfl) ?_
    refine lv_aload_n hx hb dX3_comeBack_64 rfl (lv_at hl 2 rfl) ?_
    refine va_put (D := (dC, dI)) (ci := 3) (v := .ref (d 0)) (ty := .object "GlulxHeap$State") (C := RX3) (T := TX3) (N := 8) hx hb hts in_X3 tyX3 tyX3_ok nmX3 hown hK hP hD hS 0 rfl rfl 3 (by decide) lk_3 (fun _ h9 => h9) rfl (by decide +kernel) rfl rfl (Nat.le_of_ble_eq_true rfl) dX3_comeBack_65 (fun H locs hP hD hS => ?_)
    have hP : va_P (dC, dI) vwCl (gw h kq sp k o d kp ga gl ++ sw cB cI b sz st us mem pl ln ++ sw cB cI d sz2 st2 us2 mem2 pl2 ln2) H := hP
    have hD : va_D A (gw h kq sp k o d kp ga gl ++ sw cB cI b sz st us mem pl ln ++ sw cB cI d sz2 st2 us2 mem2 pl2 ln2) := hD
    have e_mem2 : mem2 = cbM mem mem2 ga gl (bth2 sz sz2) := cbM_no hen2 (by omega)
    have hP : va_P (dC, dI) vwCl (gw h kq sp k o d kp ga gl ++ sw cB cI b sz st us mem pl ln ++ sw cB cI d sz2 st2 us2 (cbM mem mem2 ga gl (bth2 sz sz2)) pl2 ln2) H := by rw [← e_mem2]; exact hP
    have hD : va_D A (gw h kq sp k o d kp ga gl ++ sw cB cI b sz st us mem pl ln ++ sw cB cI d sz2 st2 us2 (cbM mem mem2 ga gl (bth2 sz sz2)) pl2 ln2) := by rw [← e_mem2]; exact hD
    exact W.vret hx hb hr (fun t ht hW => ⟨⟨(), rfl, trivial, by rw [ht]; exact hP, va_K.moved hW.alike hK, hD⟩, hS.F ht⟩) hS.2.2 dX3_comeBack_68
  · have c_32 : ¬ en ≤ ga := fun q => c_32 ((nI_leI (a := en) (b := ga) (by omega) (by omega)).mpr q)
    refine lv_aload_n hx hb dX3_comeBack_35 rfl (lv_at hl 1 rfl) ?_
    refine va_get (D := (dC, dI)) (ci := 3) (v := .ref (b 0)) (C := RX3) (T := TX3) (N := 8) hx hb hts in_X3 hown hK hP 0 rfl rfl 3 (by decide) lk_3 (fun _ h9 => h9) rfl dX3_comeBack_36 ?_
    refine va_get (D := (dC, dI)) (ci := 2) (v := .ref (b 1)) (C := RX2) (T := TX2) (N := 6) hx hb hts in_X2 hown hK hP 1 rfl rfl 0 (by decide) lk_9 (fun _ h9 => h9) rfl dX3_comeBack_39 ?_
    refine lv_aload_n hx hb dX3_comeBack_42 rfl (lv_at hl 1 rfl) ?_
    refine va_get (D := (dC, dI)) (ci := 3) (v := .int (nI ga)) (C := RX3) (T := TX3) (N := 8) hx hb hts in_X3 hown hK hP 0 rfl rfl 6 (by decide) lk_1 (fun _ h9 => h9) rfl dX3_comeBack_43 ?_
    refine lv_aload_n hx hb dX3_comeBack_46 rfl (lv_at hl 2 rfl) ?_
    refine va_get (D := (dC, dI)) (ci := 2) (v := .ref (d 1)) (C := RX2) (T := TX2) (N := 6) hx hb hts in_X2 hown hK hP 5 rfl rfl 0 (by decide) lk_9 (fun _ h9 => h9) rfl dX3_comeBack_47 ?_
    refine lv_aload_n hx hb dX3_comeBack_50 rfl (lv_at hl 1 rfl) ?_
    refine va_get (D := (dC, dI)) (ci := 3) (v := .int (nI ga)) (C := RX3) (T := TX3) (N := 8) hx hb hts in_X3 hown hK hP 0 rfl rfl 6 (by decide) lk_1 (fun _ h9 => h9) rfl dX3_comeBack_51 ?_
    refine lv_iload_n hx hb dX3_comeBack_54 rfl (lv_at hl 0 rfl) ?_
    refine lv_aload_n hx hb dX3_comeBack_55 rfl (lv_at hl 1 rfl) ?_
    refine va_get (D := (dC, dI)) (ci := 3) (v := .int (nI ga)) (C := RX3) (T := TX3) (N := 8) hx hb hts in_X3 hown hK hP 0 rfl rfl 6 (by decide) lk_1 (fun _ h9 => h9) rfl dX3_comeBack_56 ?_
    refine lv_isub hx hb dX3_comeBack_59 ?_
    refine tpi (pk_sub (by omega)) ?_
    refine va_copyi hx hb (by rw [hml]; exact hl.1.symm) hown lk_10 lk_11 lk_12 lk_13 hK hP hD hS 2 6 1 1 rfl rfl rfl rfl rfl (nI_pos (by omega)) (nI_pos (by omega)) (nI_pos (by omega)) (by rw [nI_clamp (by omega), nI_clamp (by omega)]; omega) (by rw [nI_clamp (by omega), nI_clamp (by omega)]; omega) (fun _ _ => sb_fitB _) (Nat.le_of_ble_eq_true rfl) (Nat.le_of_ble_eq_true rfl) dX3_comeBack_60 (fun H locs hP hD hS => ?_)
    rw [cpy_bf (by omega) (by omega) (by omega)] at hP hD
    have hP : va_P (dC, dI) vwCl (gw h kq sp k o b kp ga gl ++ sw cB cI b sz st us mem pl ln ++ sw cB cI d sz2 st2 us2 (va_cpy mem mem2 ga ga (en - ga)) pl2 ln2) H := hP
    have hD : va_D A (gw h kq sp k o b kp ga gl ++ sw cB cI b sz st us mem pl ln ++ sw cB cI d sz2 st2 us2 (va_cpy mem mem2 ga ga (en - ga)) pl2 ln2) := hD
    refine lv_aload_n hx hb dX3_comeBack_63 rfl (lv_at hl 1 rfl) ?_
    refine lv_aload_n hx hb dX3_comeBack_64 rfl (lv_at hl 2 rfl) ?_
    refine va_put (D := (dC, dI)) (ci := 3) (v := .ref (d 0)) (ty := .object "GlulxHeap$State") (C := RX3) (T := TX3) (N := 8) hx hb hts in_X3 tyX3 tyX3_ok nmX3 hown hK hP hD hS 0 rfl rfl 3 (by decide) lk_3 (fun _ h9 => h9) rfl (by decide +kernel) rfl rfl (Nat.le_of_ble_eq_true rfl) dX3_comeBack_65 (fun H locs hP hD hS => ?_)
    have hP : va_P (dC, dI) vwCl (gw h kq sp k o d kp ga gl ++ sw cB cI b sz st us mem pl ln ++ sw cB cI d sz2 st2 us2 (va_cpy mem mem2 ga ga (en - ga)) pl2 ln2) H := hP
    have hD : va_D A (gw h kq sp k o d kp ga gl ++ sw cB cI b sz st us mem pl ln ++ sw cB cI d sz2 st2 us2 (va_cpy mem mem2 ga ga (en - ga)) pl2 ln2) := hD
    have e_mem2 : va_cpy mem mem2 ga ga (en - ga) = cbM mem mem2 ga gl (bth2 sz sz2) := cbM_cpy hen2
    have hP : va_P (dC, dI) vwCl (gw h kq sp k o d kp ga gl ++ sw cB cI b sz st us mem pl ln ++ sw cB cI d sz2 st2 us2 (cbM mem mem2 ga gl (bth2 sz sz2)) pl2 ln2) H := by rw [← e_mem2]; exact hP
    have hD : va_D A (gw h kq sp k o d kp ga gl ++ sw cB cI b sz st us mem pl ln ++ sw cB cI d sz2 st2 us2 (cbM mem mem2 ga gl (bth2 sz sz2)) pl2 ln2) := by rw [← e_mem2]; exact hD
    exact W.vret hx hb hr (fun t ht hW => ⟨⟨(), rfl, trivial, by rw [ht]; exact hP, va_K.moved hW.alike hK, hD⟩, hS.F ht⟩) hS.2.2 dX3_comeBack_68
