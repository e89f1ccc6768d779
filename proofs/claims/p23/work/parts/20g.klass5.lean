theorem ushB (v : Int32) {e : Nat} (he : e < 4) : ((v.toUInt32 >>> ((nI (8 * e)).toUInt32 &&& Int32.toUInt32 31)).toInt32).toInt8.toInt32 = sb_b (byt v e) := by
  rw [i2b_byt]
  congr 1
  unfold byt
  rw [Nat.pow_zero, Nat.div_one]
  rcases (show e = 0 ∨ e = 1 ∨ e = 2 ∨ e = 3 by omega) with rfl | rfl | rfl | rfl
  · rw [pk_ushr v (nI (8 * 0)) 0 (by decide)]
  · rw [pk_ushr v (nI (8 * 1)) 8 (by decide)]
  · rw [pk_ushr v (nI (8 * 2)) 16 (by decide)]
  · rw [pk_ushr v (nI (8 * 3)) 24 (by decide)]
theorem cpy_ky {mem kb : Nat → Nat} {y k o : Nat} (hy : y < 2 ^ 31) (ho : ¬ o % 2 = 0) : va_cpy mem kb y 0 k = kyW mem (nI y) k o kb k := by
  funext j; unfold va_cpy kyW ky
  by_cases h : j < k
  · rw [if_pos (by omega), if_pos h, if_neg ho, show cl (nI y) = y from nI_clamp hy, Nat.sub_zero]
  · rw [if_neg (by omega), if_neg h]
/-- the sign of what orderOf answers -/
def sgn (c : Nat) (r : Int32) : Prop := (c = 0 ∧ r = nI 0) ∨ (c = 1 ∧ r < 0) ∨ (c = 2 ∧ 0 < r)
theorem dif32 {a b : Nat} (ha : a < 256) (hb : b < 256) : (nI a - nI b).toInt = (a : Int) - b := sub32 (by omega) (by omega)
set_option maxHeartbeats 4000000 in
set_option maxRecDepth 100000 in
theorem c_X1_load (l : Launch) (dC : Nat → ClassId) (dI : Nat → Nat → Nat) (cB cI : ClassId) (k b : Nat → Nat) (kl : Nat) (kb : Nat → Nat) (sz : Nat) (st : Nat) (us : Nat) (mem : Nat → Nat) (pl : Nat → Nat) (ln : Nat → Nat) (zz : Nat) (p1 : Int32) (k9 o9 : Nat) (g3 : sz ≤ 8192) (gk1 : 1 ≤ k9) (gk2 : k9 ≤ 64) (gk4 : o9 % 2 = 0 → k9 ≤ 4) (go : o9 ≤ 7) : Met l yX1_load wsX1_load ({ frames := 1, cells := 0, slots := 0, locals := 40 }) (va_Pc [.ref (k 0), .ref (b 0), .int p1, .int (nI k9), .int (nI o9)] (fun U => U.heap.size = zz ∧ va_P (dC, dI) vwCl (kw cB k kl kb ++ sw cB cI b sz st us mem pl ln) U.heap ∧ va_K (dC, dI) vwCl [(cI, .int), (cB, .byte)] U ∧ va_D (fun _ => True) (kw cB k kl kb ++ sw cB cI b sz st us mem pl ln))) (va_Qi (fun r _ => ((tkn sz p1 k9 o9) ∧ r = nI 1) ∨ (¬ (tkn sz p1 k9 o9) ∧ r = nI 0)) (fun (_ : Unit) t => va_P (dC, dI) vwCl (kw cB k k9 (tkW sz mem p1 k9 o9 kb) ++ sw cB cI b sz st us mem pl ln) t.heap ∧ va_K (dC, dI) vwCl [(cI, .int), (cB, .byte)] t ∧ va_D (va_A (kw cB k kl kb ++ sw cB cI b sz st us mem pl ln) zz) (kw cB k k9 (tkW sz mem p1 k9 o9 kb) ++ sw cB cI b sz st us mem pl ln)) (va_A (kw cB k kl kb ++ sw cB cI b sz st us mem pl ln) zz)) 0 0 (va_A (kw cB k kl kb ++ sw cB cI b sz st us mem pl ln) zz) := by
  refine Met.ofW (cc := cX1_load) (maxL := 6) (ret := (some .boolean)) (by decide) rfl ?_
  intro p e s m args below meth c s₁ B hml hv
  obtain ⟨rfl, hsz, hP, hK, hD0⟩ := hv
  have hx := B.exec
  have hb := B.bytes
  have hr := B.returns
  have hts := atoms_spec (ws := wsX1_load) B.pre
  have hown : s.vm.findClass RX1 = some m.cls := findClass_of_methodNamed B.named
  have hlocks := B.notSynchronized
  subst hsz
  have hD := hD0.self (sz := s.heap.size)
  generalize hAe : va_A (kw cB k kl kb ++ sw cB cI b sz st us mem pl ln) s.heap.size = A at hD ⊢
  have hA : ∀ q : Nat, s.heap.size ≤ q → A q := fun q h => by rw [← hAe]; exact Or.inr h
  have hS : va_S A s.heap s.heap [] := va_S.rf
  have hP : va_P (dC, dI) vwCl (kw cB k kl kb ++ sw cB cI b sz st us mem pl ln) s.heap := hP
  have in_X1 : ∀ w ∈ wsX10, w ∈ wsX1_load := fun _ h => List.mem_cons_of_mem _ (List.mem_append_left _ (List.mem_append_right _ (h)))
  have in_X2 : ∀ w ∈ wsX20, w ∈ wsX1_load := fun _ h => List.mem_cons_of_mem _ (List.mem_append_right _ (h))
  have lk_1 := hts (.fieldLink RX1 15 "GlulxHeap$Key" "length" "I") (List.mem_of_getElem? (i := 1) rfl)
  have lk_2 := hts (.fieldLink RX1 9 "GlulxHeap$Key" "bytes" "[B") (List.mem_of_getElem? (i := 2) rfl)
  have lk_3 := hts (.fieldLink RX1 25 "GlulxHeap$State" "bytes" "[B") (List.mem_of_getElem? (i := 3) rfl)
  have lk_4 := hts (.methodLink RX1 26 arraycopyName) (List.mem_of_getElem? (i := 4) rfl)
  have lk_5 := hts (.native arraycopyName) (List.mem_of_getElem? (i := 5) rfl)
  have lk_6 := hts (.static arraycopyName) (List.mem_of_getElem? (i := 6) rfl)
  have lk_7 := hts (.initialized "java/lang/System") (List.mem_of_getElem? (i := 7) rfl)
  have hl := lv_entry ([.ref (k 0), .ref (b 0), .int p1, .int (nI k9), .int (nI o9)]) (n := 6) (Nat.le_of_ble_eq_true rfl)
  rw [lg_entry_eq]
  generalize (lg_sl ([.ref (k 0), .ref (b 0), .int p1, .int (nI k9), .int (nI o9)]) ++ List.replicate (6 - (lg_sl ([.ref (k 0), .ref (b 0), .int p1, .int (nI k9), .int (nI o9)])).length) Slot.unset).toArray = ls at hl ⊢
  have hl : lv_has ls 6 [(0, .ref (k 0)), (1, .ref (b 0)), (2, .int p1), (3, .int (nI k9)), (4, .int (nI o9))] := hl
  refine lv_aload_n hx hb dX1_load_0 rfl (lv_at hl 0 rfl) ?_
  refine lv_iload_n hx hb dX1_load_1 rfl (lv_at hl 3 rfl) ?_
  refine va_put (D := (dC, dI)) (ci := 1) (v := .int (nI k9)) (ty := .int) (C := RX1) (T := TX1) (N := 2) hx hb hts in_X1 tyX1 tyX1_ok nmX1 hown hK hP hD hS 0 rfl rfl 1 (by decide) lk_1 (fun _ h9 => h9) rfl (by decide +kernel) rfl rfl (Nat.le_of_ble_eq_true rfl) dX1_load_2 (fun H locs hP hD hS => ?_)
  have hP : va_P (dC, dI) vwCl (kw cB k k9 kb ++ sw cB cI b sz st us mem pl ln) H := hP
  have hD : va_D A (kw cB k k9 kb ++ sw cB cI b sz st us mem pl ln) := hD
  refine lv_iload hx hb dX1_load_5 (lv_at hl 4 rfl) ?_
  refine lv_iconst (v := (nI 1)) hx hb dX1_load_7 (by decide) ?_
  refine lv_iand hx hb dX1_load_8 ?_
  refine tpi (and1 (by omega)) ?_
  refine lv_if_ne (tgt := 48) hx hb dX1_load_9 (by decide) (fun c_9 => ?_) (fun c_9 => ?_)
  · have c_9 : ¬ o9 % 2 = 0 := fun q => c_9 ((nZ_eq (by omega)).mpr q)
    rcases Classical.em (p1 < 0) with h0 | h0
    · refine lv_aload_n hx hb dX1_load_48 rfl (lv_at hl 1 rfl) ?_
      refine lv_iload_n hx hb dX1_load_49 rfl (lv_at hl 2 rfl) ?_
      refine lv_i2l (v := p1.toInt64) hx hb dX1_load_50 rfl ?_
      refine lv_iload_n hx hb dX1_load_51 rfl (lv_at hl 3 rfl) ?_
      have hPc := hP.sub (ws' := sw cB cI b sz st us mem pl ln) [2, 3, 4, 5] rfl
      have hKc := hK.sub (tys' := [(cI, .int), (cB, .byte)]) [0, 1] rfl
      refine vp_callSi (W.runV (As := [.long p1.toInt64, .int (nI k9)]) (rest := []) ⟨hx, hb, hml, hown, hts⟩ (c_X2_hasN l dC dI cB cI b sz st us mem pl ln p1.toInt64 k9 (neg64 h0)) (cwV 2 hts gX1_load_X2_has rfl rfl rfl (by decide +kernel) ⟨Nat.le_of_ble_eq_true rfl, Nat.le_of_ble_eq_true rfl⟩) ⟨fun a9 U g9 mk9 q9 => by obtain ⟨q0, qP, qK⟩ := q9; exact ⟨q0, qP, va_K.moved (u := U) (U := U.calling g9 mk9 a9) (Vm.Alike.refl U.vm) qK⟩, va_recv hKc hPc (ci := 2) (q0 := 0) rfl rfl, fun U hU hW => ⟨rfl, by rw [hU]; exact hPc, va_K.moved hW.alike hKc⟩⟩ rfl rfl hl.1 rfl (lv_room (Nat.le_of_ble_eq_true rfl)) dX1_load_52 ⟨Nat.zero_le _, Nat.zero_le _⟩) (fun r_52 hw => ?_)
      try dsimp only at hw
      subst hw
      refine lv_if_ne (tgt := 60) hx hb dX1_load_55 (by decide) (fun c_55 => ?_) (fun c_55 => ?_)
      · exact absurd c_55 (by decide)
      · have c_55 : 0 = 0 := (nZ_eq (by omega)).mp c_55
        refine lv_iconst (v := (nI 0)) hx hb dX1_load_58 (by decide) ?_
        have e_kb : kb = tkW sz mem p1 k9 o9 kb := by unfold tkW; rw [if_neg (fun q => q.elim (by omega) (fun q => q.1 h0))]
        have hP : va_P (dC, dI) vwCl (kw cB k k9 (tkW sz mem p1 k9 o9 kb) ++ sw cB cI b sz st us mem pl ln) H := by rw [← e_kb]; exact hP
        have hD : va_D A (kw cB k k9 (tkW sz mem p1 k9 o9 kb) ++ sw cB cI b sz st us mem pl ln) := by rw [← e_kb]; exact hD
        exact W.zret (v := (nI 0)) (ty := .boolean) hx hb hr (by decide) (fun t ht hW => ⟨⟨(nI 0), (), rfl, Or.inr ⟨fun q => q.elim (by omega) (fun q => q.1 h0), rfl⟩, by rw [ht]; exact hP, va_K.moved hW.alike hK, hD⟩, hS.F ht⟩) hS.2.2 dX1_load_59
    · obtain ⟨y, n_y, rfl⟩ := nI_of h0
      refine lv_aload_n hx hb dX1_load_48 rfl (lv_at hl 1 rfl) ?_
      refine lv_iload_n hx hb dX1_load_49 rfl (lv_at hl 2 rfl) ?_
      refine lv_i2l (v := lN y) hx hb dX1_load_50 (nI_l (by omega)) ?_
      refine lv_iload_n hx hb dX1_load_51 rfl (lv_at hl 3 rfl) ?_
      have hPc := hP.sub (ws' := sw cB cI b sz st us mem pl ln) [2, 3, 4, 5] rfl
      have hKc := hK.sub (tys' := [(cI, .int), (cB, .byte)]) [0, 1] rfl
      refine vp_callSi (W.runV (As := [.long (lN y), .int (nI k9)]) (rest := []) ⟨hx, hb, hml, hown, hts⟩ (c_X2_has l dC dI cB cI b sz st us mem pl ln y k9 (by omega) (by omega) (by omega)) (cwV 2 hts gX1_load_X2_has rfl rfl rfl (by decide +kernel) ⟨Nat.le_of_ble_eq_true rfl, Nat.le_of_ble_eq_true rfl⟩) ⟨fun a9 U g9 mk9 q9 => by obtain ⟨q0, qP, qK⟩ := q9; exact ⟨q0, qP, va_K.moved (u := U) (U := U.calling g9 mk9 a9) (Vm.Alike.refl U.vm) qK⟩, va_recv hKc hPc (ci := 2) (q0 := 0) rfl rfl, fun U hU hW => ⟨rfl, by rw [hU]; exact hPc, va_K.moved hW.alike hKc⟩⟩ rfl rfl hl.1 rfl (lv_room (Nat.le_of_ble_eq_true rfl)) dX1_load_52 ⟨Nat.zero_le _, Nat.zero_le _⟩) (fun r_52 hw => ?_)
      try dsimp only at hw
      rcases hw with ⟨hc_52, rfl⟩ | ⟨hc_52, rfl⟩
      · skip
        refine lv_if_ne (tgt := 60) hx hb dX1_load_55 (by decide) (fun c_55 => ?_) (fun c_55 => ?_)
        · have c_55 : ¬ 1 = 0 := fun q => c_55 ((nZ_eq (by omega)).mpr q)
          refine lv_aload_n hx hb dX1_load_60 rfl (lv_at hl 1 rfl) ?_
          refine va_get (D := (dC, dI)) (ci := 2) (v := .ref (b 1)) (C := RX2) (T := TX2) (N := 6) hx hb hts in_X2 hown hK hP 2 rfl rfl 0 (by decide) lk_3 (fun _ h9 => h9) rfl dX1_load_61 ?_
          refine lv_iload_n hx hb dX1_load_64 rfl (lv_at hl 2 rfl) ?_
          refine lv_aload_n hx hb dX1_load_65 rfl (lv_at hl 0 rfl) ?_
          refine va_get (D := (dC, dI)) (ci := 1) (v := .ref (k 1)) (C := RX1) (T := TX1) (N := 2) hx hb hts in_X1 hown hK hP 0 rfl rfl 0 (by decide) lk_2 (fun _ h9 => h9) rfl dX1_load_66 ?_
          refine lv_iconst (v := (nI 0)) hx hb dX1_load_69 (by decide) ?_
          refine lv_iload_n hx hb dX1_load_70 rfl (lv_at hl 3 rfl) ?_
          refine va_copyi hx hb (by rw [hml]; exact hl.1.symm) hown lk_4 lk_5 lk_6 lk_7 hK hP hD hS 3 1 1 1 rfl rfl rfl rfl rfl (nI_pos (by omega)) (nI_pos (by omega)) (nI_pos (by omega)) (by rw [nI_clamp (by omega), nI_clamp (by omega)]; omega) (by rw [nI_clamp (by omega), nI_clamp (by omega)]; omega) (fun _ _ => sb_fitB _) (Nat.le_of_ble_eq_true rfl) (Nat.le_of_ble_eq_true rfl) dX1_load_71 (fun H locs hP hD hS => ?_)
          rw [cpy_bf (by omega) (by omega) (by omega)] at hP hD
          have hP : va_P (dC, dI) vwCl (kw cB k k9 (va_cpy mem kb y 0 k9) ++ sw cB cI b sz st us mem pl ln) H := hP
          have hD : va_D A (kw cB k k9 (va_cpy mem kb y 0 k9) ++ sw cB cI b sz st us mem pl ln) := hD
          refine lv_iconst (v := (nI 1)) hx hb dX1_load_74 (by decide) ?_
          have e_kb : va_cpy mem kb y 0 k9 = tkW sz mem (nI y) k9 o9 kb := by unfold tkW; rw [if_pos (Or.inr ⟨h0, by rw [show cl (nI y) = y from nI_clamp n_y]; omega⟩), cpy_ky n_y (by omega)]
          have hP : va_P (dC, dI) vwCl (kw cB k k9 (tkW sz mem (nI y) k9 o9 kb) ++ sw cB cI b sz st us mem pl ln) H := by rw [← e_kb]; exact hP
          have hD : va_D A (kw cB k k9 (tkW sz mem (nI y) k9 o9 kb) ++ sw cB cI b sz st us mem pl ln) := by rw [← e_kb]; exact hD
          exact W.zret (v := (nI 1)) (ty := .boolean) hx hb hr (by decide) (fun t ht hW => ⟨⟨(nI 1), (), rfl, Or.inl ⟨Or.inr ⟨h0, by rw [show cl (nI y) = y from nI_clamp n_y]; omega⟩, rfl⟩, by rw [ht]; exact hP, va_K.moved hW.alike hK, hD⟩, hS.F ht⟩) hS.2.2 dX1_load_75
        · exact absurd c_55 (by decide)
      · skip
        refine lv_if_ne (tgt := 60) hx hb dX1_load_55 (by decide) (fun c_55 => ?_) (fun c_55 => ?_)
        · exact absurd c_55 (by decide)
        · have c_55 : 0 = 0 := (nZ_eq (by omega)).mp c_55
          refine lv_iconst (v := (nI 0)) hx hb dX1_load_58 (by decide) ?_
          have e_kb : kb = tkW sz mem (nI y) k9 o9 kb := by unfold tkW; rw [if_neg (fun q => q.elim (by omega) (fun q => absurd q.2 (by rw [show cl (nI y) = y from nI_clamp n_y]; omega)))]
          have hP : va_P (dC, dI) vwCl (kw cB k k9 (tkW sz mem (nI y) k9 o9 kb) ++ sw cB cI b sz st us mem pl ln) H := by rw [← e_kb]; exact hP
          have hD : va_D A (kw cB k k9 (tkW sz mem (nI y) k9 o9 kb) ++ sw cB cI b sz st us mem pl ln) := by rw [← e_kb]; exact hD
          exact W.zret (v := (nI 0)) (ty := .boolean) hx hb hr (by decide) (fun t ht hW => ⟨⟨(nI 0), (), rfl, Or.inr ⟨fun q => q.elim (by omega) (fun q => absurd q.2 (by rw [show cl (nI y) = y from nI_clamp n_y]; omega)), rfl⟩, by rw [ht]; exact hP, va_K.moved hW.alike hK, hD⟩, hS.F ht⟩) hS.2.2 dX1_load_59
  · have c_9 : o9 % 2 = 0 := (nZ_eq (by omega)).mp c_9
    refine lv_iconst (v := (nI 0)) hx hb dX1_load_12 (by decide) ?_
    refine lv_istore (lv' := [(5, .int (nI 0)), (0, .ref (k 0)), (1, .ref (b 0)), (2, .int p1), (3, .int (nI k9)), (4, .int (nI o9))]) hx hb dX1_load_13 hl (by decide) rfl (fun ls hl => ?_)
    refine lp_world (σ := Nat × (Nat → Nat)) (fun ⟨i, f⟩ => i ≤ k9 ∧ f = kyW mem p1 k9 o9 kb i) (fun ⟨i, f⟩ => k9 - i) (fun ⟨i, f⟩ => [(5, .int (nI i)), (0, .ref (k 0)), (1, .ref (b 0)), (2, .int p1), (3, .int (nI k9)), (4, .int (nI o9))]) (fun ⟨i, f⟩ => kw cB k k9 f ++ sw cB cI b sz st us mem pl ln) ?_ ((0, kb)) (⟨Nat.zero_le _, by rw [kyW_0]⟩) (hP) (hD) hS (lv_sub hl [0, 1, 2, 3, 4, 5] rfl)
    intro ⟨i, f⟩ hI ih H locs ls hP hD hS hl
    have hl : lv_has ls 6 [(5, .int (nI i)), (0, .ref (k 0)), (1, .ref (b 0)), (2, .int p1), (3, .int (nI k9)), (4, .int (nI o9))] := hl
    have hP : va_P (dC, dI) vwCl (kw cB k k9 f ++ sw cB cI b sz st us mem pl ln) H := hP
    have hD : va_D A (kw cB k k9 f ++ sw cB cI b sz st us mem pl ln) := hD
    have hI : i ≤ k9 ∧ f = kyW mem p1 k9 o9 kb i := hI
    obtain ⟨hi, hf⟩ := hI
    have ih_15 := ih
    refine lv_iload hx hb dX1_load_15 (lv_at hl 0 rfl) ?_
    refine lv_iload_n hx hb dX1_load_17 rfl (lv_at hl 4 rfl) ?_
    refine lv_icmp_ge (tgt := 46) hx hb dX1_load_18 (by decide) (fun c_18 => ?_) (fun c_18 => ?_)
    · have c_18 : k9 ≤ i := (nI_leI (a := k9) (b := i) (by omega) (by omega)).mp c_18
      refine lv_iconst (v := (nI 1)) hx hb dX1_load_46 (by decide) ?_
      have e_kb : f = tkW sz mem p1 k9 o9 kb := by unfold tkW; rw [if_pos (Or.inl (by omega)), hf, show i = k9 by omega]
      have hP : va_P (dC, dI) vwCl (kw cB k k9 (tkW sz mem p1 k9 o9 kb) ++ sw cB cI b sz st us mem pl ln) H := by rw [← e_kb]; exact hP
      have hD : va_D A (kw cB k k9 (tkW sz mem p1 k9 o9 kb) ++ sw cB cI b sz st us mem pl ln) := by rw [← e_kb]; exact hD
      exact W.zret (v := (nI 1)) (ty := .boolean) hx hb hr (by decide) (fun t ht hW => ⟨⟨(nI 1), (), rfl, Or.inl ⟨Or.inl (by omega), rfl⟩, by rw [ht]; exact hP, va_K.moved hW.alike hK, hD⟩, hS.F ht⟩) hS.2.2 dX1_load_47
    · have c_18 : ¬ k9 ≤ i := fun q => c_18 ((nI_leI (a := k9) (b := i) (by omega) (by omega)).mpr q)
      refine lv_aload_n hx hb dX1_load_21 rfl (lv_at hl 1 rfl) ?_
      refine va_get (D := (dC, dI)) (ci := 1) (v := .ref (k 1)) (C := RX1) (T := TX1) (N := 2) hx hb hts in_X1 hown hK hP 0 rfl rfl 0 (by decide) lk_2 (fun _ h9 => h9) rfl dX1_load_22 ?_
      refine lv_iload hx hb dX1_load_25 (lv_at hl 0 rfl) ?_
      refine lv_iload_n hx hb dX1_load_27 rfl (lv_at hl 3 rfl) ?_
      refine lv_bipush (v := (nI 8)) hx hb dX1_load_28 (by decide) ?_
      refine lv_iload_n hx hb dX1_load_30 rfl (lv_at hl 4 rfl) ?_
      refine lv_iconst (v := (nI 1)) hx hb dX1_load_31 (by decide) ?_
      refine lv_isub hx hb dX1_load_32 ?_
      refine tpi (pk_sub (by omega)) ?_
      refine lv_iload hx hb dX1_load_33 (lv_at hl 0 rfl) ?_
      refine lv_isub hx hb dX1_load_35 ?_
      refine tpi (pk_sub (by omega)) ?_
      refine lv_imul hx hb dX1_load_36 ?_
      refine tpi (pk_mul _ _) ?_
      refine lv_iushr hx hb dX1_load_37 (rfl) ?_
      refine lv_i2b hx hb dX1_load_38 (ushB p1 (by have := gk4 (by omega); omega)) ?_
      refine va_bast hx hb hK hP hD hS 1 1 rfl rfl (vp_in_nI (by omega) (by omega)) dX1_load_39 (fun H locs hP hD hS => ?_)
      rw [bf_up (by omega)] at hP hD
      have hP : va_P (dC, dI) vwCl (kw cB k k9 (va_up f i (byt p1 (k9 - 1 - i))) ++ sw cB cI b sz st us mem pl ln) H := hP
      have hD : va_D A (kw cB k k9 (va_up f i (byt p1 (k9 - 1 - i))) ++ sw cB cI b sz st us mem pl ln) := hD
      refine lv_iinc (v := (nI (i + 1))) (lv' := [(5, .int (nI (i + 1))), (0, .ref (k 0)), (1, .ref (b 0)), (2, .int p1), (3, .int (nI k9)), (4, .int (nI o9))]) hx hb dX1_load_40 hl (k := 0) rfl (nI_inc _) (by decide) rfl (fun ls hl => ?_)
      refine lv_goto (tgt := 15) hx hb dX1_load_43 (by decide) ?_
      exact ih_15 (i + 1, va_up f i (byt p1 (k9 - 1 - i))) (⟨by omega, by rw [hf, kyW_s (by unfold ky; rw [if_pos (by omega)])]⟩) (show k9 - (i + 1) < k9 - i by omega) H locs ls (hP) (hD) hS (lv_sub hl [0, 1, 2, 3, 4, 5] rfl)
set_option maxHeartbeats 4000000 in
set_option maxRecDepth 100000 in
theorem c_X1_orderOf (l : Launch) (dC : Nat → ClassId) (dI : Nat → Nat → Nat) (cB cI : ClassId) (k b : Nat → Nat) (kl : Nat) (kb : Nat → Nat) (sz : Nat) (st : Nat) (us : Nat) (mem : Nat → Nat) (pl : Nat → Nat) (ln : Nat → Nat) (x : Nat) (g1 : x + kl ≤ 8192) (g2 : kl ≤ 64) (bmem : ∀ j, mem j < 256) (bkb : ∀ j, kb j < 256) : Met l yX1_orderOf wsX1_orderOf ({ frames := 0, cells := 0, slots := 0, locals := 0 }) (va_Pc [.ref (k 0), .ref (b 0), .int (nI x)] (fun U => va_P (dC, dI) vwCl (kw cB k kl kb ++ sw cB cI b sz st us mem pl ln) U.heap ∧ va_K (dC, dI) vwCl [(cI, .int), (cB, .byte)] U)) (vp_Si (fun r => sgn (cmpB mem x kb kl) r)) 0 0 (fun _ => False) := by
  refine Met.ofW (cc := cX1_orderOf) (maxL := 5) (ret := (some .int)) (by decide) rfl ?_
  intro p e s m args below meth c s₁ B hml hv
  obtain ⟨rfl, hP, hK⟩ := hv
  have hx := B.exec
  have hb := B.bytes
  have hr := B.returns
  have hts := atoms_spec (ws := wsX1_orderOf) B.pre
  have hown : s.vm.findClass RX1 = some m.cls := findClass_of_methodNamed B.named
  have hlocks := B.notSynchronized
  have in_X1 : ∀ w ∈ wsX10, w ∈ wsX1_orderOf := fun _ h => List.mem_cons_of_mem _ (List.mem_append_left _ (List.mem_append_right _ (h)))
  have in_X2 : ∀ w ∈ wsX20, w ∈ wsX1_orderOf := fun _ h => List.mem_cons_of_mem _ (List.mem_append_right _ (h))
  have lk_1 := hts (.fieldLink RX1 15 "GlulxHeap$Key" "length" "I") (List.mem_of_getElem? (i := 1) rfl)
  have lk_2 := hts (.fieldLink RX1 25 "GlulxHeap$State" "bytes" "[B") (List.mem_of_getElem? (i := 2) rfl)
  have lk_3 := hts (.fieldLink RX1 9 "GlulxHeap$Key" "bytes" "[B") (List.mem_of_getElem? (i := 3) rfl)
  have hl := lv_entry ([.ref (k 0), .ref (b 0), .int (nI x)]) (n := 5) (Nat.le_of_ble_eq_true rfl)
  rw [lg_entry_eq]
  generalize (lg_sl ([.ref (k 0), .ref (b 0), .int (nI x)]) ++ List.replicate (5 - (lg_sl ([.ref (k 0), .ref (b 0), .int (nI x)])).length) Slot.unset).toArray = ls at hl ⊢
  have hl : lv_has ls 5 [(0, .ref (k 0)), (1, .ref (b 0)), (2, .int (nI x))] := hl
  refine lv_iconst (v := (nI 0)) hx hb dX1_orderOf_0 (by decide) ?_
  refine lv_istore_n (lv' := [(3, .int (nI 0)), (0, .ref (k 0)), (1, .ref (b 0)), (2, .int (nI x))]) hx hb dX1_orderOf_1 rfl hl (by decide) rfl (fun ls hl => ?_)
  refine lp_still (σ := Nat) (fun i => i ≤ kl ∧ cmpB mem x kb kl = cmpF mem x kb kl (kl - i) i) (fun i => kl - i) (fun i => [(3, .int (nI i)), (0, .ref (k 0)), (1, .ref (b 0)), (2, .int (nI x))]) ?_ 0 (⟨Nat.zero_le _, rfl⟩) (lv_sub hl [0, 1, 2, 3] rfl)
  intro i hI ih ls hl
  have hl : lv_has ls 5 [(3, .int (nI i)), (0, .ref (k 0)), (1, .ref (b 0)), (2, .int (nI x))] := hl
  have hI : i ≤ kl ∧ cmpB mem x kb kl = cmpF mem x kb kl (kl - i) i := hI
  obtain ⟨hi, hv⟩ := hI
  have ih_2 := ih
  refine lv_iload_n hx hb dX1_orderOf_2 rfl (lv_at hl 0 rfl) ?_
  refine lv_aload_n hx hb dX1_orderOf_3 rfl (lv_at hl 1 rfl) ?_
  refine va_get (D := (dC, dI)) (ci := 1) (v := .int (nI kl)) (C := RX1) (T := TX1) (N := 2) hx hb hts in_X1 hown hK hP 0 rfl rfl 1 (by decide) lk_1 (fun _ h9 => h9) rfl dX1_orderOf_4 ?_
  refine lv_icmp_ge (tgt := 49) hx hb dX1_orderOf_7 (by decide) (fun c_7 => ?_) (fun c_7 => ?_)
  · have c_7 : kl ≤ i := (nI_leI (a := kl) (b := i) (by omega) (by omega)).mp c_7
    refine lv_iconst (v := (nI 0)) hx hb dX1_orderOf_49 (by decide) ?_
    exact W.iret (v := (nI 0)) hx hb hr (fun t ht hW => ⟨(nI 0), rfl, Or.inl ⟨by rw [hv, cmpF_end (by omega)], rfl⟩, ht⟩) (fun _ h9 => absurd h9 List.not_mem_nil) dX1_orderOf_50
  · have c_7 : ¬ kl ≤ i := fun q => c_7 ((nI_leI (a := kl) (b := i) (by omega) (by omega)).mpr q)
    refine lv_aload_n hx hb dX1_orderOf_10 rfl (lv_at hl 2 rfl) ?_
    refine va_get (D := (dC, dI)) (ci := 2) (v := .ref (b 1)) (C := RX2) (T := TX2) (N := 6) hx hb hts in_X2 hown hK hP 2 rfl rfl 0 (by decide) lk_2 (fun _ h9 => h9) rfl dX1_orderOf_11 ?_
    refine lv_iload_n hx hb dX1_orderOf_14 rfl (lv_at hl 3 rfl) ?_
    refine lv_iload_n hx hb dX1_orderOf_15 rfl (lv_at hl 0 rfl) ?_
    refine lv_iadd hx hb dX1_orderOf_16 ?_
    refine tpi (nI_add _ _) ?_
    refine va_bald hx hb hK hP 3 1 rfl rfl (vp_in_nI (by omega) (by omega)) dX1_orderOf_17 ?_
    refine tpi (bf_at (by omega)) ?_
    have w_17 := bmem (x + i)
    refine lv_sipush (v := (nI 255)) hx hb dX1_orderOf_18 (by decide) ?_
    refine lv_iand hx hb dX1_orderOf_21 ?_
    refine tpi (sb_and (by omega)) ?_
    refine lv_aload_n hx hb dX1_orderOf_22 rfl (lv_at hl 1 rfl) ?_
    refine va_get (D := (dC, dI)) (ci := 1) (v := .ref (k 1)) (C := RX1) (T := TX1) (N := 2) hx hb hts in_X1 hown hK hP 0 rfl rfl 0 (by decide) lk_3 (fun _ h9 => h9) rfl dX1_orderOf_23 ?_
    refine lv_iload_n hx hb dX1_orderOf_26 rfl (lv_at hl 0 rfl) ?_
    refine va_bald hx hb hK hP 1 1 rfl rfl (vp_in_nI (by omega) (by omega)) dX1_orderOf_27 ?_
    refine tpi (bf_at (by omega)) ?_
    have w_27 := bkb i
    refine lv_sipush (v := (nI 255)) hx hb dX1_orderOf_28 (by decide) ?_
    refine lv_iand hx hb dX1_orderOf_31 ?_
    refine tpi (sb_and (by omega)) ?_
    refine lv_isub hx hb dX1_orderOf_32 ?_
    refine tpi (rfl) ?_
    refine lv_istore (lv' := [(4, .int (nI (mem (x + i)) - nI (kb i))), (3, .int (nI i)), (0, .ref (k 0)), (1, .ref (b 0)), (2, .int (nI x))]) hx hb dX1_orderOf_33 hl (by decide) rfl (fun ls hl => ?_)
    have hd9 := dif32 w_17 w_27
    refine lv_iload hx hb dX1_orderOf_35 (lv_at hl 0 rfl) ?_
    refine lv_if_eq (tgt := 43) hx hb dX1_orderOf_37 (by decide) (fun c_37 => ?_) (fun c_37 => ?_)
    · refine lv_iinc (v := (nI (i + 1))) (lv' := [(3, .int (nI (i + 1))), (4, .int (nI (mem (x + i)) - nI (kb i))), (0, .ref (k 0)), (1, .ref (b 0)), (2, .int (nI x))]) hx hb dX1_orderOf_43 hl (k := 1) rfl (nI_inc _) (by decide) rfl (fun ls hl => ?_)
      refine lv_goto (tgt := 2) hx hb dX1_orderOf_46 (by decide) ?_
      exact ih_2 (i + 1) (⟨by omega, by rw [hv, cmpF_step (by omega), if_pos (by have q := congrArg Int32.toInt c_37; rw [hd9, show (0 : Int32).toInt = 0 by decide] at q; omega)]⟩) (show kl - (i + 1) < kl - i by omega) ls (lv_sub hl [0, 2, 3, 4] rfl)
    · refine lv_iload hx hb dX1_orderOf_40 (lv_at hl 0 rfl) ?_
      exact W.iret (v := (nI (mem (x + i)) - nI (kb i))) hx hb hr (fun t ht hW => ⟨(nI (mem (x + i)) - nI (kb i)), rfl, (by have hne : ¬ mem (x + i) = kb i := fun q => c_37 (by rw [q]; exact Int32.sub_self _); rw [hv, cmpF_step (by omega), if_neg hne]; exact if q : mem (x + i) < kb i then Or.inr (Or.inl ⟨by rw [if_pos q], by rw [Int32.lt_iff_toInt_lt, hd9, show (0 : Int32).toInt = 0 by decide]; omega⟩) else Or.inr (Or.inr ⟨by rw [if_neg q], by rw [Int32.lt_iff_toInt_lt, hd9, show (0 : Int32).toInt = 0 by decide]; omega⟩)), ht⟩) (fun _ h9 => absurd h9 List.not_mem_nil) dX1_orderOf_42
set_option maxHeartbeats 4000000 in
set_option maxRecDepth 100000 in
theorem c_X0_has (l : Launch) (dC : Nat → ClassId) (dI : Nat → Nat → Nat) (cB : ClassId) (o : Nat → Nat) (oz : Nat) (cs : Nat) (cd : Nat → Nat) (p1 : Int32) (gc : cs ≤ 20000) : Met l yX0_has wsX0_has ({ frames := 0, cells := 0, slots := 0, locals := 0 }) (va_Pc [.ref (o 0), .int p1] (fun U => va_P (dC, dI) vwCl (ow cB o oz cs cd) U.heap ∧ va_K (dC, dI) vwCl [(cB, .byte)] U)) (vp_Si (fun r => ((¬ p1 < 0 ∧ cl p1 < cs) ∧ r = nI 1) ∨ (¬ (¬ p1 < 0 ∧ cl p1 < cs) ∧ r = nI 0))) 0 0 (fun _ => False) := by
  refine Met.ofW (cc := cX0_has) (maxL := 2) (ret := (some .boolean)) (by decide) rfl ?_
  intro p e s m args below meth c s₁ B hml hv
  obtain ⟨rfl, hP, hK⟩ := hv
  have hx := B.exec
  have hb := B.bytes
  have hr := B.returns
  have hts := atoms_spec (ws := wsX0_has) B.pre
  have hown : s.vm.findClass RX0 = some m.cls := findClass_of_methodNamed B.named
  have hlocks := B.notSynchronized
  have in_X0 : ∀ w ∈ wsX00, w ∈ wsX0_has := fun _ h => List.mem_cons_of_mem _ (List.mem_append_right _ (h))
  have lk_1 := hts (.fieldLink RX0 15 "GlulxHeap$Code" "length" "I") (List.mem_of_getElem? (i := 1) rfl)
  have hl := lv_entry ([.ref (o 0), .int p1]) (n := 2) (Nat.le_of_ble_eq_true rfl)
  rw [lg_entry_eq]
  generalize (lg_sl ([.ref (o 0), .int p1]) ++ List.replicate (2 - (lg_sl ([.ref (o 0), .int p1])).length) Slot.unset).toArray = ls at hl ⊢
  have hl : lv_has ls 2 [(0, .ref (o 0)), (1, .int p1)] := hl
  refine lv_iload_n hx hb dX0_has_0 rfl (lv_at hl 1 rfl) ?_
  refine lv_if_lt (tgt := 16) hx hb dX0_has_1 (by decide) (fun c_1 => ?_) (fun c_1 => ?_)
  · refine lv_iconst (v := (nI 0)) hx hb dX0_has_16 (by decide) ?_
    exact W.zret (v := (nI 0)) (ty := .boolean) hx hb hr (by decide) (fun t ht hW => ⟨(nI 0), rfl, Or.inr ⟨fun q => q.1 c_1, rfl⟩, ht⟩) (fun _ h9 => absurd h9 List.not_mem_nil) dX0_has_17
  · obtain ⟨x, n_x, rfl⟩ := nI_of c_1
    refine lv_iload_n hx hb dX0_has_4 rfl (lv_at hl 1 rfl) ?_
    refine lv_aload_n hx hb dX0_has_5 rfl (lv_at hl 0 rfl) ?_
    refine va_get (D := (dC, dI)) (ci := 0) (v := .int (nI cs)) (C := RX0) (T := TX0) (N := 2) hx hb hts in_X0 hown hK hP 0 rfl rfl 1 (by decide) lk_1 (fun _ h9 => h9) rfl dX0_has_6 ?_
    refine lv_icmp_ge (tgt := 16) hx hb dX0_has_9 (by decide) (fun c_9 => ?_) (fun c_9 => ?_)
    · have c_9 : cs ≤ x := (nI_leI (a := cs) (b := x) (by omega) (by omega)).mp c_9
      refine lv_iconst (v := (nI 0)) hx hb dX0_has_16 (by decide) ?_
      exact W.zret (v := (nI 0)) (ty := .boolean) hx hb hr (by decide) (fun t ht hW => ⟨(nI 0), rfl, Or.inr ⟨fun q => absurd q.2 (by rw [show cl (nI x) = x from nI_clamp n_x]; omega), rfl⟩, ht⟩) (fun _ h9 => absurd h9 List.not_mem_nil) dX0_has_17
    · have c_9 : ¬ cs ≤ x := fun q => c_9 ((nI_leI (a := cs) (b := x) (by omega) (by omega)).mpr q)
      refine lv_iconst (v := (nI 1)) hx hb dX0_has_12 (by decide) ?_
      refine lv_goto (tgt := 17) hx hb dX0_has_13 (by decide) ?_
      exact W.zret (v := (nI 1)) (ty := .boolean) hx hb hr (by decide) (fun t ht hW => ⟨(nI 1), rfl, Or.inl ⟨⟨c_1, by rw [show cl (nI x) = x from nI_clamp n_x]; omega⟩, rfl⟩, ht⟩) (fun _ h9 => absurd h9 List.not_mem_nil) dX0_has_17
set_option maxHeartbeats 4000000 in
set_option maxRecDepth 100000 in
theorem c_X0_byteAt (l : Launch) (dC : Nat → ClassId) (dI : Nat → Nat → Nat) (cB : ClassId) (o : Nat → Nat) (oz : Nat) (cs : Nat) (cd : Nat → Nat) (x : Nat) (g1 : x < oz) (g0 : oz < 2 ^ 31) (bcd : ∀ j, cd j < 256) : Met l yX0_byteAt wsX0_byteAt ({ frames := 0, cells := 0, slots := 0, locals := 0 }) (va_Pc [.ref (o 0), .int (nI x)] (fun U => va_P (dC, dI) vwCl (ow cB o oz cs cd) U.heap ∧ va_K (dC, dI) vwCl [(cB, .byte)] U)) (vp_Si (fun r => r = nI (cd x))) 0 0 (fun _ => False) := by
  refine Met.ofW (cc := cX0_byteAt) (maxL := 2) (ret := (some .int)) (by decide) rfl ?_
  intro p e s m args below meth c s₁ B hml hv
  obtain ⟨rfl, hP, hK⟩ := hv
  have hx := B.exec
  have hb := B.bytes
  have hr := B.returns
  have hts := atoms_spec (ws := wsX0_byteAt) B.pre
  have hown : s.vm.findClass RX0 = some m.cls := findClass_of_methodNamed B.named
  have hlocks := B.notSynchronized
  have in_X0 : ∀ w ∈ wsX00, w ∈ wsX0_byteAt := fun _ h => List.mem_cons_of_mem _ (List.mem_append_right _ (h))
  have lk_1 := hts (.fieldLink RX0 9 "GlulxHeap$Code" "bytes" "[B") (List.mem_of_getElem? (i := 1) rfl)
  have hl := lv_entry ([.ref (o 0), .int (nI x)]) (n := 2) (Nat.le_of_ble_eq_true rfl)
  rw [lg_entry_eq]
  generalize (lg_sl ([.ref (o 0), .int (nI x)]) ++ List.replicate (2 - (lg_sl ([.ref (o 0), .int (nI x)])).length) Slot.unset).toArray = ls at hl ⊢
  have hl : lv_has ls 2 [(0, .ref (o 0)), (1, .int (nI x))] := hl
  refine lv_aload_n hx hb dX0_byteAt_0 rfl (lv_at hl 0 rfl) ?_
  refine va_get (D := (dC, dI)) (ci := 0) (v := .ref (o 1)) (C := RX0) (T := TX0) (N := 2) hx hb hts in_X0 hown hK hP 0 rfl rfl 0 (by decide) lk_1 (fun _ h9 => h9) rfl dX0_byteAt_1 ?_
  refine lv_iload_n hx hb dX0_byteAt_4 rfl (lv_at hl 1 rfl) ?_
  refine va_bald hx hb hK hP 1 0 rfl rfl (vp_in_nI (by omega) (by omega)) dX0_byteAt_5 ?_
  refine tpi (bf_at (by omega)) ?_
  have w_5 := bcd x
  refine lv_sipush (v := (nI 255)) hx hb dX0_byteAt_6 (by decide) ?_
  refine lv_iand hx hb dX0_byteAt_9 ?_
  refine tpi (sb_and (by omega)) ?_
  exact W.iret (v := (nI (cd x))) hx hb hr (fun t ht hW => ⟨(nI (cd x)), rfl, (show (nI (cd x)) = nI (cd x) from rfl), ht⟩) (fun _ h9 => absurd h9 List.not_mem_nil) dX0_byteAt_10
set_option maxHeartbeats 4000000 in
set_option maxRecDepth 100000 in
theorem c_X0_pairAt (l : Launch) (dC : Nat → ClassId) (dI : Nat → Nat → Nat) (cB : ClassId) (o : Nat → Nat) (oz : Nat) (cs : Nat) (cd : Nat → Nat) (x : Nat) (g1 : x + 2 ≤ oz) (g0 : oz < 2 ^ 31) (bcd : ∀ j, cd j < 256) : Met l yX0_pairAt wsX0_pairAt ({ frames := 1, cells := 0, slots := 0, locals := 21 }) (va_Pc [.ref (o 0), .int (nI x)] (fun U => va_P (dC, dI) vwCl (ow cB o oz cs cd) U.heap ∧ va_K (dC, dI) vwCl [(cB, .byte)] U)) (vp_Si (fun r => r = nI (tw cd x))) 0 0 (fun _ => False) := by
  refine Met.ofW (cc := cX0_pairAt) (maxL := 2) (ret := (some .int)) (by decide) rfl ?_
  intro p e s m args below meth c s₁ B hml hv
  obtain ⟨rfl, hP, hK⟩ := hv
  have hx := B.exec
  have hb := B.bytes
  have hr := B.returns
  have hts := atoms_spec (ws := wsX0_pairAt) B.pre
  have hown : s.vm.findClass RX0 = some m.cls := findClass_of_methodNamed B.named
  have hlocks := B.notSynchronized
  have hl := lv_entry ([.ref (o 0), .int (nI x)]) (n := 2) (Nat.le_of_ble_eq_true rfl)
  rw [lg_entry_eq]
  generalize (lg_sl ([.ref (o 0), .int (nI x)]) ++ List.replicate (2 - (lg_sl ([.ref (o 0), .int (nI x)])).length) Slot.unset).toArray = ls at hl ⊢
  have hl : lv_has ls 2 [(0, .ref (o 0)), (1, .int (nI x))] := hl
  refine lv_aload_n hx hb dX0_pairAt_0 rfl (lv_at hl 0 rfl) ?_
  refine lv_iload_n hx hb dX0_pairAt_1 rfl (lv_at hl 1 rfl) ?_
  have hPc := hP.sub (ws' := ow cB o oz cs cd) [0, 1] rfl
  have hKc := hK.sub (tys' := [(cB, .byte)]) [0] rfl
  refine vp_callSi (W.runV (As := [.int (nI x)]) (rest := []) ⟨hx, hb, hml, hown, hts⟩ (c_X0_byteAt l dC dI cB o oz cs cd x (by omega) (by omega) bcd) (cwV 1 hts gX0_pairAt_X0_byteAt rfl rfl rfl (by decide +kernel) ⟨Nat.le_of_ble_eq_true rfl, Nat.le_of_ble_eq_true rfl⟩) ⟨fun a9 U g9 mk9 q9 => by obtain ⟨q0, qP, qK⟩ := q9; exact ⟨q0, qP, va_K.moved (u := U) (U := U.calling g9 mk9 a9) (Vm.Alike.refl U.vm) qK⟩, va_recv hKc hPc (ci := 0) (q0 := 0) rfl rfl, fun U hU hW => ⟨rfl, by rw [hU]; exact hPc, va_K.moved hW.alike hKc⟩⟩ rfl rfl hl.1 rfl (lv_room (Nat.le_of_ble_eq_true rfl)) dX0_pairAt_2 ⟨Nat.zero_le _, Nat.zero_le _⟩) (fun r_2 hw => ?_)
  try dsimp only at hw
  subst hw
  have wy_2 := bcd x
  refine lv_bipush (v := (nI 8)) hx hb dX0_pairAt_5 (by decide) ?_
  refine lv_ishl hx hb dX0_pairAt_7 ?_
  refine tpi (shl8 (by omega)) ?_
  refine lv_aload_n hx hb dX0_pairAt_8 rfl (lv_at hl 0 rfl) ?_
  refine lv_iload_n hx hb dX0_pairAt_9 rfl (lv_at hl 1 rfl) ?_
  refine lv_iconst (v := (nI 1)) hx hb dX0_pairAt_10 (by decide) ?_
  refine lv_iadd hx hb dX0_pairAt_11 ?_
  refine tpi (nI_add _ _) ?_
  have hPc := hP.sub (ws' := ow cB o oz cs cd) [0, 1] rfl
  have hKc := hK.sub (tys' := [(cB, .byte)]) [0] rfl
  refine vp_callSi (W.runV (As := [.int (nI (x + 1))]) (rest := [.int (nI ((cd x) * 256))]) ⟨hx, hb, hml, hown, hts⟩ (c_X0_byteAt l dC dI cB o oz cs cd (x + 1) (by omega) (by omega) bcd) (cwV 1 hts gX0_pairAt_X0_byteAt rfl rfl rfl (by decide +kernel) ⟨Nat.le_of_ble_eq_true rfl, Nat.le_of_ble_eq_true rfl⟩) ⟨fun a9 U g9 mk9 q9 => by obtain ⟨q0, qP, qK⟩ := q9; exact ⟨q0, qP, va_K.moved (u := U) (U := U.calling g9 mk9 a9) (Vm.Alike.refl U.vm) qK⟩, va_recv hKc hPc (ci := 0) (q0 := 0) rfl rfl, fun U hU hW => ⟨rfl, by rw [hU]; exact hPc, va_K.moved hW.alike hKc⟩⟩ rfl rfl hl.1 rfl (lv_room (Nat.le_of_ble_eq_true rfl)) dX0_pairAt_12 ⟨Nat.zero_le _, Nat.zero_le _⟩) (fun r_12 hw => ?_)
  try dsimp only at hw
  subst hw
  have wy_12 := bcd (x + 1)
  refine lv_ior hx hb dX0_pairAt_15 ?_
  refine tpi (or8 wy_12) ?_
  exact W.iret (v := (nI ((cd x) * 256 + (cd (x + 1))))) hx hb hr (fun t ht hW => ⟨(nI ((cd x) * 256 + (cd (x + 1)))), rfl, (show (nI ((cd x) * 256 + (cd (x + 1)))) = nI (tw cd x) from rfl), ht⟩) (fun _ h9 => absurd h9 List.not_mem_nil) dX0_pairAt_16
set_option maxHeartbeats 4000000 in
set_option maxRecDepth 100000 in
theorem c_X0_append (l : Launch) (dC : Nat → ClassId) (dI : Nat → Nat → Nat) (cB : ClassId) (o : Nat → Nat) (oz : Nat) (cs : Nat) (cd : Nat → Nat) (zz : Nat) (v : Nat) (g1 : cs < oz) (g0 : oz < 2 ^ 31) : Met l yX0_append wsX0_append ({ frames := 0, cells := 0, slots := 0, locals := 0 }) (va_Pc [.ref (o 0), .int (nI v)] (fun U => U.heap.size = zz ∧ va_P (dC, dI) vwCl (ow cB o oz cs cd) U.heap ∧ va_K (dC, dI) vwCl [(cB, .byte)] U ∧ va_D (fun _ => True) (ow cB o oz cs cd))) (va_Qv (fun _ => True) (fun (_ : Unit) t => va_P (dC, dI) vwCl (ow cB o oz (cs + 1) (va_up cd cs (v % 256))) t.heap ∧ va_K (dC, dI) vwCl [(cB, .byte)] t ∧ va_D (va_A (ow cB o oz cs cd) zz) (ow cB o oz (cs + 1) (va_up cd cs (v % 256)))) (va_A (ow cB o oz cs cd) zz)) 0 0 (va_A (ow cB o oz cs cd) zz) := by
  refine Met.ofW (cc := cX0_append) (maxL := 2) (ret := none) (by decide) rfl ?_
  intro p e s m args below meth c s₁ B hml hv
  obtain ⟨rfl, hsz, hP, hK, hD0⟩ := hv
  have hx := B.exec
  have hb := B.bytes
  have hr := B.returns
  have hts := atoms_spec (ws := wsX0_append) B.pre
  have hown : s.vm.findClass RX0 = some m.cls := findClass_of_methodNamed B.named
  have hlocks := B.notSynchronized
  subst hsz
  have hD := hD0.self (sz := s.heap.size)
  generalize hAe : va_A (ow cB o oz cs cd) s.heap.size = A at hD ⊢
  have hA : ∀ q : Nat, s.heap.size ≤ q → A q := fun q h => by rw [← hAe]; exact Or.inr h
  have hS : va_S A s.heap s.heap [] := va_S.rf
  have hP : va_P (dC, dI) vwCl (ow cB o oz cs cd) s.heap := hP
  have in_X0 : ∀ w ∈ wsX00, w ∈ wsX0_append := fun _ h => List.mem_cons_of_mem _ (List.mem_append_right _ (h))
  have lk_1 := hts (.fieldLink RX0 15 "GlulxHeap$Code" "length" "I") (List.mem_of_getElem? (i := 1) rfl)
  have lk_2 := hts (.fieldLink RX0 9 "GlulxHeap$Code" "bytes" "[B") (List.mem_of_getElem? (i := 2) rfl)
  have hl := lv_entry ([.ref (o 0), .int (nI v)]) (n := 2) (Nat.le_of_ble_eq_true rfl)
  rw [lg_entry_eq]
  generalize (lg_sl ([.ref (o 0), .int (nI v)]) ++ List.replicate (2 - (lg_sl ([.ref (o 0), .int (nI v)])).length) Slot.unset).toArray = ls at hl ⊢
  have hl : lv_has ls 2 [(0, .ref (o 0)), (1, .int (nI v))] := hl
  refine lv_aload_n hx hb dX0_append_0 rfl (lv_at hl 0 rfl) ?_
  refine va_get (D := (dC, dI)) (ci := 0) (v := .int (nI cs)) (C := RX0) (T := TX0) (N := 2) hx hb hts in_X0 hown hK hP 0 rfl rfl 1 (by decide) lk_1 (fun _ h9 => h9) rfl dX0_append_1 ?_
  refine lv_aload_n hx hb dX0_append_4 rfl (lv_at hl 0 rfl) ?_
  refine va_get (D := (dC, dI)) (ci := 0) (v := .ref (o 1)) (C := RX0) (T := TX0) (N := 2) hx hb hts in_X0 hown hK hP 0 rfl rfl 0 (by decide) lk_2 (fun _ h9 => h9) rfl dX0_append_5 ?_
  refine va_alen (v := nI oz) hx hb hK hP 1 0 rfl rfl rfl dX0_append_8 ?_
  refine lv_icmp_ge (tgt := 33) hx hb dX0_append_9 (by decide) (fun c_9 => ?_) (fun c_9 => ?_)
  · have c_9 : oz ≤ cs := (nI_leI (a := oz) (b := cs) (by omega) (by omega)).mp c_9
    omega
  · have c_9 : ¬ oz ≤ cs := fun q => c_9 ((nI_leI (a := oz) (b := cs) (by omega) (by omega)).mpr q)
    refine lv_aload_n hx hb dX0_append_12 rfl (lv_at hl 0 rfl) ?_
    refine va_get (D := (dC, dI)) (ci := 0) (v := .ref (o 1)) (C := RX0) (T := TX0) (N := 2) hx hb hts in_X0 hown hK hP 0 rfl rfl 0 (by decide) lk_2 (fun _ h9 => h9) rfl dX0_append_13 ?_
    refine lv_aload_n hx hb dX0_append_16 rfl (lv_at hl 0 rfl) ?_
    refine va_get (D := (dC, dI)) (ci := 0) (v := .int (nI cs)) (C := RX0) (T := TX0) (N := 2) hx hb hts in_X0 hown hK hP 0 rfl rfl 1 (by decide) lk_1 (fun _ h9 => h9) rfl dX0_append_17 ?_
    refine lv_iload_n hx hb dX0_append_20 rfl (lv_at hl 1 rfl) ?_
    refine lv_i2b hx hb dX0_append_21 (sb_mod v) ?_
    refine va_bast hx hb hK hP hD hS 1 0 rfl rfl (vp_in_nI (by omega) (by omega)) dX0_append_22 (fun H locs hP hD hS => ?_)
    rw [bf_up (by omega)] at hP hD
    have hP : va_P (dC, dI) vwCl (ow cB o oz cs (va_up cd cs (v % 256))) H := hP
    have hD : va_D A (ow cB o oz cs (va_up cd cs (v % 256))) := hD
    refine lv_aload_n hx hb dX0_append_23 rfl (lv_at hl 0 rfl) ?_
    refine lv_dup hx hb dX0_append_24 rfl ?_
    refine va_get (D := (dC, dI)) (ci := 0) (v := .int (nI cs)) (C := RX0) (T := TX0) (N := 2) hx hb hts in_X0 hown hK hP 0 rfl rfl 1 (by decide) lk_1 (fun _ h9 => h9) rfl dX0_append_25 ?_
    refine lv_iconst (v := (nI 1)) hx hb dX0_append_28 (by decide) ?_
    refine lv_iadd hx hb dX0_append_29 ?_
    refine tpi (nI_add _ _) ?_
    refine va_put (D := (dC, dI)) (ci := 0) (v := .int (nI (cs + 1))) (ty := .int) (C := RX0) (T := TX0) (N := 2) hx hb hts in_X0 tyX0 tyX0_ok nmX0 hown hK hP hD hS 0 rfl rfl 1 (by decide) lk_1 (fun _ h9 => h9) rfl (by decide +kernel) rfl rfl (Nat.le_of_ble_eq_true rfl) dX0_append_30 (fun H locs hP hD hS => ?_)
    have hP : va_P (dC, dI) vwCl (ow cB o oz (cs + 1) (va_up cd cs (v % 256))) H := hP
    have hD : va_D A (ow cB o oz (cs + 1) (va_up cd cs (v % 256))) := hD
    have hP : va_P (dC, dI) vwCl (ow cB o oz (cs + 1) (va_up cd cs (v % 256))) H := hP
    have hD : va_D A (ow cB o oz (cs + 1) (va_up cd cs (v % 256))) := hD
    exact W.vret hx hb hr (fun t ht hW => ⟨⟨(), rfl, trivial, by rw [ht]; exact hP, va_K.moved hW.alike hK, hD⟩, hS.F ht⟩) hS.2.2 dX0_append_33
set_option maxHeartbeats 4000000 in
set_option maxRecDepth 100000 in
theorem c_X0_appendPair (l : Launch) (dC : Nat → ClassId) (dI : Nat → Nat → Nat) (cB : ClassId) (o : Nat → Nat) (oz : Nat) (cs : Nat) (cd : Nat → Nat) (zz : Nat) (v : Nat) (g1 : cs + 2 ≤ oz) (g0 : oz < 2 ^ 31) (g2 : v < 2 ^ 31) : Met l yX0_appendPair wsX0_appendPair ({ frames := 1, cells := 0, slots := 0, locals := 21 }) (va_Pc [.ref (o 0), .int (nI v)] (fun U => U.heap.size = zz ∧ va_P (dC, dI) vwCl (ow cB o oz cs cd) U.heap ∧ va_K (dC, dI) vwCl [(cB, .byte)] U ∧ va_D (fun _ => True) (ow cB o oz cs cd))) (va_Qv (fun _ => True) (fun (_ : Unit) t => va_P (dC, dI) vwCl (ow cB o oz (cs + 1 + 1) (va_up (va_up cd cs (v / 2 ^ 8 % 256)) (cs + 1) (v % 256))) t.heap ∧ va_K (dC, dI) vwCl [(cB, .byte)] t ∧ va_D (va_A (ow cB o oz cs cd) zz) (ow cB o oz (cs + 1 + 1) (va_up (va_up cd cs (v / 2 ^ 8 % 256)) (cs + 1) (v % 256)))) (va_A (ow cB o oz cs cd) zz)) 0 0 (va_A (ow cB o oz cs cd) zz) := by
  refine Met.ofW (cc := cX0_appendPair) (maxL := 2) (ret := none) (by decide) rfl ?_
  intro p e s m args below meth c s₁ B hml hv
  obtain ⟨rfl, hsz, hP, hK, hD0⟩ := hv
  have hx := B.exec
  have hb := B.bytes
  have hr := B.returns
  have hts := atoms_spec (ws := wsX0_appendPair) B.pre
  have hown : s.vm.findClass RX0 = some m.cls := findClass_of_methodNamed B.named
  have hlocks := B.notSynchronized
  subst hsz
  have hD := hD0.self (sz := s.heap.size)
  generalize hAe : va_A (ow cB o oz cs cd) s.heap.size = A at hD ⊢
  have hA : ∀ q : Nat, s.heap.size ≤ q → A q := fun q h => by rw [← hAe]; exact Or.inr h
  have hS : va_S A s.heap s.heap [] := va_S.rf
  have hP : va_P (dC, dI) vwCl (ow cB o oz cs cd) s.heap := hP
  have hl := lv_entry ([.ref (o 0), .int (nI v)]) (n := 2) (Nat.le_of_ble_eq_true rfl)
  rw [lg_entry_eq]
  generalize (lg_sl ([.ref (o 0), .int (nI v)]) ++ List.replicate (2 - (lg_sl ([.ref (o 0), .int (nI v)])).length) Slot.unset).toArray = ls at hl ⊢
  have hl : lv_has ls 2 [(0, .ref (o 0)), (1, .int (nI v))] := hl
  refine lv_aload_n hx hb dX0_appendPair_0 rfl (lv_at hl 0 rfl) ?_
  refine lv_iload_n hx hb dX0_appendPair_1 rfl (lv_at hl 1 rfl) ?_
  refine lv_bipush (v := (nI 8)) hx hb dX0_appendPair_2 (by decide) ?_
  refine lv_ishr hx hb dX0_appendPair_4 ?_
  refine tpi (pk_shrN (by omega) (nI 8 &&& 31) 8 (by decide)) ?_
  have hPc := hP.sub (ws' := ow cB o oz cs cd) [0, 1] rfl
  have hKc := hK.sub (tys' := [(cB, .byte)]) [0] rfl
  have hDc := hD.sub (ws' := ow cB o oz cs cd) [0, 1] (by decide) rfl
  have hFc := va_free (wc := ow cB o oz cs cd) hD hS hA [0, 1] rfl
  refine va_callv (va_runV (As := [.int (nI (v / 2 ^ 8))]) (rest := []) ⟨hx, hb, hml, hown, hts⟩ (c_X0_append l dC dI cB o oz cs cd s.heap.size (v / 2 ^ 8) (by omega) (by omega)) (cwV 1 hts gX0_appendPair_X0_append rfl rfl rfl (by decide +kernel) ⟨Nat.le_of_ble_eq_true rfl, Nat.le_of_ble_eq_true rfl⟩) ⟨fun a9 U g9 mk9 q9 => by obtain ⟨q0, q1, qP, qK, qD⟩ := q9; exact ⟨q0, q1, qP, va_K.moved (u := U) (U := U.calling g9 mk9 a9) (Vm.Alike.refl U.vm) qK, qD⟩, va_recv hKc hPc (ci := 0) (q0 := 0) rfl rfl, fun U hU hW => ⟨rfl, by rw [hU], by rw [hU]; exact hPc, va_K.moved hW.alike hKc, hDc.weaken (fun _ _ _ _ => trivial)⟩⟩ rfl rfl hl.1 rfl (lv_room (Nat.le_of_ble_eq_true rfl)) dX0_appendPair_5 ⟨Nat.zero_le _, Nat.zero_le _⟩) hS (fun q _ h => hFc q h) hFc (fun u t H1 locs ht9 hvm9 hw hB hz9 hk9 hS => ?_)
  obtain ⟨hP1, hK1, hD1⟩ := hB
  rw [ht9] at hP1
  obtain ⟨hP, hD⟩ := va_join (wr := []) (w1 := ow cB o oz (cs + 1) (va_up cd cs ((v / 2 ^ 8) % 256))) hP hD [0, 1] [] rfl rfl (by decide) (by decide) hk9 hFc hP1 hD1
  generalize H1 = H at hP hS ⊢
  have hP := hP.sub (ws' := ow cB o oz (cs + 1) (va_up cd cs ((v / 2 ^ 8) % 256))) [0, 1] rfl
  have hD := hD.sub (ws' := ow cB o oz (cs + 1) (va_up cd cs ((v / 2 ^ 8) % 256))) [0, 1] (by decide) rfl
  have hP : va_P (dC, dI) vwCl (ow cB o oz (cs + 1) (va_up cd cs ((v / 2 ^ 8) % 256))) H := hP
  have hD : va_D A (ow cB o oz (cs + 1) (va_up cd cs ((v / 2 ^ 8) % 256))) := hD
  refine lv_aload_n hx hb dX0_appendPair_8 rfl (lv_at hl 0 rfl) ?_
  refine lv_iload_n hx hb dX0_appendPair_9 rfl (lv_at hl 1 rfl) ?_
  have hPc := hP.sub (ws' := ow cB o oz (cs + 1) (va_up cd cs ((v / 2 ^ 8) % 256))) [0, 1] rfl
  have hKc := hK.sub (tys' := [(cB, .byte)]) [0] rfl
  have hDc := hD.sub (ws' := ow cB o oz (cs + 1) (va_up cd cs ((v / 2 ^ 8) % 256))) [0, 1] (by decide) rfl
  have hFc := va_free (wc := ow cB o oz (cs + 1) (va_up cd cs ((v / 2 ^ 8) % 256))) hD hS hA [0, 1] rfl
  refine va_callv (va_runV (As := [.int (nI v)]) (rest := []) ⟨hx, hb, hml, hown, hts⟩ (c_X0_append l dC dI cB o oz (cs + 1) (va_up cd cs ((v / 2 ^ 8) % 256)) H.size v (by omega) (by omega)) (cwV 1 hts gX0_appendPair_X0_append rfl rfl rfl (by decide +kernel) ⟨Nat.le_of_ble_eq_true rfl, Nat.le_of_ble_eq_true rfl⟩) ⟨fun a9 U g9 mk9 q9 => by obtain ⟨q0, q1, qP, qK, qD⟩ := q9; exact ⟨q0, q1, qP, va_K.moved (u := U) (U := U.calling g9 mk9 a9) (Vm.Alike.refl U.vm) qK, qD⟩, va_recv hKc hPc (ci := 0) (q0 := 0) rfl rfl, fun U hU hW => ⟨rfl, by rw [hU], by rw [hU]; exact hPc, va_K.moved hW.alike hKc, hDc.weaken (fun _ _ _ _ => trivial)⟩⟩ rfl rfl hl.1 rfl (lv_room (Nat.le_of_ble_eq_true rfl)) dX0_appendPair_10 ⟨Nat.zero_le _, Nat.zero_le _⟩) hS (fun q _ h => hFc q h) hFc (fun u t H1 locs ht9 hvm9 hw hB hz9 hk9 hS => ?_)
  obtain ⟨hP1, hK1, hD1⟩ := hB
  rw [ht9] at hP1
  obtain ⟨hP, hD⟩ := va_join (wr := []) (w1 := ow cB o oz (cs + 1 + 1) (va_up (va_up cd cs ((v / 2 ^ 8) % 256)) (cs + 1) (v % 256))) hP hD [0, 1] [] rfl rfl (by decide) (by decide) hk9 hFc hP1 hD1
  generalize H1 = H at hP hS ⊢
  have hP := hP.sub (ws' := ow cB o oz (cs + 1 + 1) (va_up (va_up cd cs ((v / 2 ^ 8) % 256)) (cs + 1) (v % 256))) [0, 1] rfl
  have hD := hD.sub (ws' := ow cB o oz (cs + 1 + 1) (va_up (va_up cd cs ((v / 2 ^ 8) % 256)) (cs + 1) (v % 256))) [0, 1] (by decide) rfl
  have hP : va_P (dC, dI) vwCl (ow cB o oz (cs + 1 + 1) (va_up (va_up cd cs ((v / 2 ^ 8) % 256)) (cs + 1) (v % 256))) H := hP
  have hD : va_D A (ow cB o oz (cs + 1 + 1) (va_up (va_up cd cs ((v / 2 ^ 8) % 256)) (cs + 1) (v % 256))) := hD
  have e_cd : va_up (va_up cd cs ((v / 2 ^ 8) % 256)) (cs + 1) (v % 256) = va_up (va_up cd cs (v / 2 ^ 8 % 256)) (cs + 1) (v % 256) := rfl
  have hP : va_P (dC, dI) vwCl (ow cB o oz (cs + 1 + 1) (va_up (va_up cd cs (v / 2 ^ 8 % 256)) (cs + 1) (v % 256))) H := by rw [← e_cd]; exact hP
  have hD : va_D A (ow cB o oz (cs + 1 + 1) (va_up (va_up cd cs (v / 2 ^ 8 % 256)) (cs + 1) (v % 256))) := by rw [← e_cd]; exact hD
  exact W.vret hx hb hr (fun t ht hW => ⟨⟨(), rfl, trivial, by rw [ht]; exact hP, va_K.moved hW.alike hK, hD⟩, hS.F ht⟩) hS.2.2 dX0_appendPair_13
