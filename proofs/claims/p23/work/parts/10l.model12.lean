set_option maxHeartbeats 4000000 in
set_option maxRecDepth 100000 in
theorem c_X4_read (l : Launch) (dC : Nat → ClassId) (dI : Nat → Nat → Nat) (cI : ClassId) (a : Nat → Nat) (sz st us kp ga gl cs : Nat) (mem pl ln km ks kt ku kl kn cd wt : Nat → Nat) (zz : Nat)  (gc : cs ≤ 20000) (g3 : sz ≤ 8192) (g6 : ga ≤ 8192) (g7 : gl ≤ 8192) (bcd : ∀ j, cd j < 256) (bks : ∀ j, ks j < 2 ^ 31) (bkt : ∀ j, kt j < 2 ^ 31) (bku : ∀ j, ku j < 2 ^ 31) (bkl : ∀ j, kl j < 2 ^ 31) (bkn : ∀ j, kn j < 2 ^ 31) (bmem : ∀ j, mem j < 256) (bkm : ∀ j, km j < 256) (bpl : ∀ j, pl j < 2 ^ 31) (bln : ∀ j, ln j < 2 ^ 31) : Met l yX4_read wsX4_read ({ frames := 2, cells := 0, slots := 0, locals := 47 }) (va_Pc [.ref (a 0)] (fun U => U.heap.size = zz ∧ va_P (dC, dI) vwCl (mw cI a sz st us kp ga gl cs mem pl ln km ks kt ku kl kn cd wt) U.heap ∧ va_K (dC, dI) vwCl [(cI, .int)] U ∧ va_D (fun _ => True) (mw cI a sz st us kp ga gl cs mem pl ln km ks kt ku kl kn cd wt))) (va_Qi (fun (r : Int32) (u : Nat × Nat × Nat × (Nat → Nat) × (Nat → Nat) × (Nat → Nat) × (Nat → Nat) × (Nat → Nat) × (Nat → Nat) × (Nat → Nat) × (Nat → Nat) × (Nat → Nat)) => match u with | ⟨sz2, st2, us2, mem2, pl2, ln2, km2, ks2, kt2, ku2, kl2, kn2⟩ => (∀ j, j < 32768 → km2 j = km j) ∧ (∀ j, km2 j < 256) ∧ (∀ j, ¬ j = 4 → ks2 j = ks j ∧ kt2 j = kt j ∧ ku2 j = ku j) ∧ (∀ j, j < 256 → kl2 j = kl j ∧ kn2 j = kn j) ∧ (∀ j, ks2 j < 2 ^ 31 ∧ kt2 j < 2 ^ 31 ∧ ku2 j < 2 ^ 31 ∧ kl2 j < 2 ^ 31 ∧ kn2 j < 2 ^ 31) ∧ (match rdS cs cd with | .inl w => (r = (-100) - nI w ∧ sz2 = sz ∧ st2 = st ∧ us2 = us ∧ mem2 = mem ∧ pl2 = pl ∧ ln2 = ln) | .inr g => (r = nI sz2 ∧ sz2 = tw cd 0 ∧ st2 = tw cd 2 ∧ us2 = tw cd 4 ∧ (∀ j, j < us2 → pl2 j = tw cd (6 + 4 * j) ∧ ln2 j = tw cd (6 + 4 * j + 2)) ∧ (∀ j, j < 8192 → mem2 j = if stay ga gl (bth sz sz2) j then mem j else g j) ∧ (∀ j, mem2 j < 256 ∧ pl2 j < 2 ^ 31 ∧ ln2 j < 2 ^ 31)))) (fun (u : Nat × Nat × Nat × (Nat → Nat) × (Nat → Nat) × (Nat → Nat) × (Nat → Nat) × (Nat → Nat) × (Nat → Nat) × (Nat → Nat) × (Nat → Nat) × (Nat → Nat)) t => match u with | ⟨sz2, st2, us2, mem2, pl2, ln2, km2, ks2, kt2, ku2, kl2, kn2⟩ => va_P (dC, dI) vwCl (mw cI a sz2 st2 us2 kp ga gl cs mem2 pl2 ln2 km2 ks2 kt2 ku2 kl2 kn2 cd wt) t.heap ∧ va_K (dC, dI) vwCl [(cI, .int)] t ∧ va_D (va_A (mw cI a sz st us kp ga gl cs mem pl ln km ks kt ku kl kn cd wt) zz) (mw cI a sz2 st2 us2 kp ga gl cs mem2 pl2 ln2 km2 ks2 kt2 ku2 kl2 kn2 cd wt)) (va_A (mw cI a sz st us kp ga gl cs mem pl ln km ks kt ku kl kn cd wt) zz)) 0 0 (va_A (mw cI a sz st us kp ga gl cs mem pl ln km ks kt ku kl kn cd wt) zz) := by
  refine Met.ofW (cc := cX4_read) (maxL := 7) (ret := (some .int)) (by decide) rfl ?_
  intro p e s m args below meth c s₁ B hml hv
  obtain ⟨rfl, hsz, hP, hK, hD0⟩ := hv
  have hx := B.exec
  have hb := B.bytes
  have hr := B.returns
  have hts := atoms_spec (ws := wsX4_read) B.pre
  have hown : s.vm.findClass RX4 = some m.cls := findClass_of_methodNamed B.named
  have hlocks := B.notSynchronized
  subst hsz
  have hD := hD0.self (sz := s.heap.size)
  generalize hAe : va_A (mw cI a sz st us kp ga gl cs mem pl ln km ks kt ku kl kn cd wt) s.heap.size = A at hD ⊢
  have hA : ∀ q : Nat, s.heap.size ≤ q → A q := fun q h => by rw [← hAe]; exact Or.inr h
  have hS : va_S A s.heap s.heap [] := va_S.rf
  have hP : va_P (dC, dI) vwCl (mw cI a sz st us kp ga gl cs mem pl ln km ks kt ku kl kn cd wt) s.heap := hP
  have in_X4 : ∀ w ∈ wsX40, w ∈ wsX4_read := fun _ h => List.mem_cons_of_mem _ (List.mem_append_right _ h)
  have lk_1 := hts (.fieldLink RX4 20 "GlulxHeapModel" "keptMemory" "[I") (List.mem_of_getElem? (i := 1) rfl)
  have lk_2 := hts (.fieldLink RX4 29 "GlulxHeapModel" "keptUsed" "[I") (List.mem_of_getElem? (i := 2) rfl)
  have lk_3 := hts (.fieldLink RX4 128 "GlulxHeapModel" "codeSize" "I") (List.mem_of_getElem? (i := 3) rfl)
  have lk_4 := hts (.fieldLink RX4 38 "GlulxHeapModel" "code" "[I") (List.mem_of_getElem? (i := 4) rfl)
  have lk_5 := hts (.fieldLink RX4 23 "GlulxHeapModel" "keptSize" "[I") (List.mem_of_getElem? (i := 5) rfl)
  have lk_6 := hts (.fieldLink RX4 44 "GlulxHeapModel" "size" "I") (List.mem_of_getElem? (i := 6) rfl)
  have hl := lv_entry ([.ref (a 0)]) (n := 7) (Nat.le_of_ble_eq_true rfl)
  rw [lg_entry_eq]
  generalize (lg_sl ([.ref (a 0)]) ++ List.replicate (7 - (lg_sl ([.ref (a 0)])).length) Slot.unset).toArray = ls at hl ⊢
  have hl : lv_has ls 7 [(0, .ref (a 0))] := hl
  refine lv_aload_n hx hb dX4_read_0 rfl (lv_at hl 0 rfl) ?_
  have hFc := va_free (wc := mw cI a sz st us kp ga gl cs mem pl ln km ks kt ku kl kn cd wt) hD hS hA [0, 1, 2, 3, 4, 5, 6, 7, 8, 9, 10, 11] rfl
  refine va_calli (va_runV (As := []) (rest := []) ⟨hx, hb, hml, hown, hts⟩ (c_X4_head l dC dI cI a sz st us kp ga gl cs mem pl ln km ks kt ku kl kn cd wt s.heap.size (by omega) bcd bks bkt bku bkl bkn) (cwV 0 hts gX4_read_X4_head rfl rfl rfl (by decide +kernel) ⟨Nat.le_of_ble_eq_true rfl, Nat.le_of_ble_eq_true rfl⟩) ⟨fun a9 U g9 mk9 q9 => by obtain ⟨q0, q1, qP, qK, qD⟩ := q9; exact ⟨q0, q1, qP, va_K.moved (u := U) (U := U.calling g9 mk9 a9) (Vm.Alike.refl U.vm) qK, qD⟩, va_recv hK hP (ci := 4) (q0 := 0) rfl rfl, fun U hU hW => ⟨rfl, by rw [hU], by rw [hU]; exact hP, va_K.moved hW.alike hK, hD.weaken (fun _ _ _ _ => trivial)⟩⟩ rfl rfl hl.1 rfl (lv_room (Nat.le_of_ble_eq_true rfl)) dX4_read_1 ⟨Nat.zero_le _, Nat.zero_le _⟩) hS (fun q _ h => hFc q h) hFc (fun r_1 u t H1 locs ht9 hvm9 hw hB hz9 hk9 hS => ?_)
  obtain ⟨ks2, kt2, ku2, kl2, kn2⟩ := u
  try dsimp only at hw
  obtain ⟨hP1, hK1, hD1⟩ := hB
  rw [ht9] at hP1
  obtain ⟨hP, hD⟩ := va_join (wr := []) (w1 := mw cI a sz st us kp ga gl cs mem pl ln km ks2 kt2 ku2 kl2 kn2 cd wt) hP hD [0, 1, 2, 3, 4, 5, 6, 7, 8, 9, 10, 11] [] rfl rfl (by decide) (by decide) hk9 hFc hP1 hD1
  generalize H1 = H at hP hS ⊢
  have hP : va_P (dC, dI) vwCl (mw cI a sz st us kp ga gl cs mem pl ln km ks2 kt2 ku2 kl2 kn2 cd wt) H := hP
  have hD : va_D A (mw cI a sz st us kp ga gl cs mem pl ln km ks2 kt2 ku2 kl2 kn2 cd wt) := hD
  obtain ⟨hw0, hk1, hk2, hk3, hk4⟩ := hw
  rcases hh : hdS cs cd with _ | w
  · rw [hh] at hw0
    subst hw0
    obtain ⟨hd1, hd2, hd3, hd4⟩ := hk4 hh
    refine lv_istore_n (lv' := [(1, .int ((-1))), (0, .ref (a 0))]) hx hb dX4_read_4 rfl hl (by decide) rfl (fun ls hl => ?_)
    refine lv_iload_n hx hb dX4_read_5 rfl (lv_at hl 0 rfl) ?_
    refine lv_iconst (v := ((-1))) hx hb dX4_read_6 (by decide) ?_
    refine lv_icmp_eq (tgt := 15) hx hb dX4_read_7 (by decide) (fun c_7 => ?_) (fun c_7 => ?_)
    · refine lv_iconst (v := (nI 4)) hx hb dX4_read_15 (by decide) ?_
      refine lv_istore_n (lv' := [(2, .int (nI 4)), (1, .int ((-1))), (0, .ref (a 0))]) hx hb dX4_read_16 rfl hl (by decide) rfl (fun ls hl => ?_)
      refine lv_sipush (v := (nI 8192)) hx hb dX4_read_17 (by decide) ?_
      refine lv_iload_n hx hb dX4_read_20 rfl (lv_at hl 0 rfl) ?_
      refine lv_imul hx hb dX4_read_21 ?_
      refine tpi (pk_mul _ _) ?_
      refine lv_istore_n (lv' := [(3, .int (nI 32768)), (2, .int (nI 4)), (1, .int ((-1))), (0, .ref (a 0))]) hx hb dX4_read_22 rfl hl (by decide) rfl (fun ls hl => ?_)
      refine lv_iconst (v := (nI 0)) hx hb dX4_read_23 (by decide) ?_
      refine lv_istore (lv' := [(4, .int (nI 0)), (3, .int (nI 32768)), (2, .int (nI 4)), (1, .int ((-1))), (0, .ref (a 0))]) hx hb dX4_read_24 hl (by decide) rfl (fun ls hl => ?_)
      refine lp_world (σ := Nat × (Nat → Nat)) (fun ⟨i, f⟩ => i ≤ 8192 ∧ f = blkW km 32768 fst i) (fun ⟨i, f⟩ => 8192 - i) (fun ⟨i, f⟩ => [(4, .int (nI i)), (3, .int (nI 32768)), (2, .int (nI 4)), (1, .int ((-1))), (0, .ref (a 0))]) (fun ⟨i, f⟩ => mw cI a sz st us kp ga gl cs mem pl ln f ks2 kt2 ku2 kl2 kn2 cd wt) ?_ ((0, km)) (⟨by omega, by rw [blkW_0]⟩) (hP) (hD) hS (lv_sub hl [0, 1, 2, 3, 4] rfl)
      intro ⟨i, f⟩ hI ih H locs ls hP hD hS hl
      have hl : lv_has ls 7 [(4, .int (nI i)), (3, .int (nI 32768)), (2, .int (nI 4)), (1, .int ((-1))), (0, .ref (a 0))] := hl
      have hP : va_P (dC, dI) vwCl (mw cI a sz st us kp ga gl cs mem pl ln f ks2 kt2 ku2 kl2 kn2 cd wt) H := hP
      have hD : va_D A (mw cI a sz st us kp ga gl cs mem pl ln f ks2 kt2 ku2 kl2 kn2 cd wt) := hD
      have hI : i ≤ 8192 ∧ f = blkW km 32768 fst i := hI
      obtain ⟨hi, hf⟩ := hI
      have ih_26 := ih
      refine lv_iload hx hb dX4_read_26 (lv_at hl 0 rfl) ?_
      refine lv_sipush (v := (nI 8192)) hx hb dX4_read_28 (by decide) ?_
      refine lv_icmp_ge (tgt := 54) hx hb dX4_read_31 (by decide) (fun c_31 => ?_) (fun c_31 => ?_)
      · have c_31 : 8192 ≤ i := (nI_leI (a := 8192) (b := i) (by omega) (by omega)).mp c_31
        have hi8 : i = 8192 := by omega
        rw [hi8] at hf
        subst hf
        obtain ⟨ho1, ho2, ho3, ho4, ho5, ho6⟩ := hdS_ok hh
        refine lv_iconst (v := (nI 0)) hx hb dX4_read_54 (by decide) ?_
        refine lv_istore (lv' := [(4, .int (nI 0)), (3, .int (nI 32768)), (2, .int (nI 4)), (1, .int ((-1))), (0, .ref (a 0))]) hx hb dX4_read_55 hl (by decide) rfl (fun ls hl => ?_)
        refine lv_bipush (v := (nI 6)) hx hb dX4_read_57 (by decide) ?_
        refine lv_iconst (v := (nI 4)) hx hb dX4_read_59 (by decide) ?_
        refine lv_aload_n hx hb dX4_read_60 rfl (lv_at hl 4 rfl) ?_
        refine va_get (D := (dC, dI)) (ci := 4) (v := .ref (a 7)) (C := RX4) (T := TX4) (N := 18) hx hb hts in_X4 hown hK hP 0 rfl rfl 10 (by decide) lk_2 (fun _ h9 => h9) rfl dX4_read_61 ?_
        refine lv_iload_n hx hb dX4_read_64 rfl (lv_at hl 2 rfl) ?_
        refine va_iald hx hb hK hP 7 0 rfl rfl (vp_in_nI (by omega) (by omega)) dX4_read_65 ?_
        refine tpi (nf_at (by omega)) ?_
        refine lv_imul hx hb dX4_read_66 ?_
        refine tpi (pk_mul _ _) ?_
        refine lv_iadd hx hb dX4_read_67 ?_
        refine tpi (nI_add _ _) ?_
        refine lv_istore (lv' := [(5, .int (nI (6 + (4 * (ku2 4))))), (4, .int (nI 0)), (3, .int (nI 32768)), (2, .int (nI 4)), (1, .int ((-1))), (0, .ref (a 0))]) hx hb dX4_read_68 hl (by decide) rfl (fun ls hl => ?_)
        refine lp_world (σ := Nat × Nat × (Nat → Nat) × (Nat → Nat)) (fun ⟨x, i, f, gg⟩ => x ≤ 20300 ∧ i ≤ ks2 4 ∧ rdS cs cd = rdF cs cd (tw cd 0) x i gg ∧ (∀ j, j < 32768 → f j = km j) ∧ (∀ j, j < 8192 → f (32768 + j) = gg j) ∧ (∀ j, f j < 256)) (fun ⟨x, i, f, gg⟩ => 20300 - x) (fun ⟨x, i, f, gg⟩ => [(5, .int (nI x)), (4, .int (nI i)), (3, .int (nI 32768)), (2, .int (nI 4)), (1, .int ((-1))), (0, .ref (a 0))]) (fun ⟨x, i, f, gg⟩ => mw cI a sz st us kp ga gl cs mem pl ln f ks2 kt2 ku2 kl2 kn2 cd wt) ?_ ((6 + (4 * (ku2 4)), 0, blkW km 32768 fst 8192, fst)) (⟨by omega, by omega, by unfold rdS; rw [hh, hd3], fun j hj => by unfold blkW; rw [if_neg (by omega)], fun j hj => by unfold blkW; rw [if_pos (by omega), Nat.add_sub_cancel_left], fun j => blkW_lt bkm fst_lt j⟩) (hP) (hD) hS (lv_sub hl [0, 1, 2, 3, 4, 5] rfl)
        intro ⟨x, i, f, gg⟩ hI ih H locs ls hP hD hS hl
        have hl : lv_has ls 7 [(5, .int (nI x)), (4, .int (nI i)), (3, .int (nI 32768)), (2, .int (nI 4)), (1, .int ((-1))), (0, .ref (a 0))] := hl
        have hP : va_P (dC, dI) vwCl (mw cI a sz st us kp ga gl cs mem pl ln f ks2 kt2 ku2 kl2 kn2 cd wt) H := hP
        have hD : va_D A (mw cI a sz st us kp ga gl cs mem pl ln f ks2 kt2 ku2 kl2 kn2 cd wt) := hD
        have hI : x ≤ 20300 ∧ i ≤ ks2 4 ∧ rdS cs cd = rdF cs cd (tw cd 0) x i gg ∧ (∀ j, j < 32768 → f j = km j) ∧ (∀ j, j < 8192 → f (32768 + j) = gg j) ∧ (∀ j, f j < 256) := hI
        obtain ⟨hx2, hi2, hv, hf1, hf2, hfb⟩ := hI
        have ih_70 := ih
        refine lv_iload hx hb dX4_read_70 (lv_at hl 0 rfl) ?_
        refine lv_aload_n hx hb dX4_read_72 rfl (lv_at hl 5 rfl) ?_
        refine va_get (D := (dC, dI)) (ci := 4) (v := .int (nI cs)) (C := RX4) (T := TX4) (N := 18) hx hb hts in_X4 hown hK hP 0 rfl rfl 16 (by decide) lk_3 (fun _ h9 => h9) rfl dX4_read_73 ?_
        refine lv_icmp_ge (tgt := 212) hx hb dX4_read_76 (by decide) (fun c_76 => ?_) (fun c_76 => ?_)
        · have c_76 : cs ≤ x := (nI_leI (a := cs) (b := x) (by omega) (by omega)).mp c_76
          refine lv_aload_n hx hb dX4_read_212 rfl (lv_at hl 5 rfl) ?_
          refine lv_iload_n hx hb dX4_read_213 rfl (lv_at hl 3 rfl) ?_
          have hFc := va_free (wc := mw cI a sz st us kp ga gl cs mem pl ln f ks2 kt2 ku2 kl2 kn2 cd wt) hD hS hA [0, 1, 2, 3, 4, 5, 6, 7, 8, 9, 10, 11] rfl
          refine va_callv (va_runV (As := [.int (nI 4)]) (rest := []) ⟨hx, hb, hml, hown, hts⟩ (c_X4_come l dC dI cI a sz st us kp ga gl cs mem pl ln f ks2 kt2 ku2 kl2 kn2 cd wt H.size 4 (by omega) (by omega) (by omega) (by omega) (by omega) (by omega)) (cwV 1 hts gX4_read_X4_come rfl rfl rfl (by decide +kernel) ⟨Nat.le_of_ble_eq_true rfl, Nat.le_of_ble_eq_true rfl⟩) ⟨fun a9 U g9 mk9 q9 => by obtain ⟨q0, q1, qP, qK, qD⟩ := q9; exact ⟨q0, q1, qP, va_K.moved (u := U) (U := U.calling g9 mk9 a9) (Vm.Alike.refl U.vm) qK, qD⟩, va_recv hK hP (ci := 4) (q0 := 0) rfl rfl, fun U hU hW => ⟨rfl, by rw [hU], by rw [hU]; exact hP, va_K.moved hW.alike hK, hD.weaken (fun _ _ _ _ => trivial)⟩⟩ rfl rfl hl.1 rfl (lv_room (Nat.le_of_ble_eq_true rfl)) dX4_read_214 ⟨Nat.zero_le _, Nat.zero_le _⟩) hS (fun q _ h => hFc q h) hFc (fun u t H1 locs ht9 hvm9 hw hB hz9 hk9 hS => ?_)
          obtain ⟨hP1, hK1, hD1⟩ := hB
          rw [ht9] at hP1
          obtain ⟨hP, hD⟩ := va_join (wr := []) (w1 := mw cI a (ks2 4) (kt2 4) (ku2 4) kp ga gl cs (cmW mem f (8192 * 4) ga gl (bth sz (ks2 4)) 8192) (outW pl kl2 (64 * 4) (ku2 4)) (outW ln kn2 (64 * 4) (ku2 4)) f ks2 kt2 ku2 kl2 kn2 cd wt) hP hD [0, 1, 2, 3, 4, 5, 6, 7, 8, 9, 10, 11] [] rfl rfl (by decide) (by decide) hk9 hFc hP1 hD1
          generalize H1 = H at hP hS ⊢
          have hP : va_P (dC, dI) vwCl (mw cI a (ks2 4) (kt2 4) (ku2 4) kp ga gl cs (cmW mem f (8192 * 4) ga gl (bth sz (ks2 4)) 8192) (outW pl kl2 (64 * 4) (ku2 4)) (outW ln kn2 (64 * 4) (ku2 4)) f ks2 kt2 ku2 kl2 kn2 cd wt) H := hP
          have hD : va_D A (mw cI a (ks2 4) (kt2 4) (ku2 4) kp ga gl cs (cmW mem f (8192 * 4) ga gl (bth sz (ks2 4)) 8192) (outW pl kl2 (64 * 4) (ku2 4)) (outW ln kn2 (64 * 4) (ku2 4)) f ks2 kt2 ku2 kl2 kn2 cd wt) := hD
          refine lv_aload_n hx hb dX4_read_217 rfl (lv_at hl 5 rfl) ?_
          refine va_get (D := (dC, dI)) (ci := 4) (v := .int (nI (ks2 4))) (C := RX4) (T := TX4) (N := 18) hx hb hts in_X4 hown hK hP 0 rfl rfl 1 (by decide) lk_6 (fun _ h9 => h9) rfl dX4_read_218 ?_
          have hR9 : rdS cs cd = .inr gg := by rw [hv, rdF, dif_pos (by omega)]
          exact W.iret (v := (nI (ks2 4))) hx hb hr (fun t ht hW => ⟨⟨(nI (ks2 4)), (ks2 4, kt2 4, ku2 4, cmW mem f (8192 * 4) ga gl (bth sz (ks2 4)) 8192, outW pl kl2 (64 * 4) (ku2 4), outW ln kn2 (64 * 4) (ku2 4), f, ks2, kt2, ku2, kl2, kn2), rfl, ⟨hf1, hfb, hk1, hk2, hk3, by rw [hR9]; exact ⟨rfl, hd1, hd2, hd3, fun j hj => ⟨by unfold outW; rw [if_pos hj]; exact (hd4 j (by omega)).1, by unfold outW; rw [if_pos hj]; exact (hd4 j (by omega)).2⟩, fun j hj => by unfold cmW; rw [if_pos hj]; exact if q : stay ga gl (bth sz (ks2 4)) j then by rw [if_pos q, if_pos q] else by rw [if_neg q, if_neg q]; exact hf2 j hj, fun j => ⟨cmW_lt bmem hfb j, outW_lt bpl (fun j => (hk3 j).2.2.2.1) j, outW_lt bln (fun j => (hk3 j).2.2.2.2) j⟩⟩⟩, by rw [ht]; exact hP, va_K.moved hW.alike hK, hD⟩, hS.F ht⟩) hS.2.2 dX4_read_221
        · have c_76 : ¬ cs ≤ x := fun q => c_76 ((nI_leI (a := cs) (b := x) (by omega) (by omega)).mpr q)
          refine lv_aload_n hx hb dX4_read_79 rfl (lv_at hl 5 rfl) ?_
          refine va_get (D := (dC, dI)) (ci := 4) (v := .ref (a 10)) (C := RX4) (T := TX4) (N := 18) hx hb hts in_X4 hown hK hP 0 rfl rfl 15 (by decide) lk_4 (fun _ h9 => h9) rfl dX4_read_80 ?_
          refine lv_iload hx hb dX4_read_83 (lv_at hl 0 rfl) ?_
          refine va_iald hx hb hK hP 10 0 rfl rfl (vp_in_nI (by omega) (by omega)) dX4_read_85 ?_
          refine tpi (nf_at (by omega)) ?_
          have w_85 := bcd x
          refine lv_istore (lv' := [(6, .int (nI (cd x))), (5, .int (nI x)), (4, .int (nI i)), (3, .int (nI 32768)), (2, .int (nI 4)), (1, .int ((-1))), (0, .ref (a 0))]) hx hb dX4_read_86 hl (by decide) rfl (fun ls hl => ?_)
          refine lv_iload hx hb dX4_read_88 (lv_at hl 0 rfl) ?_
          refine lv_if_eq (tgt := 143) hx hb dX4_read_90 (by decide) (fun c_90 => ?_) (fun c_90 => ?_)
          · have c_90 : cd x = 0 := (nZ_eq (by omega)).mp c_90
            refine lv_iload hx hb dX4_read_143 (lv_at hl 1 rfl) ?_
            refine lv_iconst (v := (nI 1)) hx hb dX4_read_145 (by decide) ?_
            refine lv_iadd hx hb dX4_read_146 ?_
            refine tpi (nI_add _ _) ?_
            refine lv_aload_n hx hb dX4_read_147 rfl (lv_at hl 6 rfl) ?_
            refine va_get (D := (dC, dI)) (ci := 4) (v := .int (nI cs)) (C := RX4) (T := TX4) (N := 18) hx hb hts in_X4 hown hK hP 0 rfl rfl 16 (by decide) lk_3 (fun _ h9 => h9) rfl dX4_read_148 ?_
            refine lv_icmp_ne (tgt := 162) hx hb dX4_read_151 (by decide) (fun c_151 => ?_) (fun c_151 => ?_)
            · have c_151 : ¬ x + 1 = cs := fun q => c_151 ((nI_eq (a := x + 1) (b := cs) (by omega) (by omega)).mpr q)
              refine lv_iload hx hb dX4_read_162 (lv_at hl 2 rfl) ?_
              refine lv_aload_n hx hb dX4_read_164 rfl (lv_at hl 6 rfl) ?_
              refine va_get (D := (dC, dI)) (ci := 4) (v := .ref (a 10)) (C := RX4) (T := TX4) (N := 18) hx hb hts in_X4 hown hK hP 0 rfl rfl 15 (by decide) lk_4 (fun _ h9 => h9) rfl dX4_read_165 ?_
              refine lv_iload hx hb dX4_read_168 (lv_at hl 1 rfl) ?_
              refine lv_iconst (v := (nI 1)) hx hb dX4_read_170 (by decide) ?_
              refine lv_iadd hx hb dX4_read_171 ?_
              refine tpi (nI_add _ _) ?_
              refine va_iald hx hb hK hP 10 0 rfl rfl (vp_in_nI (by omega) (by omega)) dX4_read_172 ?_
              refine tpi (nf_at (by omega)) ?_
              have w_172 := bcd (x + 1)
              refine lv_iconst (v := (nI 1)) hx hb dX4_read_173 (by decide) ?_
              refine lv_iadd hx hb dX4_read_174 ?_
              refine tpi (nI_add _ _) ?_
              refine lv_iadd hx hb dX4_read_175 ?_
              refine tpi (nI_add _ _) ?_
              refine lv_istore (lv' := [(4, .int (nI (i + (cd (x + 1) + 1)))), (6, .int (nI (cd x))), (5, .int (nI x)), (3, .int (nI 32768)), (2, .int (nI 4)), (1, .int ((-1))), (0, .ref (a 0))]) hx hb dX4_read_176 hl (by decide) rfl (fun ls hl => ?_)
              refine lv_iload hx hb dX4_read_178 (lv_at hl 0 rfl) ?_
              refine lv_aload_n hx hb dX4_read_180 rfl (lv_at hl 6 rfl) ?_
              refine va_get (D := (dC, dI)) (ci := 4) (v := .ref (a 5)) (C := RX4) (T := TX4) (N := 18) hx hb hts in_X4 hown hK hP 0 rfl rfl 8 (by decide) lk_5 (fun _ h9 => h9) rfl dX4_read_181 ?_
              refine lv_iload_n hx hb dX4_read_184 rfl (lv_at hl 4 rfl) ?_
              refine va_iald hx hb hK hP 5 0 rfl rfl (vp_in_nI (by omega) (by omega)) dX4_read_185 ?_
              refine tpi (nf_at (by omega)) ?_
              refine lv_icmp_gt (tgt := 200) hx hb dX4_read_186 (by decide) (fun c_186 => ?_) (fun c_186 => ?_)
              · have c_186 : ks2 4 < i + (cd (x + 1) + 1) := (nI_ltI (a := ks2 4) (b := i + (cd (x + 1) + 1)) (by omega) (by omega)).mp c_186
                refine lv_bipush (v := ((-100))) hx hb dX4_read_200 (by decide) ?_
                refine lv_iload hx hb dX4_read_202 (lv_at hl 2 rfl) ?_
                refine lv_isub hx hb dX4_read_204 ?_
                have hR9 : rdS cs cd = .inl x := by rw [hv, rdF, dif_neg (by omega), if_neg (fun q => q c_90), if_neg c_151, if_pos (by omega)]
                exact W.iret (v := (((-100)) - (nI x))) hx hb hr (fun t ht hW => ⟨⟨(((-100)) - (nI x)), (sz, st, us, mem, pl, ln, f, ks2, kt2, ku2, kl2, kn2), rfl, ⟨hf1, hfb, hk1, hk2, hk3, by rw [hR9]; exact ⟨rfl, rfl, rfl, rfl, rfl, rfl, rfl⟩⟩, by rw [ht]; exact hP, va_K.moved hW.alike hK, hD⟩, hS.F ht⟩) hS.2.2 dX4_read_205
              · have c_186 : ¬ ks2 4 < i + (cd (x + 1) + 1) := fun q => c_186 ((nI_ltI (a := ks2 4) (b := i + (cd (x + 1) + 1)) (by omega) (by omega)).mpr q)
                refine lv_iload hx hb dX4_read_189 (lv_at hl 2 rfl) ?_
                refine lv_iconst (v := (nI 2)) hx hb dX4_read_191 (by decide) ?_
                refine lv_iadd hx hb dX4_read_192 ?_
                refine tpi (nI_add _ _) ?_
                refine lv_aload_n hx hb dX4_read_193 rfl (lv_at hl 6 rfl) ?_
                refine va_get (D := (dC, dI)) (ci := 4) (v := .int (nI cs)) (C := RX4) (T := TX4) (N := 18) hx hb hts in_X4 hown hK hP 0 rfl rfl 16 (by decide) lk_3 (fun _ h9 => h9) rfl dX4_read_194 ?_
                refine lv_icmp_ne (tgt := 206) hx hb dX4_read_197 (by decide) (fun c_197 => ?_) (fun c_197 => ?_)
                · have c_197 : ¬ x + 2 = cs := fun q => c_197 ((nI_eq (a := x + 2) (b := cs) (by omega) (by omega)).mpr q)
                  refine lv_iinc (v := (nI (x + 2))) (lv' := [(5, .int (nI (x + 2))), (4, .int (nI (i + (cd (x + 1) + 1)))), (6, .int (nI (cd x))), (3, .int (nI 32768)), (2, .int (nI 4)), (1, .int ((-1))), (0, .ref (a 0))]) hx hb dX4_read_206 hl (k := 2) rfl (nI_inc2 _) (by decide) rfl (fun ls hl => ?_)
                  refine lv_goto (tgt := 70) hx hb dX4_read_209 (by decide) ?_
                  exact ih_70 (x + 2, i + (cd (x + 1) + 1), f, gg) (⟨by omega, by omega, by rw [hv, rdF, dif_neg (by omega), if_neg (fun q => q c_90), if_neg c_151, if_neg (by omega)], hf1, hf2, hfb⟩) (show 20300 - (x + 2) < 20300 - x by omega) H locs ls (hP) (hD) hS (lv_sub hl [0, 1, 3, 4, 5, 6] rfl)
                · have c_197 : x + 2 = cs := (nI_eq (a := x + 2) (b := cs) (by omega) (by omega)).mp c_197
                  refine lv_bipush (v := ((-100))) hx hb dX4_read_200 (by decide) ?_
                  refine lv_iload hx hb dX4_read_202 (lv_at hl 2 rfl) ?_
                  refine lv_isub hx hb dX4_read_204 ?_
                  have hR9 : rdS cs cd = .inl x := by rw [hv, rdF, dif_neg (by omega), if_neg (fun q => q c_90), if_neg c_151, if_pos (by omega)]
                  exact W.iret (v := (((-100)) - (nI x))) hx hb hr (fun t ht hW => ⟨⟨(((-100)) - (nI x)), (sz, st, us, mem, pl, ln, f, ks2, kt2, ku2, kl2, kn2), rfl, ⟨hf1, hfb, hk1, hk2, hk3, by rw [hR9]; exact ⟨rfl, rfl, rfl, rfl, rfl, rfl, rfl⟩⟩, by rw [ht]; exact hP, va_K.moved hW.alike hK, hD⟩, hS.F ht⟩) hS.2.2 dX4_read_205
            · have c_151 : x + 1 = cs := (nI_eq (a := x + 1) (b := cs) (by omega) (by omega)).mp c_151
              refine lv_bipush (v := ((-100))) hx hb dX4_read_154 (by decide) ?_
              refine lv_aload_n hx hb dX4_read_156 rfl (lv_at hl 6 rfl) ?_
              refine va_get (D := (dC, dI)) (ci := 4) (v := .int (nI cs)) (C := RX4) (T := TX4) (N := 18) hx hb hts in_X4 hown hK hP 0 rfl rfl 16 (by decide) lk_3 (fun _ h9 => h9) rfl dX4_read_157 ?_
              refine lv_isub hx hb dX4_read_160 ?_
              have hR9 : rdS cs cd = .inl cs := by rw [hv, rdF, dif_neg (by omega), if_neg (fun q => q c_90), if_pos c_151]
              exact W.iret (v := (((-100)) - (nI cs))) hx hb hr (fun t ht hW => ⟨⟨(((-100)) - (nI cs)), (sz, st, us, mem, pl, ln, f, ks2, kt2, ku2, kl2, kn2), rfl, ⟨hf1, hfb, hk1, hk2, hk3, by rw [hR9]; exact ⟨rfl, rfl, rfl, rfl, rfl, rfl, rfl⟩⟩, by rw [ht]; exact hP, va_K.moved hW.alike hK, hD⟩, hS.F ht⟩) hS.2.2 dX4_read_161
          · have c_90 : ¬ cd x = 0 := fun q => c_90 ((nZ_eq (by omega)).mpr q)
            refine lv_iload hx hb dX4_read_93 (lv_at hl 2 rfl) ?_
            refine lv_aload_n hx hb dX4_read_95 rfl (lv_at hl 6 rfl) ?_
            refine va_get (D := (dC, dI)) (ci := 4) (v := .ref (a 5)) (C := RX4) (T := TX4) (N := 18) hx hb hts in_X4 hown hK hP 0 rfl rfl 8 (by decide) lk_5 (fun _ h9 => h9) rfl dX4_read_96 ?_
            refine lv_iload_n hx hb dX4_read_99 rfl (lv_at hl 4 rfl) ?_
            refine va_iald hx hb hK hP 5 0 rfl rfl (vp_in_nI (by omega) (by omega)) dX4_read_100 ?_
            refine tpi (nf_at (by omega)) ?_
            refine lv_icmp_ge (tgt := 111) hx hb dX4_read_101 (by decide) (fun c_101 => ?_) (fun c_101 => ?_)
            · have c_101 : ks2 4 ≤ i := (nI_leI (a := ks2 4) (b := i) (by omega) (by omega)).mp c_101
              refine lv_bipush (v := ((-100))) hx hb dX4_read_111 (by decide) ?_
              refine lv_iload hx hb dX4_read_113 (lv_at hl 1 rfl) ?_
              refine lv_isub hx hb dX4_read_115 ?_
              have hR9 : rdS cs cd = .inl x := by rw [hv, rdF, dif_neg (by omega), if_pos c_90, if_pos (by omega)]
              exact W.iret (v := (((-100)) - (nI x))) hx hb hr (fun t ht hW => ⟨⟨(((-100)) - (nI x)), (sz, st, us, mem, pl, ln, f, ks2, kt2, ku2, kl2, kn2), rfl, ⟨hf1, hfb, hk1, hk2, hk3, by rw [hR9]; exact ⟨rfl, rfl, rfl, rfl, rfl, rfl, rfl⟩⟩, by rw [ht]; exact hP, va_K.moved hW.alike hK, hD⟩, hS.F ht⟩) hS.2.2 dX4_read_116
            · have c_101 : ¬ ks2 4 ≤ i := fun q => c_101 ((nI_leI (a := ks2 4) (b := i) (by omega) (by omega)).mpr q)
              refine lv_iload hx hb dX4_read_104 (lv_at hl 2 rfl) ?_
              refine lv_bipush (v := (nI 64)) hx hb dX4_read_106 (by decide) ?_
              refine lv_icmp_ge (tgt := 117) hx hb dX4_read_108 (by decide) (fun c_108 => ?_) (fun c_108 => ?_)
              · have c_108 : 64 ≤ i := (nI_leI (a := 64) (b := i) (by omega) (by omega)).mp c_108
                refine lv_aload_n hx hb dX4_read_117 rfl (lv_at hl 6 rfl) ?_
                refine va_get (D := (dC, dI)) (ci := 4) (v := .ref (a 4)) (C := RX4) (T := TX4) (N := 18) hx hb hts in_X4 hown hK hP 0 rfl rfl 7 (by decide) lk_1 (fun _ h9 => h9) rfl dX4_read_118 ?_
                refine lv_iload_n hx hb dX4_read_121 rfl (lv_at hl 3 rfl) ?_
                refine lv_iload hx hb dX4_read_122 (lv_at hl 2 rfl) ?_
                refine lv_iadd hx hb dX4_read_124 ?_
                refine tpi (nI_add _ _) ?_
                refine lv_iload hx hb dX4_read_125 (lv_at hl 0 rfl) ?_
                refine lv_iload hx hb dX4_read_127 (lv_at hl 2 rfl) ?_
                refine vp_callSi (W.runS (As := [.int (nI i)]) (rest := [.int (nI (cd x)), .int (nI (32768 + i)), .ref (a 4)]) ⟨hx, hb, hml, hown, hts⟩ (c_X4_first l i (by omega)) (va_cwS 1 hts gX4_read_X4_first rfl rfl rfl (by decide +kernel) ⟨Nat.le_of_ble_eq_true rfl, Nat.le_of_ble_eq_true rfl⟩) ⟨fun a9 U g9 mk9 q9 => ⟨q9.1, trivial⟩, fun U hU hW => ⟨rfl, trivial⟩⟩ rfl rfl hl.1 rfl (lv_room (Nat.le_of_ble_eq_true rfl)) dX4_read_129 ⟨Nat.zero_le _, Nat.zero_le _⟩) (fun r_129 hw => ?_)
                try dsimp only at hw
                subst hw
                have wf_129 := fst_lt i
                refine lv_ixor hx hb dX4_read_132 ?_
                refine tpi (xorN _ _) ?_
                refine va_iast hx hb hK hP hD hS 4 0 rfl rfl (vp_in_nI (by omega) (by omega)) dX4_read_133 (fun H locs hP hD hS => ?_)
                rw [nf_up (by omega)] at hP hD
                have hP : va_P (dC, dI) vwCl (mw cI a sz st us kp ga gl cs mem pl ln (va_up f (32768 + i) (cd x ^^^ fst i)) ks2 kt2 ku2 kl2 kn2 cd wt) H := hP
                have hD : va_D A (mw cI a sz st us kp ga gl cs mem pl ln (va_up f (32768 + i) (cd x ^^^ fst i)) ks2 kt2 ku2 kl2 kn2 cd wt) := hD
                refine lv_iinc (v := (nI (i + 1))) (lv' := [(4, .int (nI (i + 1))), (6, .int (nI (cd x))), (5, .int (nI x)), (3, .int (nI 32768)), (2, .int (nI 4)), (1, .int ((-1))), (0, .ref (a 0))]) hx hb dX4_read_134 hl (k := 2) rfl (nI_inc _) (by decide) rfl (fun ls hl => ?_)
                refine lv_iinc (v := (nI (x + 1))) (lv' := [(5, .int (nI (x + 1))), (4, .int (nI (i + 1))), (6, .int (nI (cd x))), (3, .int (nI 32768)), (2, .int (nI 4)), (1, .int ((-1))), (0, .ref (a 0))]) hx hb dX4_read_137 hl (k := 2) rfl (nI_inc _) (by decide) rfl (fun ls hl => ?_)
                refine lv_goto (tgt := 209) hx hb dX4_read_140 (by decide) ?_
                refine lv_goto (tgt := 70) hx hb dX4_read_209 (by decide) ?_
                exact ih_70 (x + 1, i + 1, va_up f (32768 + i) (cd x ^^^ fst i), va_up gg i (cd x ^^^ fst i)) (⟨by omega, by omega, by rw [hv, rdF, dif_neg (by omega), if_pos c_90, if_neg (by omega)], fun j hj => by rw [va_up_ne _ _ (by omega)]; exact hf1 j hj, fun j hj => if q : j = i then by rw [q, va_up_self, va_up_self] else by rw [va_up_ne _ _ (by omega), va_up_ne _ _ q]; exact hf2 j hj, fun j => up_lt hfb (Nat.xor_lt_two_pow (n := 8) (bcd x) (fst_lt i)) j⟩) (show 20300 - (x + 1) < 20300 - x by omega) H locs ls (hP) (hD) hS (lv_sub hl [0, 1, 3, 4, 5, 6] rfl)
              · have c_108 : ¬ 64 ≤ i := fun q => c_108 ((nI_leI (a := 64) (b := i) (by omega) (by omega)).mpr q)
                refine lv_bipush (v := ((-100))) hx hb dX4_read_111 (by decide) ?_
                refine lv_iload hx hb dX4_read_113 (lv_at hl 1 rfl) ?_
                refine lv_isub hx hb dX4_read_115 ?_
                have hR9 : rdS cs cd = .inl x := by rw [hv, rdF, dif_neg (by omega), if_pos c_90, if_pos (by omega)]
                exact W.iret (v := (((-100)) - (nI x))) hx hb hr (fun t ht hW => ⟨⟨(((-100)) - (nI x)), (sz, st, us, mem, pl, ln, f, ks2, kt2, ku2, kl2, kn2), rfl, ⟨hf1, hfb, hk1, hk2, hk3, by rw [hR9]; exact ⟨rfl, rfl, rfl, rfl, rfl, rfl, rfl⟩⟩, by rw [ht]; exact hP, va_K.moved hW.alike hK, hD⟩, hS.F ht⟩) hS.2.2 dX4_read_116
      · have c_31 : ¬ 8192 ≤ i := fun q => c_31 ((nI_leI (a := 8192) (b := i) (by omega) (by omega)).mpr q)
        refine lv_aload_n hx hb dX4_read_34 rfl (lv_at hl 4 rfl) ?_
        refine va_get (D := (dC, dI)) (ci := 4) (v := .ref (a 4)) (C := RX4) (T := TX4) (N := 18) hx hb hts in_X4 hown hK hP 0 rfl rfl 7 (by decide) lk_1 (fun _ h9 => h9) rfl dX4_read_35 ?_
        refine lv_iload_n hx hb dX4_read_38 rfl (lv_at hl 1 rfl) ?_
        refine lv_iload hx hb dX4_read_39 (lv_at hl 0 rfl) ?_
        refine lv_iadd hx hb dX4_read_41 ?_
        refine tpi (nI_add _ _) ?_
        refine lv_iload hx hb dX4_read_42 (lv_at hl 0 rfl) ?_
        refine vp_callSi (W.runS (As := [.int (nI i)]) (rest := [.int (nI (32768 + i)), .ref (a 4)]) ⟨hx, hb, hml, hown, hts⟩ (c_X4_first l i (by omega)) (va_cwS 1 hts gX4_read_X4_first rfl rfl rfl (by decide +kernel) ⟨Nat.le_of_ble_eq_true rfl, Nat.le_of_ble_eq_true rfl⟩) ⟨fun a9 U g9 mk9 q9 => ⟨q9.1, trivial⟩, fun U hU hW => ⟨rfl, trivial⟩⟩ rfl rfl hl.1 rfl (lv_room (Nat.le_of_ble_eq_true rfl)) dX4_read_44 ⟨Nat.zero_le _, Nat.zero_le _⟩) (fun r_44 hw => ?_)
        try dsimp only at hw
        subst hw
        have wf_44 := fst_lt i
        refine va_iast hx hb hK hP hD hS 4 0 rfl rfl (vp_in_nI (by omega) (by omega)) dX4_read_47 (fun H locs hP hD hS => ?_)
        rw [nf_up (by omega)] at hP hD
        have hP : va_P (dC, dI) vwCl (mw cI a sz st us kp ga gl cs mem pl ln (va_up f (32768 + i) (fst i)) ks2 kt2 ku2 kl2 kn2 cd wt) H := hP
        have hD : va_D A (mw cI a sz st us kp ga gl cs mem pl ln (va_up f (32768 + i) (fst i)) ks2 kt2 ku2 kl2 kn2 cd wt) := hD
        refine lv_iinc (v := (nI (i + 1))) (lv' := [(4, .int (nI (i + 1))), (3, .int (nI 32768)), (2, .int (nI 4)), (1, .int ((-1))), (0, .ref (a 0))]) hx hb dX4_read_48 hl (k := 0) rfl (nI_inc _) (by decide) rfl (fun ls hl => ?_)
        refine lv_goto (tgt := 26) hx hb dX4_read_51 (by decide) ?_
        exact ih_26 (i + 1, va_up f (32768 + i) (fst i)) (⟨by omega, by rw [hf, blkW_s rfl]⟩) (show 8192 - (i + 1) < 8192 - i by omega) H locs ls (hP) (hD) hS (lv_sub hl [0, 1, 2, 3, 4] rfl)
    · exact absurd c_7 (by decide)
  · rw [hh] at hw0
    subst hw0
    have hwl := hdS_lt hh
    refine lv_istore_n (lv' := [(1, .int (nI w)), (0, .ref (a 0))]) hx hb dX4_read_4 rfl hl (by decide) rfl (fun ls hl => ?_)
    refine lv_iload_n hx hb dX4_read_5 rfl (lv_at hl 0 rfl) ?_
    refine lv_iconst (v := ((-1))) hx hb dX4_read_6 (by decide) ?_
    refine lv_icmp_eq (tgt := 15) hx hb dX4_read_7 (by decide) (fun c_7 => ?_) (fun c_7 => ?_)
    · skip
      exact absurd c_7 (nI_m1 (by omega))
    · refine lv_bipush (v := ((-100))) hx hb dX4_read_10 (by decide) ?_
      refine lv_iload_n hx hb dX4_read_12 rfl (lv_at hl 0 rfl) ?_
      refine lv_isub hx hb dX4_read_13 ?_
      have hR9 : rdS cs cd = .inl w := by unfold rdS; rw [hh]
      exact W.iret (v := (((-100)) - (nI w))) hx hb hr (fun t ht hW => ⟨⟨(((-100)) - (nI w)), (sz, st, us, mem, pl, ln, km, ks2, kt2, ku2, kl2, kn2), rfl, ⟨fun j _ => rfl, bkm, hk1, hk2, hk3, by rw [hR9]; exact ⟨rfl, rfl, rfl, rfl, rfl, rfl, rfl⟩⟩, by rw [ht]; exact hP, va_K.moved hW.alike hK, hD⟩, hS.F ht⟩) hS.2.2 dX4_read_14
