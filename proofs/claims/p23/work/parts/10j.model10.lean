set_option maxHeartbeats 4000000 in
set_option maxRecDepth 100000 in
theorem c_X4_write (l : Launch) (dC : Nat → ClassId) (dI : Nat → Nat → Nat) (cI : ClassId) (a : Nat → Nat) (sz st us kp ga gl cs : Nat) (mem pl ln km ks kt ku kl kn cd wt : Nat → Nat) (zz : Nat)  (gw : wfB sz st us pl ln) (bmem : ∀ j, mem j < 256) (bpl : ∀ j, pl j < 2 ^ 31) (bln : ∀ j, ln j < 2 ^ 31) (bcd : ∀ j, cd j < 256) : Met l yX4_write wsX4_write ({ frames := 2, cells := 0, slots := 0, locals := 42 }) (va_Pc [.ref (a 0)] (fun U => U.heap.size = zz ∧ va_P (dC, dI) vwCl (mw cI a sz st us kp ga gl cs mem pl ln km ks kt ku kl kn cd wt) U.heap ∧ va_K (dC, dI) vwCl [(cI, .int)] U ∧ va_D (fun _ => True) (mw cI a sz st us kp ga gl cs mem pl ln km ks kt ku kl kn cd wt))) (va_Qi (fun (r : Int32) (u : Nat × (Nat → Nat)) => match u with | ⟨cs2, cd2⟩ => r = nI cs2 ∧ Pre cs2 cd2 (wcode sz st us pl ln mem) ∧ cs2 ≤ 20000 ∧ ∀ j, cd2 j < 256) (fun (u : Nat × (Nat → Nat)) t => match u with | ⟨cs2, cd2⟩ => va_P (dC, dI) vwCl (mw cI a sz st us kp ga gl cs2 mem pl ln km ks kt ku kl kn cd2 wt) t.heap ∧ va_K (dC, dI) vwCl [(cI, .int)] t ∧ va_D (va_A (mw cI a sz st us kp ga gl cs mem pl ln km ks kt ku kl kn cd wt) zz) (mw cI a sz st us kp ga gl cs2 mem pl ln km ks kt ku kl kn cd2 wt)) (va_A (mw cI a sz st us kp ga gl cs mem pl ln km ks kt ku kl kn cd wt) zz)) 0 0 (va_A (mw cI a sz st us kp ga gl cs mem pl ln km ks kt ku kl kn cd wt) zz) := by
  refine Met.ofW (cc := cX4_write) (maxL := 5) (ret := (some .int)) (by decide) rfl ?_
  intro p e s m args below meth c s₁ B hml hv
  obtain ⟨rfl, hsz, hP, hK, hD0⟩ := hv
  have hx := B.exec
  have hb := B.bytes
  have hr := B.returns
  have hts := atoms_spec (ws := wsX4_write) B.pre
  have hown : s.vm.findClass RX4 = some m.cls := findClass_of_methodNamed B.named
  have hlocks := B.notSynchronized
  subst hsz
  have hD := hD0.self (sz := s.heap.size)
  generalize hAe : va_A (mw cI a sz st us kp ga gl cs mem pl ln km ks kt ku kl kn cd wt) s.heap.size = A at hD ⊢
  have hA : ∀ q : Nat, s.heap.size ≤ q → A q := fun q h => by rw [← hAe]; exact Or.inr h
  have hS : va_S A s.heap s.heap [] := va_S.rf
  have hP : va_P (dC, dI) vwCl (mw cI a sz st us kp ga gl cs mem pl ln km ks kt ku kl kn cd wt) s.heap := hP
  have in_X4 : ∀ w ∈ wsX40, w ∈ wsX4_write := fun _ h => List.mem_cons_of_mem _ (List.mem_append_right _ h)
  have lk_1 := hts (.fieldLink RX4 128 "GlulxHeapModel" "codeSize" "I") (List.mem_of_getElem? (i := 1) rfl)
  have lk_2 := hts (.fieldLink RX4 44 "GlulxHeapModel" "size" "I") (List.mem_of_getElem? (i := 2) rfl)
  have lk_3 := hts (.fieldLink RX4 78 "GlulxHeapModel" "start" "I") (List.mem_of_getElem? (i := 3) rfl)
  have lk_4 := hts (.fieldLink RX4 71 "GlulxHeapModel" "used" "I") (List.mem_of_getElem? (i := 4) rfl)
  have lk_5 := hts (.fieldLink RX4 13 "GlulxHeapModel" "place" "[I") (List.mem_of_getElem? (i := 5) rfl)
  have lk_6 := hts (.fieldLink RX4 16 "GlulxHeapModel" "length" "[I") (List.mem_of_getElem? (i := 6) rfl)
  have lk_7 := hts (.fieldLink RX4 7 "GlulxHeapModel" "memory" "[I") (List.mem_of_getElem? (i := 7) rfl)
  have hl := lv_entry ([.ref (a 0)]) (n := 5) (Nat.le_of_ble_eq_true rfl)
  rw [lg_entry_eq]
  generalize (lg_sl ([.ref (a 0)]) ++ List.replicate (5 - (lg_sl ([.ref (a 0)])).length) Slot.unset).toArray = ls at hl ⊢
  have hl : lv_has ls 5 [(0, .ref (a 0))] := hl
  obtain ⟨gw1, gw2, gw3, gw4, gw5, gw6⟩ := id gw
  refine lv_aload_n hx hb dX4_write_0 rfl (lv_at hl 0 rfl) ?_
  refine lv_iconst (v := (nI 0)) hx hb dX4_write_1 (by decide) ?_
  refine va_put (D := (dC, dI)) (ci := 4) (v := .int (nI 0)) (ty := .int) (C := RX4) (T := TX4) (N := 18) hx hb hts in_X4 tyX4 tyX4_ok nmX4 hown hK hP hD hS 0 rfl rfl 16 (by decide) lk_1 (fun _ h9 => h9) rfl (by decide +kernel) rfl rfl (Nat.le_of_ble_eq_true rfl) dX4_write_2 (fun H locs hP hD hS => ?_)
  have hP : va_P (dC, dI) vwCl (mw cI a sz st us kp ga gl 0 mem pl ln km ks kt ku kl kn cd wt) H := hP
  have hD : va_D A (mw cI a sz st us kp ga gl 0 mem pl ln km ks kt ku kl kn cd wt) := hD
  refine lv_aload_n hx hb dX4_write_5 rfl (lv_at hl 0 rfl) ?_
  refine lv_aload_n hx hb dX4_write_6 rfl (lv_at hl 0 rfl) ?_
  refine va_get (D := (dC, dI)) (ci := 4) (v := .int (nI sz)) (C := RX4) (T := TX4) (N := 18) hx hb hts in_X4 hown hK hP 0 rfl rfl 1 (by decide) lk_2 (fun _ h9 => h9) rfl dX4_write_7 ?_
  have hFc := va_free (wc := mw cI a sz st us kp ga gl 0 mem pl ln km ks kt ku kl kn cd wt) hD hS hA [0, 1, 2, 3, 4, 5, 6, 7, 8, 9, 10, 11] rfl
  refine va_callv (va_runV (As := [.int (nI sz)]) (rest := []) ⟨hx, hb, hml, hown, hts⟩ (c_X4_putTwo l dC dI cI a sz st us kp ga gl 0 mem pl ln km ks kt ku kl kn cd wt H.size sz (by omega) (by omega)) (cwV 1 hts gX4_write_X4_putTwo rfl rfl rfl (by decide +kernel) ⟨Nat.le_of_ble_eq_true rfl, Nat.le_of_ble_eq_true rfl⟩) ⟨fun a9 U g9 mk9 q9 => by obtain ⟨q0, q1, qP, qK, qD⟩ := q9; exact ⟨q0, q1, qP, va_K.moved (u := U) (U := U.calling g9 mk9 a9) (Vm.Alike.refl U.vm) qK, qD⟩, va_recv hK hP (ci := 4) (q0 := 0) rfl rfl, fun U hU hW => ⟨rfl, by rw [hU], by rw [hU]; exact hP, va_K.moved hW.alike hK, hD.weaken (fun _ _ _ _ => trivial)⟩⟩ rfl rfl hl.1 rfl (lv_room (Nat.le_of_ble_eq_true rfl)) dX4_write_10 ⟨Nat.zero_le _, Nat.zero_le _⟩) hS (fun q _ h => hFc q h) hFc (fun u t H1 locs ht hvm hw hB hz1 hk1 hS => ?_)
  obtain ⟨hP1, hK1, hD1⟩ := hB
  rw [ht] at hP1
  obtain ⟨hP, hD⟩ := va_join (wr := []) (w1 := mw cI a sz st us kp ga gl (0 + 1 + 1) mem pl ln km ks kt ku kl kn (va_up (va_up cd 0 (sz / 2 ^ 8 % 256)) (0 + 1) (sz % 256)) wt) hP hD [0, 1, 2, 3, 4, 5, 6, 7, 8, 9, 10, 11] [] rfl rfl (by decide) (by decide) hk1 hFc hP1 hD1
  generalize H1 = H at hP hS ⊢
  have hP : va_P (dC, dI) vwCl (mw cI a sz st us kp ga gl (0 + 1 + 1) mem pl ln km ks kt ku kl kn (va_up (va_up cd 0 (sz / 2 ^ 8 % 256)) (0 + 1) (sz % 256)) wt) H := hP
  have hD : va_D A (mw cI a sz st us kp ga gl (0 + 1 + 1) mem pl ln km ks kt ku kl kn (va_up (va_up cd 0 (sz / 2 ^ 8 % 256)) (0 + 1) (sz % 256)) wt) := hD
  refine lv_aload_n hx hb dX4_write_13 rfl (lv_at hl 0 rfl) ?_
  refine lv_aload_n hx hb dX4_write_14 rfl (lv_at hl 0 rfl) ?_
  refine va_get (D := (dC, dI)) (ci := 4) (v := .int (nI st)) (C := RX4) (T := TX4) (N := 18) hx hb hts in_X4 hown hK hP 0 rfl rfl 2 (by decide) lk_3 (fun _ h9 => h9) rfl dX4_write_15 ?_
  have hFc := va_free (wc := mw cI a sz st us kp ga gl (0 + 1 + 1) mem pl ln km ks kt ku kl kn (va_up (va_up cd 0 (sz / 2 ^ 8 % 256)) (0 + 1) (sz % 256)) wt) hD hS hA [0, 1, 2, 3, 4, 5, 6, 7, 8, 9, 10, 11] rfl
  refine va_callv (va_runV (As := [.int (nI st)]) (rest := []) ⟨hx, hb, hml, hown, hts⟩ (c_X4_putTwo l dC dI cI a sz st us kp ga gl (0 + 1 + 1) mem pl ln km ks kt ku kl kn (va_up (va_up cd 0 (sz / 2 ^ 8 % 256)) (0 + 1) (sz % 256)) wt H.size st (by omega) (by omega)) (cwV 1 hts gX4_write_X4_putTwo rfl rfl rfl (by decide +kernel) ⟨Nat.le_of_ble_eq_true rfl, Nat.le_of_ble_eq_true rfl⟩) ⟨fun a9 U g9 mk9 q9 => by obtain ⟨q0, q1, qP, qK, qD⟩ := q9; exact ⟨q0, q1, qP, va_K.moved (u := U) (U := U.calling g9 mk9 a9) (Vm.Alike.refl U.vm) qK, qD⟩, va_recv hK hP (ci := 4) (q0 := 0) rfl rfl, fun U hU hW => ⟨rfl, by rw [hU], by rw [hU]; exact hP, va_K.moved hW.alike hK, hD.weaken (fun _ _ _ _ => trivial)⟩⟩ rfl rfl hl.1 rfl (lv_room (Nat.le_of_ble_eq_true rfl)) dX4_write_18 ⟨Nat.zero_le _, Nat.zero_le _⟩) hS (fun q _ h => hFc q h) hFc (fun u t H1 locs ht hvm hw hB hz1 hk1 hS => ?_)
  obtain ⟨hP1, hK1, hD1⟩ := hB
  rw [ht] at hP1
  obtain ⟨hP, hD⟩ := va_join (wr := []) (w1 := mw cI a sz st us kp ga gl (0 + 1 + 1 + 1 + 1) mem pl ln km ks kt ku kl kn (va_up (va_up (va_up (va_up cd 0 (sz / 2 ^ 8 % 256)) (0 + 1) (sz % 256)) (0 + 1 + 1) (st / 2 ^ 8 % 256)) (0 + 1 + 1 + 1) (st % 256)) wt) hP hD [0, 1, 2, 3, 4, 5, 6, 7, 8, 9, 10, 11] [] rfl rfl (by decide) (by decide) hk1 hFc hP1 hD1
  generalize H1 = H at hP hS ⊢
  have hP : va_P (dC, dI) vwCl (mw cI a sz st us kp ga gl (0 + 1 + 1 + 1 + 1) mem pl ln km ks kt ku kl kn (va_up (va_up (va_up (va_up cd 0 (sz / 2 ^ 8 % 256)) (0 + 1) (sz % 256)) (0 + 1 + 1) (st / 2 ^ 8 % 256)) (0 + 1 + 1 + 1) (st % 256)) wt) H := hP
  have hD : va_D A (mw cI a sz st us kp ga gl (0 + 1 + 1 + 1 + 1) mem pl ln km ks kt ku kl kn (va_up (va_up (va_up (va_up cd 0 (sz / 2 ^ 8 % 256)) (0 + 1) (sz % 256)) (0 + 1 + 1) (st / 2 ^ 8 % 256)) (0 + 1 + 1 + 1) (st % 256)) wt) := hD
  refine lv_aload_n hx hb dX4_write_21 rfl (lv_at hl 0 rfl) ?_
  refine lv_aload_n hx hb dX4_write_22 rfl (lv_at hl 0 rfl) ?_
  refine va_get (D := (dC, dI)) (ci := 4) (v := .int (nI us)) (C := RX4) (T := TX4) (N := 18) hx hb hts in_X4 hown hK hP 0 rfl rfl 3 (by decide) lk_4 (fun _ h9 => h9) rfl dX4_write_23 ?_
  have hFc := va_free (wc := mw cI a sz st us kp ga gl (0 + 1 + 1 + 1 + 1) mem pl ln km ks kt ku kl kn (va_up (va_up (va_up (va_up cd 0 (sz / 2 ^ 8 % 256)) (0 + 1) (sz % 256)) (0 + 1 + 1) (st / 2 ^ 8 % 256)) (0 + 1 + 1 + 1) (st % 256)) wt) hD hS hA [0, 1, 2, 3, 4, 5, 6, 7, 8, 9, 10, 11] rfl
  refine va_callv (va_runV (As := [.int (nI us)]) (rest := []) ⟨hx, hb, hml, hown, hts⟩ (c_X4_putTwo l dC dI cI a sz st us kp ga gl (0 + 1 + 1 + 1 + 1) mem pl ln km ks kt ku kl kn (va_up (va_up (va_up (va_up cd 0 (sz / 2 ^ 8 % 256)) (0 + 1) (sz % 256)) (0 + 1 + 1) (st / 2 ^ 8 % 256)) (0 + 1 + 1 + 1) (st % 256)) wt H.size us (by omega) (by omega)) (cwV 1 hts gX4_write_X4_putTwo rfl rfl rfl (by decide +kernel) ⟨Nat.le_of_ble_eq_true rfl, Nat.le_of_ble_eq_true rfl⟩) ⟨fun a9 U g9 mk9 q9 => by obtain ⟨q0, q1, qP, qK, qD⟩ := q9; exact ⟨q0, q1, qP, va_K.moved (u := U) (U := U.calling g9 mk9 a9) (Vm.Alike.refl U.vm) qK, qD⟩, va_recv hK hP (ci := 4) (q0 := 0) rfl rfl, fun U hU hW => ⟨rfl, by rw [hU], by rw [hU]; exact hP, va_K.moved hW.alike hK, hD.weaken (fun _ _ _ _ => trivial)⟩⟩ rfl rfl hl.1 rfl (lv_room (Nat.le_of_ble_eq_true rfl)) dX4_write_26 ⟨Nat.zero_le _, Nat.zero_le _⟩) hS (fun q _ h => hFc q h) hFc (fun u t H1 locs ht hvm hw hB hz1 hk1 hS => ?_)
  obtain ⟨hP1, hK1, hD1⟩ := hB
  rw [ht] at hP1
  obtain ⟨hP, hD⟩ := va_join (wr := []) (w1 := mw cI a sz st us kp ga gl (0 + 1 + 1 + 1 + 1 + 1 + 1) mem pl ln km ks kt ku kl kn (va_up (va_up (va_up (va_up (va_up (va_up cd 0 (sz / 2 ^ 8 % 256)) (0 + 1) (sz % 256)) (0 + 1 + 1) (st / 2 ^ 8 % 256)) (0 + 1 + 1 + 1) (st % 256)) (0 + 1 + 1 + 1 + 1) (us / 2 ^ 8 % 256)) (0 + 1 + 1 + 1 + 1 + 1) (us % 256)) wt) hP hD [0, 1, 2, 3, 4, 5, 6, 7, 8, 9, 10, 11] [] rfl rfl (by decide) (by decide) hk1 hFc hP1 hD1
  generalize H1 = H at hP hS ⊢
  have hP : va_P (dC, dI) vwCl (mw cI a sz st us kp ga gl (0 + 1 + 1 + 1 + 1 + 1 + 1) mem pl ln km ks kt ku kl kn (va_up (va_up (va_up (va_up (va_up (va_up cd 0 (sz / 2 ^ 8 % 256)) (0 + 1) (sz % 256)) (0 + 1 + 1) (st / 2 ^ 8 % 256)) (0 + 1 + 1 + 1) (st % 256)) (0 + 1 + 1 + 1 + 1) (us / 2 ^ 8 % 256)) (0 + 1 + 1 + 1 + 1 + 1) (us % 256)) wt) H := hP
  have hD : va_D A (mw cI a sz st us kp ga gl (0 + 1 + 1 + 1 + 1 + 1 + 1) mem pl ln km ks kt ku kl kn (va_up (va_up (va_up (va_up (va_up (va_up cd 0 (sz / 2 ^ 8 % 256)) (0 + 1) (sz % 256)) (0 + 1 + 1) (st / 2 ^ 8 % 256)) (0 + 1 + 1 + 1) (st % 256)) (0 + 1 + 1 + 1 + 1) (us / 2 ^ 8 % 256)) (0 + 1 + 1 + 1 + 1 + 1) (us % 256)) wt) := hD
  have pr0 := Pre_two (Pre_two (Pre_two (Pre_0 cd) sz) st) us
  have bc0 : ∀ j, (va_up (va_up (va_up (va_up (va_up (va_up cd 0 (sz / 2 ^ 8 % 256)) (0 + 1) (sz % 256)) (0 + 1 + 1) (st / 2 ^ 8 % 256)) (0 + 1 + 1 + 1) (st % 256)) (0 + 1 + 1 + 1 + 1) (us / 2 ^ 8 % 256)) (0 + 1 + 1 + 1 + 1 + 1) (us % 256)) j < 256 := fun j => up_lt (up_lt (up_lt (up_lt (up_lt (up_lt bcd (Nat.mod_lt _ (by decide))) (Nat.mod_lt _ (by decide))) (Nat.mod_lt _ (by decide))) (Nat.mod_lt _ (by decide))) (Nat.mod_lt _ (by decide))) (Nat.mod_lt _ (by decide)) j
  refine lv_iconst (v := (nI 0)) hx hb dX4_write_29 (by decide) ?_
  refine lv_istore_n (lv' := [(1, .int (nI 0)), (0, .ref (a 0))]) hx hb dX4_write_30 rfl hl (by decide) rfl (fun ls hl => ?_)
  refine lp_world (σ := Nat × Nat × (Nat → Nat)) (fun ⟨i, g, f⟩ => i ≤ us ∧ Pre g f ([] ++ twoL sz ++ twoL st ++ twoL us ++ blkL pl ln i) ∧ g = 6 + 4 * i ∧ (∀ j, f j < 256)) (fun ⟨i, g, f⟩ => us - i) (fun ⟨i, g, f⟩ => [(1, .int (nI i)), (0, .ref (a 0))]) (fun ⟨i, g, f⟩ => mw cI a sz st us kp ga gl g mem pl ln km ks kt ku kl kn f wt) ?_ ((0, 0 + 1 + 1 + 1 + 1 + 1 + 1, va_up (va_up (va_up (va_up (va_up (va_up cd 0 (sz / 2 ^ 8 % 256)) (0 + 1) (sz % 256)) (0 + 1 + 1) (st / 2 ^ 8 % 256)) (0 + 1 + 1 + 1) (st % 256)) (0 + 1 + 1 + 1 + 1) (us / 2 ^ 8 % 256)) (0 + 1 + 1 + 1 + 1 + 1) (us % 256))) (⟨by omega, by rw [show blkL pl ln 0 = [] from rfl, List.append_nil]; exact pr0, rfl, bc0⟩) (hP) (hD) hS (lv_sub hl [0, 1] rfl)
  intro ⟨i, g, f⟩ hI ih H locs ls hP hD hS hl
  have hl : lv_has ls 5 [(1, .int (nI i)), (0, .ref (a 0))] := hl
  have hP : va_P (dC, dI) vwCl (mw cI a sz st us kp ga gl g mem pl ln km ks kt ku kl kn f wt) H := hP
  have hD : va_D A (mw cI a sz st us kp ga gl g mem pl ln km ks kt ku kl kn f wt) := hD
  have hI : i ≤ us ∧ Pre g f ([] ++ twoL sz ++ twoL st ++ twoL us ++ blkL pl ln i) ∧ g = 6 + 4 * i ∧ (∀ j, f j < 256) := hI
  obtain ⟨hi, hpr, hg6, hbf⟩ := hI
  have ih_31 := ih
  refine lv_iload_n hx hb dX4_write_31 rfl (lv_at hl 0 rfl) ?_
  refine lv_aload_n hx hb dX4_write_32 rfl (lv_at hl 1 rfl) ?_
  refine va_get (D := (dC, dI)) (ci := 4) (v := .int (nI us)) (C := RX4) (T := TX4) (N := 18) hx hb hts in_X4 hown hK hP 0 rfl rfl 3 (by decide) lk_4 (fun _ h9 => h9) rfl dX4_write_33 ?_
  refine lv_icmp_ge (tgt := 65) hx hb dX4_write_36 (by decide) (fun c_36 => ?_) (fun c_36 => ?_)
  · have c_36 : us ≤ i := (nI_leI (a := us) (b := i) (by omega) (by omega)).mp c_36
    have hiu : i = us := by omega
    have hlen : g = 6 + 4 * us := by rw [hpr.1, List.length_append, blkL_len, hiu]; rfl
    have pr1 : Pre g f ([] ++ twoL sz ++ twoL st ++ twoL us ++ blkL pl ln us) := by have q := hpr; rw [hiu] at q; exact q
    refine lv_aload_n hx hb dX4_write_65 rfl (lv_at hl 1 rfl) ?_
    refine va_get (D := (dC, dI)) (ci := 4) (v := .int (nI sz)) (C := RX4) (T := TX4) (N := 18) hx hb hts in_X4 hown hK hP 0 rfl rfl 1 (by decide) lk_2 (fun _ h9 => h9) rfl dX4_write_66 ?_
    refine lv_iconst (v := (nI 1)) hx hb dX4_write_69 (by decide) ?_
    refine lv_isub hx hb dX4_write_70 ?_
    refine tpi (rfl) ?_
    refine lv_istore_n (lv' := [(1, .int (lst sz)), (0, .ref (a 0))]) hx hb dX4_write_71 rfl hl (by decide) rfl (fun ls hl => ?_)
    refine lp_still (σ := Nat) (fun ed => ed ≤ sz ∧ endF (dif mem) sz = endF (dif mem) ed) (fun ed => ed) (fun ed => [(1, .int (lst ed)), (0, .ref (a 0))]) ?_ sz (⟨Nat.le_refl _, rfl⟩) (lv_sub hl [0, 1] rfl)
    intro ed hI ih ls hl
    have hl : lv_has ls 5 [(1, .int (lst ed)), (0, .ref (a 0))] := hl
    have hI : ed ≤ sz ∧ endF (dif mem) sz = endF (dif mem) ed := hI
    obtain ⟨he, hv⟩ := hI
    have ih_72 := ih
    refine lv_iload_n hx hb dX4_write_72 rfl (lv_at hl 0 rfl) ?_
    refine lv_if_lt (tgt := 95) hx hb dX4_write_73 (by decide) (fun c_73 => ?_) (fun c_73 => ?_)
    · have he0 : ed = 0 := (Nat.eq_zero_or_pos ed).elim id (fun q => absurd c_73 (by obtain ⟨e2, rfl⟩ : ∃ z, ed = z + 1 := ⟨ed - 1, by omega⟩; rw [lst_s]; exact nI_pos (by omega)))
      subst he0
      rw [lst_0] at hl
      obtain ⟨en, hen⟩ : ∃ q : Nat, q = endF (dif mem) sz := ⟨_, rfl⟩
      have hen1 : en = 0 := by rw [hen, hv]; rfl
      have hens : en ≤ sz := by rw [hen]; exact endF_le _ _
      have hene : 0 < en → ¬ dif mem (en - 1) = 0 := by rw [hen]; exact endF_ne _ _
      refine lv_iconst (v := (nI 0)) hx hb dX4_write_95 (by decide) ?_
      refine lv_istore_n (lv' := [(2, .int (nI 0)), (1, .int ((-1))), (0, .ref (a 0))]) hx hb dX4_write_96 rfl hl (by decide) rfl (fun ls hl => ?_)
      refine lp_world (σ := Nat × Nat × (Nat → Nat) × (List Nat)) (fun ⟨i, g2, f2, L⟩ => i ≤ en ∧ Pre g2 f2 L ∧ L ++ encF (dif mem) en i = ([] ++ twoL sz ++ twoL st ++ twoL us ++ blkL pl ln us) ++ encF (dif mem) en 0 ∧ g2 ≤ 262 + 2 * i ∧ (∀ j, f2 j < 256)) (fun ⟨i, g2, f2, L⟩ => en - i) (fun ⟨i, g2, f2, L⟩ => [(2, .int (nI i)), (1, .int ((-1))), (0, .ref (a 0))]) (fun ⟨i, g2, f2, L⟩ => mw cI a sz st us kp ga gl g2 mem pl ln km ks kt ku kl kn f2 wt) ?_ ((0, g, f, ([] ++ twoL sz ++ twoL st ++ twoL us ++ blkL pl ln us))) (⟨by omega, pr1, rfl, by omega, hbf⟩) (hP) (hD) hS (lv_sub hl [0, 1, 2] rfl)
      intro ⟨i, g2, f2, L⟩ hI ih H locs ls hP hD hS hl
      have hl : lv_has ls 5 [(2, .int (nI i)), (1, .int ((-1))), (0, .ref (a 0))] := hl
      have hP : va_P (dC, dI) vwCl (mw cI a sz st us kp ga gl g2 mem pl ln km ks kt ku kl kn f2 wt) H := hP
      have hD : va_D A (mw cI a sz st us kp ga gl g2 mem pl ln km ks kt ku kl kn f2 wt) := hD
      have hI : i ≤ en ∧ Pre g2 f2 L ∧ L ++ encF (dif mem) en i = ([] ++ twoL sz ++ twoL st ++ twoL us ++ blkL pl ln us) ++ encF (dif mem) en 0 ∧ g2 ≤ 262 + 2 * i ∧ (∀ j, f2 j < 256) := hI
      obtain ⟨hi2, hp2, hL, hg2, hb2⟩ := hI
      have ih_97 := ih
      refine lv_iload_n hx hb dX4_write_97 rfl (lv_at hl 0 rfl) ?_
      refine lv_iload_n hx hb dX4_write_98 rfl (lv_at hl 1 rfl) ?_
      refine lv_icmp_gt (tgt := 186) hx hb dX4_write_99 (by decide) (fun c_99 => ?_) (fun c_99 => ?_)
      · refine lv_aload_n hx hb dX4_write_186 rfl (lv_at hl 2 rfl) ?_
        refine va_get (D := (dC, dI)) (ci := 4) (v := .int (nI g2)) (C := RX4) (T := TX4) (N := 18) hx hb hts in_X4 hown hK hP 0 rfl rfl 16 (by decide) lk_1 (fun _ h9 => h9) rfl dX4_write_187 ?_
        exact W.iret (v := (nI g2)) hx hb hr (fun t ht hW => ⟨⟨(nI g2), (g2, f2), rfl, ⟨rfl, by have q := hL; rw [encF_e (by omega), List.append_nil] at q; unfold wcode; rw [← hen]; rw [q] at hp2; simpa [List.append_assoc] using hp2, by omega, hb2⟩, by rw [ht]; exact hP, va_K.moved hW.alike hK, hD⟩, hS.F ht⟩) hS.2.2 dX4_write_190
      · skip
        exact absurd (m1_lt (by omega)) c_99
    · obtain ⟨e1, rfl⟩ : ∃ q, ed = q + 1 := ⟨ed - 1, by have h9 : ¬ ed = 0 := (fun q => c_73 (by rw [q]; decide)); omega⟩
      rw [lst_s] at hl
      refine lv_aload_n hx hb dX4_write_76 rfl (lv_at hl 1 rfl) ?_
      refine va_get (D := (dC, dI)) (ci := 4) (v := .ref (a 1)) (C := RX4) (T := TX4) (N := 18) hx hb hts in_X4 hown hK hP 0 rfl rfl 0 (by decide) lk_7 (fun _ h9 => h9) rfl dX4_write_77 ?_
      refine lv_iload_n hx hb dX4_write_80 rfl (lv_at hl 0 rfl) ?_
      refine va_iald hx hb hK hP 1 0 rfl rfl (vp_in_nI (by omega) (by omega)) dX4_write_81 ?_
      refine tpi (nf_at (by omega)) ?_
      have w_81 := bmem e1
      refine lv_iload_n hx hb dX4_write_82 rfl (lv_at hl 0 rfl) ?_
      refine vp_callSi (W.runS (As := [.int (nI e1)]) (rest := [.int (nI (mem e1))]) ⟨hx, hb, hml, hown, hts⟩ (c_X4_first l e1 (by omega)) (va_cwS 1 hts gX4_write_X4_first rfl rfl rfl (by decide +kernel) ⟨Nat.le_of_ble_eq_true rfl, Nat.le_of_ble_eq_true rfl⟩) ⟨fun a9 U g9 mk9 q9 => ⟨q9.1, trivial⟩, fun U hU hW => ⟨rfl, trivial⟩⟩ rfl rfl hl.1 rfl (lv_room (Nat.le_of_ble_eq_true rfl)) dX4_write_83 ⟨Nat.zero_le _, Nat.zero_le _⟩) (fun r_83 hw => ?_)
      try dsimp only at hw
      subst hw
      have wf_83 := fst_lt e1
      refine lv_icmp_ne (tgt := 95) hx hb dX4_write_86 (by decide) (fun c_86 => ?_) (fun c_86 => ?_)
      · have c_86 : ¬ mem e1 = fst e1 := fun q => c_86 ((nI_eq (a := mem e1) (b := fst e1) (by omega) (by omega)).mpr q)
        obtain ⟨en, hen⟩ : ∃ q : Nat, q = endF (dif mem) sz := ⟨_, rfl⟩
        have hen1 : en = e1 + 1 := by rw [hen, hv, endF_s, if_neg (fun q => c_86 (dif_0.mp q))]
        have hens : en ≤ sz := by rw [hen]; exact endF_le _ _
        have hene : 0 < en → ¬ dif mem (en - 1) = 0 := by rw [hen]; exact endF_ne _ _
        refine lv_iconst (v := (nI 0)) hx hb dX4_write_95 (by decide) ?_
        refine lv_istore_n (lv' := [(2, .int (nI 0)), (1, .int (nI e1)), (0, .ref (a 0))]) hx hb dX4_write_96 rfl hl (by decide) rfl (fun ls hl => ?_)
        refine lp_world (σ := Nat × Nat × (Nat → Nat) × (List Nat)) (fun ⟨i, g2, f2, L⟩ => i ≤ en ∧ Pre g2 f2 L ∧ L ++ encF (dif mem) en i = ([] ++ twoL sz ++ twoL st ++ twoL us ++ blkL pl ln us) ++ encF (dif mem) en 0 ∧ g2 ≤ 262 + 2 * i ∧ (∀ j, f2 j < 256)) (fun ⟨i, g2, f2, L⟩ => en - i) (fun ⟨i, g2, f2, L⟩ => [(2, .int (nI i)), (1, .int (nI e1)), (0, .ref (a 0))]) (fun ⟨i, g2, f2, L⟩ => mw cI a sz st us kp ga gl g2 mem pl ln km ks kt ku kl kn f2 wt) ?_ ((0, g, f, ([] ++ twoL sz ++ twoL st ++ twoL us ++ blkL pl ln us))) (⟨by omega, pr1, rfl, by omega, hbf⟩) (hP) (hD) hS (lv_sub hl [0, 1, 2] rfl)
        intro ⟨i, g2, f2, L⟩ hI ih H locs ls hP hD hS hl
        have hl : lv_has ls 5 [(2, .int (nI i)), (1, .int (nI e1)), (0, .ref (a 0))] := hl
        have hP : va_P (dC, dI) vwCl (mw cI a sz st us kp ga gl g2 mem pl ln km ks kt ku kl kn f2 wt) H := hP
        have hD : va_D A (mw cI a sz st us kp ga gl g2 mem pl ln km ks kt ku kl kn f2 wt) := hD
        have hI : i ≤ en ∧ Pre g2 f2 L ∧ L ++ encF (dif mem) en i = ([] ++ twoL sz ++ twoL st ++ twoL us ++ blkL pl ln us) ++ encF (dif mem) en 0 ∧ g2 ≤ 262 + 2 * i ∧ (∀ j, f2 j < 256) := hI
        obtain ⟨hi2, hp2, hL, hg2, hb2⟩ := hI
        have ih_97 := ih
        refine lv_iload_n hx hb dX4_write_97 rfl (lv_at hl 0 rfl) ?_
        refine lv_iload_n hx hb dX4_write_98 rfl (lv_at hl 1 rfl) ?_
        refine lv_icmp_gt (tgt := 186) hx hb dX4_write_99 (by decide) (fun c_99 => ?_) (fun c_99 => ?_)
        · have c_99 : e1 < i := (nI_ltI (a := e1) (b := i) (by omega) (by omega)).mp c_99
          refine lv_aload_n hx hb dX4_write_186 rfl (lv_at hl 2 rfl) ?_
          refine va_get (D := (dC, dI)) (ci := 4) (v := .int (nI g2)) (C := RX4) (T := TX4) (N := 18) hx hb hts in_X4 hown hK hP 0 rfl rfl 16 (by decide) lk_1 (fun _ h9 => h9) rfl dX4_write_187 ?_
          exact W.iret (v := (nI g2)) hx hb hr (fun t ht hW => ⟨⟨(nI g2), (g2, f2), rfl, ⟨rfl, by have q := hL; rw [encF_e (by omega), List.append_nil] at q; unfold wcode; rw [← hen]; rw [q] at hp2; simpa [List.append_assoc] using hp2, by omega, hb2⟩, by rw [ht]; exact hP, va_K.moved hW.alike hK, hD⟩, hS.F ht⟩) hS.2.2 dX4_write_190
        · have c_99 : ¬ e1 < i := fun q => c_99 ((nI_ltI (a := e1) (b := i) (by omega) (by omega)).mpr q)
          have hd8 := dif_lt bmem i
          refine lv_aload_n hx hb dX4_write_102 rfl (lv_at hl 2 rfl) ?_
          refine va_get (D := (dC, dI)) (ci := 4) (v := .ref (a 1)) (C := RX4) (T := TX4) (N := 18) hx hb hts in_X4 hown hK hP 0 rfl rfl 0 (by decide) lk_7 (fun _ h9 => h9) rfl dX4_write_103 ?_
          refine lv_iload_n hx hb dX4_write_106 rfl (lv_at hl 0 rfl) ?_
          refine va_iald hx hb hK hP 1 0 rfl rfl (vp_in_nI (by omega) (by omega)) dX4_write_107 ?_
          refine tpi (nf_at (by omega)) ?_
          have w_107 := bmem i
          refine lv_iload_n hx hb dX4_write_108 rfl (lv_at hl 0 rfl) ?_
          refine vp_callSi (W.runS (As := [.int (nI i)]) (rest := [.int (nI (mem i))]) ⟨hx, hb, hml, hown, hts⟩ (c_X4_first l i (by omega)) (va_cwS 1 hts gX4_write_X4_first rfl rfl rfl (by decide +kernel) ⟨Nat.le_of_ble_eq_true rfl, Nat.le_of_ble_eq_true rfl⟩) ⟨fun a9 U g9 mk9 q9 => ⟨q9.1, trivial⟩, fun U hU hW => ⟨rfl, trivial⟩⟩ rfl rfl hl.1 rfl (lv_room (Nat.le_of_ble_eq_true rfl)) dX4_write_109 ⟨Nat.zero_le _, Nat.zero_le _⟩) (fun r_109 hw => ?_)
          try dsimp only at hw
          subst hw
          have wf_109 := fst_lt i
          refine lv_ixor hx hb dX4_write_112 ?_
          refine tpi (xorN _ _) ?_
          refine lv_istore_n (lv' := [(3, .int (nI (dif mem i))), (2, .int (nI i)), (1, .int (nI e1)), (0, .ref (a 0))]) hx hb dX4_write_113 rfl hl (by decide) rfl (fun ls hl => ?_)
          refine lv_iload_n hx hb dX4_write_114 rfl (lv_at hl 0 rfl) ?_
          refine lv_if_eq (tgt := 129) hx hb dX4_write_115 (by decide) (fun c_115 => ?_) (fun c_115 => ?_)
          · have c_115 : dif mem i = 0 := (nZ_eq (by omega)).mp c_115
            refine lv_iconst (v := (nI 0)) hx hb dX4_write_129 (by decide) ?_
            refine lv_istore (lv' := [(4, .int (nI 0)), (3, .int (nI (dif mem i))), (2, .int (nI i)), (1, .int (nI e1)), (0, .ref (a 0))]) hx hb dX4_write_130 hl (by decide) rfl (fun ls hl => ?_)
            refine lp_still (σ := Nat) (fun n => n ≤ 256 ∧ rowN (dif mem) en i = rowF (dif mem) en i (256 - n) n ∧ i + n < en) (fun n => 256 - n) (fun n => [(4, .int (nI n)), (3, .int (nI (dif mem i))), (2, .int (nI i)), (1, .int (nI e1)), (0, .ref (a 0))]) ?_ 0 (⟨by omega, rfl, by omega⟩) (lv_sub hl [0, 1, 2, 3, 4] rfl)
            intro n hI ih ls hl
            have hl : lv_has ls 5 [(4, .int (nI n)), (3, .int (nI (dif mem i))), (2, .int (nI i)), (1, .int (nI e1)), (0, .ref (a 0))] := hl
            have hI : n ≤ 256 ∧ rowN (dif mem) en i = rowF (dif mem) en i (256 - n) n ∧ i + n < en := hI
            obtain ⟨hn1, hr1, hin2⟩ := hI
            have ih_132 := ih
            refine lv_iload hx hb dX4_write_132 (lv_at hl 0 rfl) ?_
            refine lv_sipush (v := (nI 256)) hx hb dX4_write_134 (by decide) ?_
            refine lv_icmp_ge (tgt := 165) hx hb dX4_write_137 (by decide) (fun c_137 => ?_) (fun c_137 => ?_)
            · have c_137 : 256 ≤ n := (nI_leI (a := 256) (b := n) (by omega) (by omega)).mp c_137
              have hrow : rowN (dif mem) en i = n := by rw [hr1, show 256 - n = 0 by omega]; rfl
              have hrp : 1 ≤ n := by rw [← hrow]; exact rowN_pos (by omega) c_115
              refine lv_aload_n hx hb dX4_write_165 rfl (lv_at hl 4 rfl) ?_
              refine lv_iconst (v := (nI 0)) hx hb dX4_write_166 (by decide) ?_
              have hFc := va_free (wc := mw cI a sz st us kp ga gl g2 mem pl ln km ks kt ku kl kn f2 wt) hD hS hA [0, 1, 2, 3, 4, 5, 6, 7, 8, 9, 10, 11] rfl
              refine va_callv (va_runV (As := [.int (nI 0)]) (rest := []) ⟨hx, hb, hml, hown, hts⟩ (c_X4_put l dC dI cI a sz st us kp ga gl g2 mem pl ln km ks kt ku kl kn f2 wt H.size 0 (by omega) (by omega)) (cwV 1 hts gX4_write_X4_put rfl rfl rfl (by decide +kernel) ⟨Nat.le_of_ble_eq_true rfl, Nat.le_of_ble_eq_true rfl⟩) ⟨fun a9 U g9 mk9 q9 => by obtain ⟨q0, q1, qP, qK, qD⟩ := q9; exact ⟨q0, q1, qP, va_K.moved (u := U) (U := U.calling g9 mk9 a9) (Vm.Alike.refl U.vm) qK, qD⟩, va_recv hK hP (ci := 4) (q0 := 0) rfl rfl, fun U hU hW => ⟨rfl, by rw [hU], by rw [hU]; exact hP, va_K.moved hW.alike hK, hD.weaken (fun _ _ _ _ => trivial)⟩⟩ rfl rfl hl.1 rfl (lv_room (Nat.le_of_ble_eq_true rfl)) dX4_write_167 ⟨Nat.zero_le _, Nat.zero_le _⟩) hS (fun q _ h => hFc q h) hFc (fun u t H1 locs ht hvm hw hB hz1 hk1 hS => ?_)
              obtain ⟨hP1, hK1, hD1⟩ := hB
              rw [ht] at hP1
              obtain ⟨hP, hD⟩ := va_join (wr := []) (w1 := mw cI a sz st us kp ga gl (g2 + 1) mem pl ln km ks kt ku kl kn (va_up f2 g2 (0 % 256)) wt) hP hD [0, 1, 2, 3, 4, 5, 6, 7, 8, 9, 10, 11] [] rfl rfl (by decide) (by decide) hk1 hFc hP1 hD1
              generalize H1 = H at hP hS ⊢
              have hP : va_P (dC, dI) vwCl (mw cI a sz st us kp ga gl (g2 + 1) mem pl ln km ks kt ku kl kn (va_up f2 g2 (0 % 256)) wt) H := hP
              have hD : va_D A (mw cI a sz st us kp ga gl (g2 + 1) mem pl ln km ks kt ku kl kn (va_up f2 g2 (0 % 256)) wt) := hD
              refine lv_aload_n hx hb dX4_write_170 rfl (lv_at hl 4 rfl) ?_
              refine lv_iload hx hb dX4_write_171 (lv_at hl 0 rfl) ?_
              refine lv_iconst (v := (nI 1)) hx hb dX4_write_173 (by decide) ?_
              refine lv_isub hx hb dX4_write_174 ?_
              refine tpi (pk_sub (by omega)) ?_
              have hFc := va_free (wc := mw cI a sz st us kp ga gl (g2 + 1) mem pl ln km ks kt ku kl kn (va_up f2 g2 (0 % 256)) wt) hD hS hA [0, 1, 2, 3, 4, 5, 6, 7, 8, 9, 10, 11] rfl
              refine va_callv (va_runV (As := [.int (nI (n - 1))]) (rest := []) ⟨hx, hb, hml, hown, hts⟩ (c_X4_put l dC dI cI a sz st us kp ga gl (g2 + 1) mem pl ln km ks kt ku kl kn (va_up f2 g2 (0 % 256)) wt H.size (n - 1) (by omega) (by omega)) (cwV 1 hts gX4_write_X4_put rfl rfl rfl (by decide +kernel) ⟨Nat.le_of_ble_eq_true rfl, Nat.le_of_ble_eq_true rfl⟩) ⟨fun a9 U g9 mk9 q9 => by obtain ⟨q0, q1, qP, qK, qD⟩ := q9; exact ⟨q0, q1, qP, va_K.moved (u := U) (U := U.calling g9 mk9 a9) (Vm.Alike.refl U.vm) qK, qD⟩, va_recv hK hP (ci := 4) (q0 := 0) rfl rfl, fun U hU hW => ⟨rfl, by rw [hU], by rw [hU]; exact hP, va_K.moved hW.alike hK, hD.weaken (fun _ _ _ _ => trivial)⟩⟩ rfl rfl hl.1 rfl (lv_room (Nat.le_of_ble_eq_true rfl)) dX4_write_175 ⟨Nat.zero_le _, Nat.zero_le _⟩) hS (fun q _ h => hFc q h) hFc (fun u t H1 locs ht hvm hw hB hz1 hk1 hS => ?_)
              obtain ⟨hP1, hK1, hD1⟩ := hB
              rw [ht] at hP1
              obtain ⟨hP, hD⟩ := va_join (wr := []) (w1 := mw cI a sz st us kp ga gl (g2 + 1 + 1) mem pl ln km ks kt ku kl kn (va_up (va_up f2 g2 (0 % 256)) (g2 + 1) ((n - 1) % 256)) wt) hP hD [0, 1, 2, 3, 4, 5, 6, 7, 8, 9, 10, 11] [] rfl rfl (by decide) (by decide) hk1 hFc hP1 hD1
              generalize H1 = H at hP hS ⊢
              have hP : va_P (dC, dI) vwCl (mw cI a sz st us kp ga gl (g2 + 1 + 1) mem pl ln km ks kt ku kl kn (va_up (va_up f2 g2 (0 % 256)) (g2 + 1) ((n - 1) % 256)) wt) H := hP
              have hD : va_D A (mw cI a sz st us kp ga gl (g2 + 1 + 1) mem pl ln km ks kt ku kl kn (va_up (va_up f2 g2 (0 % 256)) (g2 + 1) ((n - 1) % 256)) wt) := hD
              refine lv_iload_n hx hb dX4_write_178 rfl (lv_at hl 2 rfl) ?_
              refine lv_iload hx hb dX4_write_179 (lv_at hl 0 rfl) ?_
              refine lv_iadd hx hb dX4_write_181 ?_
              refine tpi (nI_add _ _) ?_
              refine lv_istore_n (lv' := [(2, .int (nI (i + n))), (4, .int (nI n)), (3, .int (nI (dif mem i))), (1, .int (nI e1)), (0, .ref (a 0))]) hx hb dX4_write_182 rfl hl (by decide) rfl (fun ls hl => ?_)
              refine lv_goto (tgt := 97) hx hb dX4_write_183 (by decide) ?_
              exact ih_97 (i + n, g2 + 1 + 1, va_up (va_up f2 g2 (0 % 256)) (g2 + 1) ((n - 1) % 256), L ++ [0 % 256, (n - 1) % 256]) (⟨by omega, by have q := Pre_put (Pre_put hp2 (0 % 256)) ((n - 1) % 256); rw [List.append_assoc] at q; exact q, by rw [← hL, encF_z (by omega) c_115 hrow, List.append_assoc, show (n - 1) % 256 = n - 1 by omega]; rfl, by omega, fun j => up_lt (up_lt hb2 (Nat.mod_lt _ (by decide))) (Nat.mod_lt _ (by decide)) j⟩) (show en - (i + n) < en - i by omega) H locs ls (hP) (hD) hS (lv_sub hl [0, 3, 4] rfl)
            · have c_137 : ¬ 256 ≤ n := fun q => c_137 ((nI_leI (a := 256) (b := n) (by omega) (by omega)).mpr q)
              refine lv_aload_n hx hb dX4_write_140 rfl (lv_at hl 4 rfl) ?_
              refine va_get (D := (dC, dI)) (ci := 4) (v := .ref (a 1)) (C := RX4) (T := TX4) (N := 18) hx hb hts in_X4 hown hK hP 0 rfl rfl 0 (by decide) lk_7 (fun _ h9 => h9) rfl dX4_write_141 ?_
              refine lv_iload_n hx hb dX4_write_144 rfl (lv_at hl 2 rfl) ?_
              refine lv_iload hx hb dX4_write_145 (lv_at hl 0 rfl) ?_
              refine lv_iadd hx hb dX4_write_147 ?_
              refine tpi (nI_add _ _) ?_
              refine va_iald hx hb hK hP 1 0 rfl rfl (vp_in_nI (by omega) (by omega)) dX4_write_148 ?_
              refine tpi (nf_at (by omega)) ?_
              have w_148 := bmem (i + n)
              refine lv_iload_n hx hb dX4_write_149 rfl (lv_at hl 2 rfl) ?_
              refine lv_iload hx hb dX4_write_150 (lv_at hl 0 rfl) ?_
              refine lv_iadd hx hb dX4_write_152 ?_
              refine tpi (nI_add _ _) ?_
              refine vp_callSi (W.runS (As := [.int (nI (i + n))]) (rest := [.int (nI (mem (i + n)))]) ⟨hx, hb, hml, hown, hts⟩ (c_X4_first l (i + n) (by omega)) (va_cwS 1 hts gX4_write_X4_first rfl rfl rfl (by decide +kernel) ⟨Nat.le_of_ble_eq_true rfl, Nat.le_of_ble_eq_true rfl⟩) ⟨fun a9 U g9 mk9 q9 => ⟨q9.1, trivial⟩, fun U hU hW => ⟨rfl, trivial⟩⟩ rfl rfl hl.1 rfl (lv_room (Nat.le_of_ble_eq_true rfl)) dX4_write_153 ⟨Nat.zero_le _, Nat.zero_le _⟩) (fun r_153 hw => ?_)
              try dsimp only at hw
              subst hw
              have wf_153 := fst_lt (i + n)
              refine lv_icmp_ne (tgt := 165) hx hb dX4_write_156 (by decide) (fun c_156 => ?_) (fun c_156 => ?_)
              · have c_156 : ¬ mem (i + n) = fst (i + n) := fun q => c_156 ((nI_eq (a := mem (i + n)) (b := fst (i + n)) (by omega) (by omega)).mpr q)
                have hrow : rowN (dif mem) en i = n := by rw [hr1, rowF_s (by omega), if_neg (fun q => c_156 (dif_0.mp q.2))]
                have hrp : 1 ≤ n := by rw [← hrow]; exact rowN_pos (by omega) c_115
                refine lv_aload_n hx hb dX4_write_165 rfl (lv_at hl 4 rfl) ?_
                refine lv_iconst (v := (nI 0)) hx hb dX4_write_166 (by decide) ?_
                have hFc := va_free (wc := mw cI a sz st us kp ga gl g2 mem pl ln km ks kt ku kl kn f2 wt) hD hS hA [0, 1, 2, 3, 4, 5, 6, 7, 8, 9, 10, 11] rfl
                refine va_callv (va_runV (As := [.int (nI 0)]) (rest := []) ⟨hx, hb, hml, hown, hts⟩ (c_X4_put l dC dI cI a sz st us kp ga gl g2 mem pl ln km ks kt ku kl kn f2 wt H.size 0 (by omega) (by omega)) (cwV 1 hts gX4_write_X4_put rfl rfl rfl (by decide +kernel) ⟨Nat.le_of_ble_eq_true rfl, Nat.le_of_ble_eq_true rfl⟩) ⟨fun a9 U g9 mk9 q9 => by obtain ⟨q0, q1, qP, qK, qD⟩ := q9; exact ⟨q0, q1, qP, va_K.moved (u := U) (U := U.calling g9 mk9 a9) (Vm.Alike.refl U.vm) qK, qD⟩, va_recv hK hP (ci := 4) (q0 := 0) rfl rfl, fun U hU hW => ⟨rfl, by rw [hU], by rw [hU]; exact hP, va_K.moved hW.alike hK, hD.weaken (fun _ _ _ _ => trivial)⟩⟩ rfl rfl hl.1 rfl (lv_room (Nat.le_of_ble_eq_true rfl)) dX4_write_167 ⟨Nat.zero_le _, Nat.zero_le _⟩) hS (fun q _ h => hFc q h) hFc (fun u t H1 locs ht hvm hw hB hz1 hk1 hS => ?_)
                obtain ⟨hP1, hK1, hD1⟩ := hB
                rw [ht] at hP1
                obtain ⟨hP, hD⟩ := va_join (wr := []) (w1 := mw cI a sz st us kp ga gl (g2 + 1) mem pl ln km ks kt ku kl kn (va_up f2 g2 (0 % 256)) wt) hP hD [0, 1, 2, 3, 4, 5, 6, 7, 8, 9, 10, 11] [] rfl rfl (by decide) (by decide) hk1 hFc hP1 hD1
                generalize H1 = H at hP hS ⊢
                have hP : va_P (dC, dI) vwCl (mw cI a sz st us kp ga gl (g2 + 1) mem pl ln km ks kt ku kl kn (va_up f2 g2 (0 % 256)) wt) H := hP
                have hD : va_D A (mw cI a sz st us kp ga gl (g2 + 1) mem pl ln km ks kt ku kl kn (va_up f2 g2 (0 % 256)) wt) := hD
                refine lv_aload_n hx hb dX4_write_170 rfl (lv_at hl 4 rfl) ?_
                refine lv_iload hx hb dX4_write_171 (lv_at hl 0 rfl) ?_
                refine lv_iconst (v := (nI 1)) hx hb dX4_write_173 (by decide) ?_
                refine lv_isub hx hb dX4_write_174 ?_
                refine tpi (pk_sub (by omega)) ?_
                have hFc := va_free (wc := mw cI a sz st us kp ga gl (g2 + 1) mem pl ln km ks kt ku kl kn (va_up f2 g2 (0 % 256)) wt) hD hS hA [0, 1, 2, 3, 4, 5, 6, 7, 8, 9, 10, 11] rfl
                refine va_callv (va_runV (As := [.int (nI (n - 1))]) (rest := []) ⟨hx, hb, hml, hown, hts⟩ (c_X4_put l dC dI cI a sz st us kp ga gl (g2 + 1) mem pl ln km ks kt ku kl kn (va_up f2 g2 (0 % 256)) wt H.size (n - 1) (by omega) (by omega)) (cwV 1 hts gX4_write_X4_put rfl rfl rfl (by decide +kernel) ⟨Nat.le_of_ble_eq_true rfl, Nat.le_of_ble_eq_true rfl⟩) ⟨fun a9 U g9 mk9 q9 => by obtain ⟨q0, q1, qP, qK, qD⟩ := q9; exact ⟨q0, q1, qP, va_K.moved (u := U) (U := U.calling g9 mk9 a9) (Vm.Alike.refl U.vm) qK, qD⟩, va_recv hK hP (ci := 4) (q0 := 0) rfl rfl, fun U hU hW => ⟨rfl, by rw [hU], by rw [hU]; exact hP, va_K.moved hW.alike hK, hD.weaken (fun _ _ _ _ => trivial)⟩⟩ rfl rfl hl.1 rfl (lv_room (Nat.le_of_ble_eq_true rfl)) dX4_write_175 ⟨Nat.zero_le _, Nat.zero_le _⟩) hS (fun q _ h => hFc q h) hFc (fun u t H1 locs ht hvm hw hB hz1 hk1 hS => ?_)
                obtain ⟨hP1, hK1, hD1⟩ := hB
                rw [ht] at hP1
                obtain ⟨hP, hD⟩ := va_join (wr := []) (w1 := mw cI a sz st us kp ga gl (g2 + 1 + 1) mem pl ln km ks kt ku kl kn (va_up (va_up f2 g2 (0 % 256)) (g2 + 1) ((n - 1) % 256)) wt) hP hD [0, 1, 2, 3, 4, 5, 6, 7, 8, 9, 10, 11] [] rfl rfl (by decide) (by decide) hk1 hFc hP1 hD1
                generalize H1 = H at hP hS ⊢
                have hP : va_P (dC, dI) vwCl (mw cI a sz st us kp ga gl (g2 + 1 + 1) mem pl ln km ks kt ku kl kn (va_up (va_up f2 g2 (0 % 256)) (g2 + 1) ((n - 1) % 256)) wt) H := hP
                have hD : va_D A (mw cI a sz st us kp ga gl (g2 + 1 + 1) mem pl ln km ks kt ku kl kn (va_up (va_up f2 g2 (0 % 256)) (g2 + 1) ((n - 1) % 256)) wt) := hD
                refine lv_iload_n hx hb dX4_write_178 rfl (lv_at hl 2 rfl) ?_
                refine lv_iload hx hb dX4_write_179 (lv_at hl 0 rfl) ?_
                refine lv_iadd hx hb dX4_write_181 ?_
                refine tpi (nI_add _ _) ?_
                refine lv_istore_n (lv' := [(2, .int (nI (i + n))), (4, .int (nI n)), (3, .int (nI (dif mem i))), (1, .int (nI e1)), (0, .ref (a 0))]) hx hb dX4_write_182 rfl hl (by decide) rfl (fun ls hl => ?_)
                refine lv_goto (tgt := 97) hx hb dX4_write_183 (by decide) ?_
                exact ih_97 (i + n, g2 + 1 + 1, va_up (va_up f2 g2 (0 % 256)) (g2 + 1) ((n - 1) % 256), L ++ [0 % 256, (n - 1) % 256]) (⟨by omega, by have q := Pre_put (Pre_put hp2 (0 % 256)) ((n - 1) % 256); rw [List.append_assoc] at q; exact q, by rw [← hL, encF_z (by omega) c_115 hrow, List.append_assoc, show (n - 1) % 256 = n - 1 by omega]; rfl, by omega, fun j => up_lt (up_lt hb2 (Nat.mod_lt _ (by decide))) (Nat.mod_lt _ (by decide)) j⟩) (show en - (i + n) < en - i by omega) H locs ls (hP) (hD) hS (lv_sub hl [0, 3, 4] rfl)
              · have c_156 : mem (i + n) = fst (i + n) := (nI_eq (a := mem (i + n)) (b := fst (i + n)) (by omega) (by omega)).mp c_156
                refine lv_iinc (v := (nI (n + 1))) (lv' := [(4, .int (nI (n + 1))), (3, .int (nI (dif mem i))), (2, .int (nI i)), (1, .int (nI e1)), (0, .ref (a 0))]) hx hb dX4_write_159 hl (k := 0) rfl (nI_inc _) (by decide) rfl (fun ls hl => ?_)
                refine lv_goto (tgt := 132) hx hb dX4_write_162 (by decide) ?_
                exact ih_132 (n + 1) (⟨by omega, by rw [hr1, rowF_s (by omega), if_pos ⟨by omega, dif_0.mpr c_156⟩], (Nat.lt_or_ge (i + (n + 1)) en).elim id (fun z => absurd (dif_0.mpr c_156) (by rw [show i + n = en - 1 by omega]; exact hene (by omega)))⟩) (show 256 - (n + 1) < 256 - n by omega) ls (lv_sub hl [0, 1, 2, 3, 4] rfl)
          · have c_115 : ¬ dif mem i = 0 := fun q => c_115 ((nZ_eq (by omega)).mpr q)
            refine lv_aload_n hx hb dX4_write_118 rfl (lv_at hl 3 rfl) ?_
            refine lv_iload_n hx hb dX4_write_119 rfl (lv_at hl 0 rfl) ?_
            have hFc := va_free (wc := mw cI a sz st us kp ga gl g2 mem pl ln km ks kt ku kl kn f2 wt) hD hS hA [0, 1, 2, 3, 4, 5, 6, 7, 8, 9, 10, 11] rfl
            refine va_callv (va_runV (As := [.int (nI (dif mem i))]) (rest := []) ⟨hx, hb, hml, hown, hts⟩ (c_X4_put l dC dI cI a sz st us kp ga gl g2 mem pl ln km ks kt ku kl kn f2 wt H.size (dif mem i) (by omega) (by omega)) (cwV 1 hts gX4_write_X4_put rfl rfl rfl (by decide +kernel) ⟨Nat.le_of_ble_eq_true rfl, Nat.le_of_ble_eq_true rfl⟩) ⟨fun a9 U g9 mk9 q9 => by obtain ⟨q0, q1, qP, qK, qD⟩ := q9; exact ⟨q0, q1, qP, va_K.moved (u := U) (U := U.calling g9 mk9 a9) (Vm.Alike.refl U.vm) qK, qD⟩, va_recv hK hP (ci := 4) (q0 := 0) rfl rfl, fun U hU hW => ⟨rfl, by rw [hU], by rw [hU]; exact hP, va_K.moved hW.alike hK, hD.weaken (fun _ _ _ _ => trivial)⟩⟩ rfl rfl hl.1 rfl (lv_room (Nat.le_of_ble_eq_true rfl)) dX4_write_120 ⟨Nat.zero_le _, Nat.zero_le _⟩) hS (fun q _ h => hFc q h) hFc (fun u t H1 locs ht hvm hw hB hz1 hk1 hS => ?_)
            obtain ⟨hP1, hK1, hD1⟩ := hB
            rw [ht] at hP1
            obtain ⟨hP, hD⟩ := va_join (wr := []) (w1 := mw cI a sz st us kp ga gl (g2 + 1) mem pl ln km ks kt ku kl kn (va_up f2 g2 ((dif mem i) % 256)) wt) hP hD [0, 1, 2, 3, 4, 5, 6, 7, 8, 9, 10, 11] [] rfl rfl (by decide) (by decide) hk1 hFc hP1 hD1
            generalize H1 = H at hP hS ⊢
            have hP : va_P (dC, dI) vwCl (mw cI a sz st us kp ga gl (g2 + 1) mem pl ln km ks kt ku kl kn (va_up f2 g2 ((dif mem i) % 256)) wt) H := hP
            have hD : va_D A (mw cI a sz st us kp ga gl (g2 + 1) mem pl ln km ks kt ku kl kn (va_up f2 g2 ((dif mem i) % 256)) wt) := hD
            refine lv_iinc (v := (nI (i + 1))) (lv' := [(2, .int (nI (i + 1))), (3, .int (nI (dif mem i))), (1, .int (nI e1)), (0, .ref (a 0))]) hx hb dX4_write_123 hl (k := 1) rfl (nI_inc _) (by decide) rfl (fun ls hl => ?_)
            refine lv_goto (tgt := 183) hx hb dX4_write_126 (by decide) ?_
            refine lv_goto (tgt := 97) hx hb dX4_write_183 (by decide) ?_
            exact ih_97 (i + 1, g2 + 1, va_up f2 g2 ((dif mem i) % 256), L ++ [dif mem i % 256]) (⟨by omega, Pre_put hp2 (dif mem i % 256), by rw [← hL, encF_n (by omega) c_115, List.append_assoc, show dif mem i % 256 = dif mem i by omega]; rfl, by omega, fun j => up_lt hb2 (Nat.mod_lt _ (by decide)) j⟩) (show en - (i + 1) < en - i by omega) H locs ls (hP) (hD) hS (lv_sub hl [0, 2, 3] rfl)
      · have c_86 : mem e1 = fst e1 := (nI_eq (a := mem e1) (b := fst e1) (by omega) (by omega)).mp c_86
        refine lv_iinc (v := (lst e1)) (lv' := [(1, .int (lst e1)), (0, .ref (a 0))]) hx hb dX4_write_89 hl (k := 0) rfl (lst_dec e1) (by decide) rfl (fun ls hl => ?_)
        refine lv_goto (tgt := 72) hx hb dX4_write_92 (by decide) ?_
        exact ih_72 e1 (⟨by omega, by rw [hv, endF_s, if_pos (dif_0.mpr c_86)]⟩) (show e1 < e1 + 1 by omega) ls (lv_sub hl [0, 1] rfl)
  · have c_36 : ¬ us ≤ i := fun q => c_36 ((nI_leI (a := us) (b := i) (by omega) (by omega)).mpr q)
    refine lv_aload_n hx hb dX4_write_39 rfl (lv_at hl 1 rfl) ?_
    refine lv_aload_n hx hb dX4_write_40 rfl (lv_at hl 1 rfl) ?_
    refine va_get (D := (dC, dI)) (ci := 4) (v := .ref (a 2)) (C := RX4) (T := TX4) (N := 18) hx hb hts in_X4 hown hK hP 0 rfl rfl 4 (by decide) lk_5 (fun _ h9 => h9) rfl dX4_write_41 ?_
    refine lv_iload_n hx hb dX4_write_44 rfl (lv_at hl 0 rfl) ?_
    refine va_iald hx hb hK hP 2 0 rfl rfl (vp_in_nI (by omega) (by omega)) dX4_write_45 ?_
    refine tpi (nf_at (by omega)) ?_
    have w_45 := bpl i
    have hFc := va_free (wc := mw cI a sz st us kp ga gl g mem pl ln km ks kt ku kl kn f wt) hD hS hA [0, 1, 2, 3, 4, 5, 6, 7, 8, 9, 10, 11] rfl
    refine va_callv (va_runV (As := [.int (nI (pl i))]) (rest := []) ⟨hx, hb, hml, hown, hts⟩ (c_X4_putTwo l dC dI cI a sz st us kp ga gl g mem pl ln km ks kt ku kl kn f wt H.size (pl i) (by omega) (by omega)) (cwV 1 hts gX4_write_X4_putTwo rfl rfl rfl (by decide +kernel) ⟨Nat.le_of_ble_eq_true rfl, Nat.le_of_ble_eq_true rfl⟩) ⟨fun a9 U g9 mk9 q9 => by obtain ⟨q0, q1, qP, qK, qD⟩ := q9; exact ⟨q0, q1, qP, va_K.moved (u := U) (U := U.calling g9 mk9 a9) (Vm.Alike.refl U.vm) qK, qD⟩, va_recv hK hP (ci := 4) (q0 := 0) rfl rfl, fun U hU hW => ⟨rfl, by rw [hU], by rw [hU]; exact hP, va_K.moved hW.alike hK, hD.weaken (fun _ _ _ _ => trivial)⟩⟩ rfl rfl hl.1 rfl (lv_room (Nat.le_of_ble_eq_true rfl)) dX4_write_46 ⟨Nat.zero_le _, Nat.zero_le _⟩) hS (fun q _ h => hFc q h) hFc (fun u t H1 locs ht hvm hw hB hz1 hk1 hS => ?_)
    obtain ⟨hP1, hK1, hD1⟩ := hB
    rw [ht] at hP1
    obtain ⟨hP, hD⟩ := va_join (wr := []) (w1 := mw cI a sz st us kp ga gl (g + 1 + 1) mem pl ln km ks kt ku kl kn (va_up (va_up f g ((pl i) / 2 ^ 8 % 256)) (g + 1) ((pl i) % 256)) wt) hP hD [0, 1, 2, 3, 4, 5, 6, 7, 8, 9, 10, 11] [] rfl rfl (by decide) (by decide) hk1 hFc hP1 hD1
    generalize H1 = H at hP hS ⊢
    have hP : va_P (dC, dI) vwCl (mw cI a sz st us kp ga gl (g + 1 + 1) mem pl ln km ks kt ku kl kn (va_up (va_up f g ((pl i) / 2 ^ 8 % 256)) (g + 1) ((pl i) % 256)) wt) H := hP
    have hD : va_D A (mw cI a sz st us kp ga gl (g + 1 + 1) mem pl ln km ks kt ku kl kn (va_up (va_up f g ((pl i) / 2 ^ 8 % 256)) (g + 1) ((pl i) % 256)) wt) := hD
    refine lv_aload_n hx hb dX4_write_49 rfl (lv_at hl 1 rfl) ?_
    refine lv_aload_n hx hb dX4_write_50 rfl (lv_at hl 1 rfl) ?_
    refine va_get (D := (dC, dI)) (ci := 4) (v := .ref (a 3)) (C := RX4) (T := TX4) (N := 18) hx hb hts in_X4 hown hK hP 0 rfl rfl 5 (by decide) lk_6 (fun _ h9 => h9) rfl dX4_write_51 ?_
    refine lv_iload_n hx hb dX4_write_54 rfl (lv_at hl 0 rfl) ?_
    refine va_iald hx hb hK hP 3 0 rfl rfl (vp_in_nI (by omega) (by omega)) dX4_write_55 ?_
    refine tpi (nf_at (by omega)) ?_
    have w_55 := bln i
    have hFc := va_free (wc := mw cI a sz st us kp ga gl (g + 1 + 1) mem pl ln km ks kt ku kl kn (va_up (va_up f g ((pl i) / 2 ^ 8 % 256)) (g + 1) ((pl i) % 256)) wt) hD hS hA [0, 1, 2, 3, 4, 5, 6, 7, 8, 9, 10, 11] rfl
    refine va_callv (va_runV (As := [.int (nI (ln i))]) (rest := []) ⟨hx, hb, hml, hown, hts⟩ (c_X4_putTwo l dC dI cI a sz st us kp ga gl (g + 1 + 1) mem pl ln km ks kt ku kl kn (va_up (va_up f g ((pl i) / 2 ^ 8 % 256)) (g + 1) ((pl i) % 256)) wt H.size (ln i) (by omega) (by omega)) (cwV 1 hts gX4_write_X4_putTwo rfl rfl rfl (by decide +kernel) ⟨Nat.le_of_ble_eq_true rfl, Nat.le_of_ble_eq_true rfl⟩) ⟨fun a9 U g9 mk9 q9 => by obtain ⟨q0, q1, qP, qK, qD⟩ := q9; exact ⟨q0, q1, qP, va_K.moved (u := U) (U := U.calling g9 mk9 a9) (Vm.Alike.refl U.vm) qK, qD⟩, va_recv hK hP (ci := 4) (q0 := 0) rfl rfl, fun U hU hW => ⟨rfl, by rw [hU], by rw [hU]; exact hP, va_K.moved hW.alike hK, hD.weaken (fun _ _ _ _ => trivial)⟩⟩ rfl rfl hl.1 rfl (lv_room (Nat.le_of_ble_eq_true rfl)) dX4_write_56 ⟨Nat.zero_le _, Nat.zero_le _⟩) hS (fun q _ h => hFc q h) hFc (fun u t H1 locs ht hvm hw hB hz1 hk1 hS => ?_)
    obtain ⟨hP1, hK1, hD1⟩ := hB
    rw [ht] at hP1
    obtain ⟨hP, hD⟩ := va_join (wr := []) (w1 := mw cI a sz st us kp ga gl (g + 1 + 1 + 1 + 1) mem pl ln km ks kt ku kl kn (va_up (va_up (va_up (va_up f g ((pl i) / 2 ^ 8 % 256)) (g + 1) ((pl i) % 256)) (g + 1 + 1) ((ln i) / 2 ^ 8 % 256)) (g + 1 + 1 + 1) ((ln i) % 256)) wt) hP hD [0, 1, 2, 3, 4, 5, 6, 7, 8, 9, 10, 11] [] rfl rfl (by decide) (by decide) hk1 hFc hP1 hD1
    generalize H1 = H at hP hS ⊢
    have hP : va_P (dC, dI) vwCl (mw cI a sz st us kp ga gl (g + 1 + 1 + 1 + 1) mem pl ln km ks kt ku kl kn (va_up (va_up (va_up (va_up f g ((pl i) / 2 ^ 8 % 256)) (g + 1) ((pl i) % 256)) (g + 1 + 1) ((ln i) / 2 ^ 8 % 256)) (g + 1 + 1 + 1) ((ln i) % 256)) wt) H := hP
    have hD : va_D A (mw cI a sz st us kp ga gl (g + 1 + 1 + 1 + 1) mem pl ln km ks kt ku kl kn (va_up (va_up (va_up (va_up f g ((pl i) / 2 ^ 8 % 256)) (g + 1) ((pl i) % 256)) (g + 1 + 1) ((ln i) / 2 ^ 8 % 256)) (g + 1 + 1 + 1) ((ln i) % 256)) wt) := hD
    refine lv_iinc (v := (nI (i + 1))) (lv' := [(1, .int (nI (i + 1))), (0, .ref (a 0))]) hx hb dX4_write_59 hl (k := 0) rfl (nI_inc _) (by decide) rfl (fun ls hl => ?_)
    refine lv_goto (tgt := 31) hx hb dX4_write_62 (by decide) ?_
    exact ih_31 (i + 1, g + 1 + 1 + 1 + 1, va_up (va_up (va_up (va_up f g ((pl i) / 2 ^ 8 % 256)) (g + 1) ((pl i) % 256)) (g + 1 + 1) ((ln i) / 2 ^ 8 % 256)) (g + 1 + 1 + 1) ((ln i) % 256)) (⟨by omega, by have q := Pre_two (Pre_two hpr (pl i)) (ln i); rw [List.append_assoc, List.append_assoc] at q; exact q, by omega, fun j => up_lt (up_lt (up_lt (up_lt hbf (Nat.mod_lt _ (by decide))) (Nat.mod_lt _ (by decide))) (Nat.mod_lt _ (by decide))) (Nat.mod_lt _ (by decide)) j⟩) (show us - (i + 1) < us - i by omega) H locs ls (hP) (hD) hS (lv_sub hl [0, 1] rfl)
