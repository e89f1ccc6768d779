set_option maxHeartbeats 4000000 in
set_option maxRecDepth 100000 in
theorem c_X4_isKey (l : Launch) (q : Int32) (o : Nat) (g1 : o ≤ 7) : Met l yX4_isKey wsX4_isKey ({ frames := 1, cells := 0, slots := 0, locals := 20 }) (va_Pc [.int q, .int (nI o)] (fun _ => True)) (vp_Si (fun r => ((isK o q) ∧ r = nI 1) ∨ (¬ (isK o q) ∧ r = nI 0))) 0 0 (fun _ => False) := by
  refine Met.ofW (cc := cX4_isKey) (maxL := 2) (ret := (some .boolean)) (by decide) rfl ?_
  intro p e s m args below meth c s₁ B hml hv
  obtain ⟨rfl, -⟩ := hv
  have hx := B.exec
  have hb := B.bytes
  have hr := B.returns
  have hts := atoms_spec (ws := wsX4_isKey) B.pre
  have hown : s.vm.findClass RX4 = some m.cls := findClass_of_methodNamed B.named
  have hlocks := B.notSynchronized
  have hl := lv_entry ([.int q, .int (nI o)]) (n := 2) (Nat.le_of_ble_eq_true rfl)
  rw [lg_entry_eq]
  generalize (lg_sl ([.int q, .int (nI o)]) ++ List.replicate (2 - (lg_sl ([.int q, .int (nI o)])).length) Slot.unset).toArray = ls at hl ⊢
  have hl : lv_has ls 2 [(0, .int q), (1, .int (nI o))] := hl
  refine lv_iload_n hx hb dX4_isKey_0 rfl (lv_at hl 1 rfl) ?_
  refine lv_iconst (v := (nI 1)) hx hb dX4_isKey_1 (by decide) ?_
  refine lv_iand hx hb dX4_isKey_2 ?_
  refine tpi (and1 (by omega)) ?_
  refine lv_iconst (v := (nI 1)) hx hb dX4_isKey_3 (by decide) ?_
  refine lv_icmp_ne (tgt := 26) hx hb dX4_isKey_4 (by decide) (fun c_4 => ?_) (fun c_4 => ?_)
  · have c_4 : ¬ o % 2 = 1 := fun q => c_4 ((nI_eq (a := o % 2) (b := 1) (by omega) (by omega)).mpr q)
    refine lv_iload_n hx hb dX4_isKey_26 rfl (lv_at hl 0 rfl) ?_
    refine vp_callSi (W.runS (As := [.int q]) (rest := []) ⟨hx, hb, hml, hown, hts⟩ (c_X4_isWidth l q) (va_cwS 1 hts gX4_isKey_X4_isWidth rfl rfl rfl (by decide +kernel) ⟨Nat.le_of_ble_eq_true rfl, Nat.le_of_ble_eq_true rfl⟩) ⟨fun a9 U g9 mk9 q9 => ⟨q9.1, trivial⟩, fun U hU hW => ⟨rfl, trivial⟩⟩ rfl rfl hl.1 rfl (lv_room (Nat.le_of_ble_eq_true rfl)) dX4_isKey_27 ⟨Nat.zero_le _, Nat.zero_le _⟩) (fun r_27 hw => ?_)
    try dsimp only at hw
    rcases hw with ⟨hc_27, rfl⟩ | ⟨hc_27, rfl⟩
    · obtain ⟨k, hk, rfl⟩ := isW_of hc_27
      exact W.zret (v := (nI 1)) (ty := .boolean) hx hb hr (by decide) (fun t ht hW => ⟨(nI 1), rfl, Or.inl ⟨by unfold isK; rw [if_neg (by omega)]; exact hc_27, rfl⟩, ht⟩) (fun _ h9 => absurd h9 List.not_mem_nil) dX4_isKey_30
    · exact W.zret (v := (nI 0)) (ty := .boolean) hx hb hr (by decide) (fun t ht hW => ⟨(nI 0), rfl, Or.inr ⟨by unfold isK; rw [if_neg (by omega)]; exact hc_27, rfl⟩, ht⟩) (fun _ h9 => absurd h9 List.not_mem_nil) dX4_isKey_30
  · have c_4 : o % 2 = 1 := (nI_eq (a := o % 2) (b := 1) (by omega) (by omega)).mp c_4
    refine lv_iload_n hx hb dX4_isKey_7 rfl (lv_at hl 0 rfl) ?_
    refine lv_iconst (v := (nI 1)) hx hb dX4_isKey_8 (by decide) ?_
    refine lv_icmp_lt (tgt := 22) hx hb dX4_isKey_9 (by decide) (fun c_9 => ?_) (fun c_9 => ?_)
    · refine lv_iconst (v := (nI 0)) hx hb dX4_isKey_22 (by decide) ?_
      refine lv_goto (tgt := 30) hx hb dX4_isKey_23 (by decide) ?_
      exact W.zret (v := (nI 0)) (ty := .boolean) hx hb hr (by decide) (fun t ht hW => ⟨(nI 0), rfl, Or.inr ⟨by unfold isK; rw [if_pos (by omega)]; exact fun q => q.1 c_9, rfl⟩, ht⟩) (fun _ h9 => absurd h9 List.not_mem_nil) dX4_isKey_30
    · refine lv_iload_n hx hb dX4_isKey_12 rfl (lv_at hl 0 rfl) ?_
      refine lv_bipush (v := (nI 64)) hx hb dX4_isKey_13 (by decide) ?_
      refine lv_icmp_gt (tgt := 22) hx hb dX4_isKey_15 (by decide) (fun c_15 => ?_) (fun c_15 => ?_)
      · refine lv_iconst (v := (nI 0)) hx hb dX4_isKey_22 (by decide) ?_
        refine lv_goto (tgt := 30) hx hb dX4_isKey_23 (by decide) ?_
        exact W.zret (v := (nI 0)) (ty := .boolean) hx hb hr (by decide) (fun t ht hW => ⟨(nI 0), rfl, Or.inr ⟨by unfold isK; rw [if_pos (by omega)]; exact fun q => q.2 c_15, rfl⟩, ht⟩) (fun _ h9 => absurd h9 List.not_mem_nil) dX4_isKey_30
      · refine lv_iconst (v := (nI 1)) hx hb dX4_isKey_18 (by decide) ?_
        refine lv_goto (tgt := 30) hx hb dX4_isKey_19 (by decide) ?_
        exact W.zret (v := (nI 1)) (ty := .boolean) hx hb hr (by decide) (fun t ht hW => ⟨(nI 1), rfl, Or.inl ⟨by unfold isK; rw [if_pos (by omega)]; exact ⟨c_9, c_15⟩, rfl⟩, ht⟩) (fun _ h9 => absurd h9 List.not_mem_nil) dX4_isKey_30
set_option maxHeartbeats 4000000 in
set_option maxRecDepth 100000 in
theorem c_X4_isTaken (l : Launch) (dC : Nat → ClassId) (dI : Nat → Nat → Nat) (cI : ClassId) (a : Nat → Nat) (sz st us kp ga gl cs : Nat) (mem pl ln km ks kt ku kl kn cd wt : Nat → Nat) (zz : Nat) (p1 : Int32) (k o : Nat) (g3 : sz ≤ 8192) (bmem : ∀ j, mem j < 256) (gk1 : 1 ≤ k) (gk2 : k ≤ 64) (gk4 : o % 2 = 0 → k ≤ 4) (go : o ≤ 7) : Met l yX4_isTaken wsX4_isTaken ({ frames := 1, cells := 0, slots := 0, locals := 24 }) (va_Pc [.ref (a 0), .int p1, .int (nI k), .int (nI o)] (fun U => U.heap.size = zz ∧ va_P (dC, dI) vwCl (mw cI a sz st us kp ga gl cs mem pl ln km ks kt ku kl kn cd wt) U.heap ∧ va_K (dC, dI) vwCl [(cI, .int)] U ∧ va_D (fun _ => True) (mw cI a sz st us kp ga gl cs mem pl ln km ks kt ku kl kn cd wt))) (va_Qi (fun r _ => ((tkn sz p1 k o) ∧ r = nI 1) ∨ (¬ (tkn sz p1 k o) ∧ r = nI 0)) (fun (_ : Unit) t => va_P (dC, dI) vwCl (mw cI a sz st us kp ga gl cs mem pl ln km ks kt ku kl kn cd (tkW sz mem p1 k o wt)) t.heap ∧ va_K (dC, dI) vwCl [(cI, .int)] t ∧ va_D (va_A (mw cI a sz st us kp ga gl cs mem pl ln km ks kt ku kl kn cd wt) zz) (mw cI a sz st us kp ga gl cs mem pl ln km ks kt ku kl kn cd (tkW sz mem p1 k o wt))) (va_A (mw cI a sz st us kp ga gl cs mem pl ln km ks kt ku kl kn cd wt) zz)) 0 0 (va_A (mw cI a sz st us kp ga gl cs mem pl ln km ks kt ku kl kn cd wt) zz) := by
  refine Met.ofW (cc := cX4_isTaken) (maxL := 5) (ret := (some .boolean)) (by decide) rfl ?_
  intro p e s m args below meth c s₁ B hml hv
  obtain ⟨rfl, hsz, hP, hK, hD0⟩ := hv
  have hx := B.exec
  have hb := B.bytes
  have hr := B.returns
  have hts := atoms_spec (ws := wsX4_isTaken) B.pre
  have hown : s.vm.findClass RX4 = some m.cls := findClass_of_methodNamed B.named
  have hlocks := B.notSynchronized
  subst hsz
  have hD := hD0.self (sz := s.heap.size)
  generalize hAe : va_A (mw cI a sz st us kp ga gl cs mem pl ln km ks kt ku kl kn cd wt) s.heap.size = A at hD ⊢
  have hA : ∀ q : Nat, s.heap.size ≤ q → A q := fun q h => by rw [← hAe]; exact Or.inr h
  have hS : va_S A s.heap s.heap [] := va_S.rf
  have hP : va_P (dC, dI) vwCl (mw cI a sz st us kp ga gl cs mem pl ln km ks kt ku kl kn cd wt) s.heap := hP
  have in_X4 : ∀ w ∈ wsX40, w ∈ wsX4_isTaken := fun _ h => List.mem_cons_of_mem _ (List.mem_append_right _ h)
  have lk_1 := hts (.fieldLink RX4 41 "GlulxHeapModel" "wanted" "[I") (List.mem_of_getElem? (i := 1) rfl)
  have lk_2 := hts (.fieldLink RX4 7 "GlulxHeapModel" "memory" "[I") (List.mem_of_getElem? (i := 2) rfl)
  have hl := lv_entry ([.ref (a 0), .int p1, .int (nI k), .int (nI o)]) (n := 5) (Nat.le_of_ble_eq_true rfl)
  rw [lg_entry_eq]
  generalize (lg_sl ([.ref (a 0), .int p1, .int (nI k), .int (nI o)]) ++ List.replicate (5 - (lg_sl ([.ref (a 0), .int p1, .int (nI k), .int (nI o)])).length) Slot.unset).toArray = ls at hl ⊢
  have hl : lv_has ls 5 [(0, .ref (a 0)), (1, .int p1), (2, .int (nI k)), (3, .int (nI o))] := hl
  refine lv_iload_n hx hb dX4_isTaken_0 rfl (lv_at hl 3 rfl) ?_
  refine lv_iconst (v := (nI 1)) hx hb dX4_isTaken_1 (by decide) ?_
  refine lv_iand hx hb dX4_isTaken_2 ?_
  refine tpi (and1 (by omega)) ?_
  refine lv_if_ne (tgt := 45) hx hb dX4_isTaken_3 (by decide) (fun c_3 => ?_) (fun c_3 => ?_)
  · have c_3 : ¬ o % 2 = 0 := fun q => c_3 ((nZ_eq (by omega)).mpr q)
    rcases Classical.em (p1 < 0) with h0 | h0
    · refine lv_aload_n hx hb dX4_isTaken_45 rfl (lv_at hl 0 rfl) ?_
      refine lv_iload_n hx hb dX4_isTaken_46 rfl (lv_at hl 1 rfl) ?_
      refine lv_i2l (v := p1.toInt64) hx hb dX4_isTaken_47 rfl ?_
      refine lv_iload_n hx hb dX4_isTaken_48 rfl (lv_at hl 2 rfl) ?_
      refine lv_i2l (v := lN k) hx hb dX4_isTaken_49 (nI_l (by omega)) ?_
      refine vp_callSi (W.runV (As := [.long p1.toInt64, .long (lN k)]) (rest := []) ⟨hx, hb, hml, hown, hts⟩ (c_X4_isInN l dC dI cI a sz st us kp ga gl cs mem pl ln km ks kt ku kl kn cd wt p1.toInt64 k (neg64 h0) (by omega) (by omega) (by omega)) (cwV 2 hts gX4_isTaken_X4_isIn rfl rfl rfl (by decide +kernel) ⟨Nat.le_of_ble_eq_true rfl, Nat.le_of_ble_eq_true rfl⟩) ⟨fun a9 U g9 mk9 q9 => by obtain ⟨q0, qP, qK⟩ := q9; exact ⟨q0, qP, va_K.moved (u := U) (U := U.calling g9 mk9 a9) (Vm.Alike.refl U.vm) qK⟩, va_recv hK hP (ci := 4) (q0 := 0) rfl rfl, fun U hU hW => ⟨rfl, by rw [hU]; exact hP, va_K.moved hW.alike hK⟩⟩ rfl rfl hl.1 rfl (lv_room (Nat.le_of_ble_eq_true rfl)) dX4_isTaken_50 ⟨Nat.zero_le _, Nat.zero_le _⟩) (fun r_50 hw => ?_)
      try dsimp only at hw
      subst hw
      refine lv_if_ne (tgt := 58) hx hb dX4_isTaken_53 (by decide) (fun c_53 => ?_) (fun c_53 => ?_)
      · exact absurd c_53 (by decide)
      · have c_53 : 0 = 0 := (nZ_eq (by omega)).mp c_53
        refine lv_iconst (v := (nI 0)) hx hb dX4_isTaken_56 (by decide) ?_
        have e_wt : wt = tkW sz mem p1 k o wt := by unfold tkW; rw [if_neg (fun q => q.elim (by omega) (fun q => q.1 h0))]
        have hP : va_P (dC, dI) vwCl (mw cI a sz st us kp ga gl cs mem pl ln km ks kt ku kl kn cd (tkW sz mem p1 k o wt)) s.heap := by rw [← e_wt]; exact hP
        have hD : va_D A (mw cI a sz st us kp ga gl cs mem pl ln km ks kt ku kl kn cd (tkW sz mem p1 k o wt)) := by rw [← e_wt]; exact hD
        exact W.zret (v := (nI 0)) (ty := .boolean) hx hb hr (by decide) (fun t ht hW => ⟨⟨(nI 0), (), rfl, Or.inr ⟨fun q => q.elim (by omega) (fun q => q.1 h0), rfl⟩, by rw [ht]; exact hP, va_K.moved hW.alike hK, hD⟩, hS.F ht⟩) hS.2.2 dX4_isTaken_57
    · obtain ⟨y, n_y, rfl⟩ := nI_of h0
      refine lv_aload_n hx hb dX4_isTaken_45 rfl (lv_at hl 0 rfl) ?_
      refine lv_iload_n hx hb dX4_isTaken_46 rfl (lv_at hl 1 rfl) ?_
      refine lv_i2l (v := lN y) hx hb dX4_isTaken_47 (nI_l (by omega)) ?_
      refine lv_iload_n hx hb dX4_isTaken_48 rfl (lv_at hl 2 rfl) ?_
      refine lv_i2l (v := lN k) hx hb dX4_isTaken_49 (nI_l (by omega)) ?_
      refine vp_callSi (W.runV (As := [.long (lN y), .long (lN k)]) (rest := []) ⟨hx, hb, hml, hown, hts⟩ (c_X4_isIn l dC dI cI a sz st us kp ga gl cs mem pl ln km ks kt ku kl kn cd wt y k (by omega) (by omega) (by omega)) (cwV 2 hts gX4_isTaken_X4_isIn rfl rfl rfl (by decide +kernel) ⟨Nat.le_of_ble_eq_true rfl, Nat.le_of_ble_eq_true rfl⟩) ⟨fun a9 U g9 mk9 q9 => by obtain ⟨q0, qP, qK⟩ := q9; exact ⟨q0, qP, va_K.moved (u := U) (U := U.calling g9 mk9 a9) (Vm.Alike.refl U.vm) qK⟩, va_recv hK hP (ci := 4) (q0 := 0) rfl rfl, fun U hU hW => ⟨rfl, by rw [hU]; exact hP, va_K.moved hW.alike hK⟩⟩ rfl rfl hl.1 rfl (lv_room (Nat.le_of_ble_eq_true rfl)) dX4_isTaken_50 ⟨Nat.zero_le _, Nat.zero_le _⟩) (fun r_50 hw => ?_)
      try dsimp only at hw
      rcases hw with ⟨hc_50, rfl⟩ | ⟨hc_50, rfl⟩
      · skip
        refine lv_if_ne (tgt := 58) hx hb dX4_isTaken_53 (by decide) (fun c_53 => ?_) (fun c_53 => ?_)
        · have c_53 : ¬ 1 = 0 := fun q => c_53 ((nZ_eq (by omega)).mpr q)
          refine lv_iconst (v := (nI 0)) hx hb dX4_isTaken_58 (by decide) ?_
          refine lv_istore (lv' := [(4, .int (nI 0)), (0, .ref (a 0)), (1, .int (nI y)), (2, .int (nI k)), (3, .int (nI o))]) hx hb dX4_isTaken_59 hl (by decide) rfl (fun ls hl => ?_)
          refine lp_world (σ := Nat × (Nat → Nat)) (fun ⟨i, f⟩ => i ≤ k ∧ f = kyW mem (nI y) k o wt i) (fun ⟨i, f⟩ => k - i) (fun ⟨i, f⟩ => [(4, .int (nI i)), (0, .ref (a 0)), (1, .int (nI y)), (2, .int (nI k)), (3, .int (nI o))]) (fun ⟨i, f⟩ => mw cI a sz st us kp ga gl cs mem pl ln km ks kt ku kl kn cd f) ?_ ((0, wt)) (⟨Nat.zero_le _, by rw [kyW_0]⟩) (hP) (hD) hS (lv_sub hl [0, 1, 2, 3, 4] rfl)
          intro ⟨i, f⟩ hI ih H locs ls hP hD hS hl
          have hl : lv_has ls 5 [(4, .int (nI i)), (0, .ref (a 0)), (1, .int (nI y)), (2, .int (nI k)), (3, .int (nI o))] := hl
          have hP : va_P (dC, dI) vwCl (mw cI a sz st us kp ga gl cs mem pl ln km ks kt ku kl kn cd f) H := hP
          have hD : va_D A (mw cI a sz st us kp ga gl cs mem pl ln km ks kt ku kl kn cd f) := hD
          have hI : i ≤ k ∧ f = kyW mem (nI y) k o wt i := hI
          obtain ⟨hi, hf⟩ := hI
          have ih_61 := ih
          refine lv_iload hx hb dX4_isTaken_61 (lv_at hl 0 rfl) ?_
          refine lv_iload_n hx hb dX4_isTaken_63 rfl (lv_at hl 3 rfl) ?_
          refine lv_icmp_ge (tgt := 89) hx hb dX4_isTaken_64 (by decide) (fun c_64 => ?_) (fun c_64 => ?_)
          · have c_64 : k ≤ i := (nI_leI (a := k) (b := i) (by omega) (by omega)).mp c_64
            refine lv_iconst (v := (nI 1)) hx hb dX4_isTaken_89 (by decide) ?_
            have e_wt : f = tkW sz mem (nI y) k o wt := by unfold tkW; rw [if_pos (Or.inr ⟨h0, by rw [show cl (nI y) = y from nI_clamp n_y]; omega⟩), hf, show i = k by omega]
            have hP : va_P (dC, dI) vwCl (mw cI a sz st us kp ga gl cs mem pl ln km ks kt ku kl kn cd (tkW sz mem (nI y) k o wt)) H := by rw [← e_wt]; exact hP
            have hD : va_D A (mw cI a sz st us kp ga gl cs mem pl ln km ks kt ku kl kn cd (tkW sz mem (nI y) k o wt)) := by rw [← e_wt]; exact hD
            exact W.zret (v := (nI 1)) (ty := .boolean) hx hb hr (by decide) (fun t ht hW => ⟨⟨(nI 1), (), rfl, Or.inl ⟨Or.inr ⟨h0, by rw [show cl (nI y) = y from nI_clamp n_y]; omega⟩, rfl⟩, by rw [ht]; exact hP, va_K.moved hW.alike hK, hD⟩, hS.F ht⟩) hS.2.2 dX4_isTaken_90
          · have c_64 : ¬ k ≤ i := fun q => c_64 ((nI_leI (a := k) (b := i) (by omega) (by omega)).mpr q)
            refine lv_aload_n hx hb dX4_isTaken_67 rfl (lv_at hl 1 rfl) ?_
            refine va_get (D := (dC, dI)) (ci := 4) (v := .ref (a 11)) (C := RX4) (T := TX4) (N := 18) hx hb hts in_X4 hown hK hP 0 rfl rfl 17 (by decide) lk_1 (fun _ h9 => h9) rfl dX4_isTaken_68 ?_
            refine lv_iload hx hb dX4_isTaken_71 (lv_at hl 0 rfl) ?_
            refine lv_aload_n hx hb dX4_isTaken_73 rfl (lv_at hl 1 rfl) ?_
            refine va_get (D := (dC, dI)) (ci := 4) (v := .ref (a 1)) (C := RX4) (T := TX4) (N := 18) hx hb hts in_X4 hown hK hP 0 rfl rfl 0 (by decide) lk_2 (fun _ h9 => h9) rfl dX4_isTaken_74 ?_
            refine lv_iload_n hx hb dX4_isTaken_77 rfl (lv_at hl 2 rfl) ?_
            refine lv_iload hx hb dX4_isTaken_78 (lv_at hl 0 rfl) ?_
            refine lv_iadd hx hb dX4_isTaken_80 ?_
            refine tpi (nI_add _ _) ?_
            refine va_iald hx hb hK hP 1 0 rfl rfl (vp_in_nI (by omega) (by omega)) dX4_isTaken_81 ?_
            refine tpi (nf_at (by omega)) ?_
            have w_81 := bmem (y + i)
            refine va_iast hx hb hK hP hD hS 11 0 rfl rfl (vp_in_nI (by omega) (by omega)) dX4_isTaken_82 (fun H locs hP hD hS => ?_)
            rw [nf_up (by omega)] at hP hD
            have hP : va_P (dC, dI) vwCl (mw cI a sz st us kp ga gl cs mem pl ln km ks kt ku kl kn cd (va_up f i (mem (y + i)))) H := hP
            have hD : va_D A (mw cI a sz st us kp ga gl cs mem pl ln km ks kt ku kl kn cd (va_up f i (mem (y + i)))) := hD
            refine lv_iinc (v := (nI (i + 1))) (lv' := [(4, .int (nI (i + 1))), (0, .ref (a 0)), (1, .int (nI y)), (2, .int (nI k)), (3, .int (nI o))]) hx hb dX4_isTaken_83 hl (k := 0) rfl (nI_inc _) (by decide) rfl (fun ls hl => ?_)
            refine lv_goto (tgt := 61) hx hb dX4_isTaken_86 (by decide) ?_
            exact ih_61 (i + 1, va_up f i (mem (y + i))) (⟨by omega, by rw [hf, kyW_s (by unfold ky; rw [if_neg (by omega), show cl (nI y) = y from nI_clamp n_y])]⟩) (show k - (i + 1) < k - i by omega) H locs ls (hP) (hD) hS (lv_sub hl [0, 1, 2, 3, 4] rfl)
        · exact absurd c_53 (by decide)
      · skip
        refine lv_if_ne (tgt := 58) hx hb dX4_isTaken_53 (by decide) (fun c_53 => ?_) (fun c_53 => ?_)
        · exact absurd c_53 (by decide)
        · have c_53 : 0 = 0 := (nZ_eq (by omega)).mp c_53
          refine lv_iconst (v := (nI 0)) hx hb dX4_isTaken_56 (by decide) ?_
          have e_wt : wt = tkW sz mem (nI y) k o wt := by unfold tkW; rw [if_neg (fun q => q.elim (by omega) (fun q => absurd q.2 (by rw [show cl (nI y) = y from nI_clamp n_y]; omega)))]
          have hP : va_P (dC, dI) vwCl (mw cI a sz st us kp ga gl cs mem pl ln km ks kt ku kl kn cd (tkW sz mem (nI y) k o wt)) s.heap := by rw [← e_wt]; exact hP
          have hD : va_D A (mw cI a sz st us kp ga gl cs mem pl ln km ks kt ku kl kn cd (tkW sz mem (nI y) k o wt)) := by rw [← e_wt]; exact hD
          exact W.zret (v := (nI 0)) (ty := .boolean) hx hb hr (by decide) (fun t ht hW => ⟨⟨(nI 0), (), rfl, Or.inr ⟨fun q => q.elim (by omega) (fun q => absurd q.2 (by rw [show cl (nI y) = y from nI_clamp n_y]; omega)), rfl⟩, by rw [ht]; exact hP, va_K.moved hW.alike hK, hD⟩, hS.F ht⟩) hS.2.2 dX4_isTaken_57
  · have c_3 : o % 2 = 0 := (nZ_eq (by omega)).mp c_3
    refine lv_iconst (v := (nI 0)) hx hb dX4_isTaken_6 (by decide) ?_
    refine lv_istore (lv' := [(4, .int (nI 0)), (0, .ref (a 0)), (1, .int p1), (2, .int (nI k)), (3, .int (nI o))]) hx hb dX4_isTaken_7 hl (by decide) rfl (fun ls hl => ?_)
    refine lp_world (σ := Nat × (Nat → Nat)) (fun ⟨i, f⟩ => i ≤ k ∧ f = kyW mem p1 k o wt i) (fun ⟨i, f⟩ => k - i) (fun ⟨i, f⟩ => [(4, .int (nI i)), (0, .ref (a 0)), (1, .int p1), (2, .int (nI k)), (3, .int (nI o))]) (fun ⟨i, f⟩ => mw cI a sz st us kp ga gl cs mem pl ln km ks kt ku kl kn cd f) ?_ ((0, wt)) (⟨Nat.zero_le _, by rw [kyW_0]⟩) (hP) (hD) hS (lv_sub hl [0, 1, 2, 3, 4] rfl)
    intro ⟨i, f⟩ hI ih H locs ls hP hD hS hl
    have hl : lv_has ls 5 [(4, .int (nI i)), (0, .ref (a 0)), (1, .int p1), (2, .int (nI k)), (3, .int (nI o))] := hl
    have hP : va_P (dC, dI) vwCl (mw cI a sz st us kp ga gl cs mem pl ln km ks kt ku kl kn cd f) H := hP
    have hD : va_D A (mw cI a sz st us kp ga gl cs mem pl ln km ks kt ku kl kn cd f) := hD
    have hI : i ≤ k ∧ f = kyW mem p1 k o wt i := hI
    obtain ⟨hi, hf⟩ := hI
    have ih_9 := ih
    refine lv_iload hx hb dX4_isTaken_9 (lv_at hl 0 rfl) ?_
    refine lv_iload_n hx hb dX4_isTaken_11 rfl (lv_at hl 3 rfl) ?_
    refine lv_icmp_ge (tgt := 43) hx hb dX4_isTaken_12 (by decide) (fun c_12 => ?_) (fun c_12 => ?_)
    · have c_12 : k ≤ i := (nI_leI (a := k) (b := i) (by omega) (by omega)).mp c_12
      refine lv_iconst (v := (nI 1)) hx hb dX4_isTaken_43 (by decide) ?_
      have e_wt : f = tkW sz mem p1 k o wt := by unfold tkW; rw [if_pos (Or.inl (by omega)), hf, show i = k by omega]
      have hP : va_P (dC, dI) vwCl (mw cI a sz st us kp ga gl cs mem pl ln km ks kt ku kl kn cd (tkW sz mem p1 k o wt)) H := by rw [← e_wt]; exact hP
      have hD : va_D A (mw cI a sz st us kp ga gl cs mem pl ln km ks kt ku kl kn cd (tkW sz mem p1 k o wt)) := by rw [← e_wt]; exact hD
      exact W.zret (v := (nI 1)) (ty := .boolean) hx hb hr (by decide) (fun t ht hW => ⟨⟨(nI 1), (), rfl, Or.inl ⟨Or.inl (by omega), rfl⟩, by rw [ht]; exact hP, va_K.moved hW.alike hK, hD⟩, hS.F ht⟩) hS.2.2 dX4_isTaken_44
    · have c_12 : ¬ k ≤ i := fun q => c_12 ((nI_leI (a := k) (b := i) (by omega) (by omega)).mpr q)
      refine lv_aload_n hx hb dX4_isTaken_15 rfl (lv_at hl 1 rfl) ?_
      refine va_get (D := (dC, dI)) (ci := 4) (v := .ref (a 11)) (C := RX4) (T := TX4) (N := 18) hx hb hts in_X4 hown hK hP 0 rfl rfl 17 (by decide) lk_1 (fun _ h9 => h9) rfl dX4_isTaken_16 ?_
      refine lv_iload hx hb dX4_isTaken_19 (lv_at hl 0 rfl) ?_
      refine lv_iload_n hx hb dX4_isTaken_21 rfl (lv_at hl 2 rfl) ?_
      refine lv_bipush (v := (nI 8)) hx hb dX4_isTaken_22 (by decide) ?_
      refine lv_iload_n hx hb dX4_isTaken_24 rfl (lv_at hl 3 rfl) ?_
      refine lv_iconst (v := (nI 1)) hx hb dX4_isTaken_25 (by decide) ?_
      refine lv_isub hx hb dX4_isTaken_26 ?_
      refine tpi (pk_sub (by omega)) ?_
      refine lv_iload hx hb dX4_isTaken_27 (lv_at hl 0 rfl) ?_
      refine lv_isub hx hb dX4_isTaken_29 ?_
      refine tpi (pk_sub (by omega)) ?_
      refine lv_imul hx hb dX4_isTaken_30 ?_
      refine tpi (pk_mul _ _) ?_
      refine lv_ishr hx hb dX4_isTaken_31 ?_
      refine tpi (rfl) ?_
      refine lv_sipush (v := (nI 255)) hx hb dX4_isTaken_32 (by decide) ?_
      refine lv_iand hx hb dX4_isTaken_35 ?_
      refine tpi (sarB p1 (by have := gk4 (by omega); omega)) ?_
      refine va_iast hx hb hK hP hD hS 11 0 rfl rfl (vp_in_nI (by omega) (by omega)) dX4_isTaken_36 (fun H locs hP hD hS => ?_)
      rw [nf_up (by omega)] at hP hD
      have hP : va_P (dC, dI) vwCl (mw cI a sz st us kp ga gl cs mem pl ln km ks kt ku kl kn cd (va_up f i (byt p1 (k - 1 - i)))) H := hP
      have hD : va_D A (mw cI a sz st us kp ga gl cs mem pl ln km ks kt ku kl kn cd (va_up f i (byt p1 (k - 1 - i)))) := hD
      refine lv_iinc (v := (nI (i + 1))) (lv' := [(4, .int (nI (i + 1))), (0, .ref (a 0)), (1, .int p1), (2, .int (nI k)), (3, .int (nI o))]) hx hb dX4_isTaken_37 hl (k := 0) rfl (nI_inc _) (by decide) rfl (fun ls hl => ?_)
      refine lv_goto (tgt := 9) hx hb dX4_isTaken_40 (by decide) ?_
      exact ih_9 (i + 1, va_up f i (byt p1 (k - 1 - i))) (⟨by omega, by rw [hf, kyW_s (by unfold ky; rw [if_pos (by omega)])]⟩) (show k - (i + 1) < k - i by omega) H locs ls (hP) (hD) hS (lv_sub hl [0, 1, 2, 3, 4] rfl)
